theorem dX12_operand_143 : decode cX12_operand 143 = .ok (.iconst 1, 1) := by decide +kernel
theorem dX12_operand_144 : decode cX12_operand 144 = .ok (.ireturn, 1) := by decide +kernel
theorem dX12_operand_145 : decode cX12_operand 145 = .ok (.iload_n 3, 1) := by decide +kernel
theorem dX12_operand_146 : decode cX12_operand 146 = .ok (.iconst 5, 1) := by decide +kernel
theorem dX12_operand_147 : decode cX12_operand 147 = .ok (.if_icmp .ge 59, 3) := by decide +kernel
theorem dX12_operand_150 : decode cX12_operand 150 = .ok (.iload_n 3, 1) := by decide +kernel
theorem dX12_operand_151 : decode cX12_operand 151 = .ok (.iconst 3, 1) := by decide +kernel
theorem dX12_operand_152 : decode cX12_operand 152 = .ok (.if_icmp .ne 17, 3) := by decide +kernel
theorem dX12_operand_155 : decode cX12_operand 155 = .ok (.aload_n 0, 1) := by decide +kernel
theorem dX12_operand_156 : decode cX12_operand 156 = .ok (.iconst 0, 1) := by decide +kernel
theorem dX12_operand_157 : decode cX12_operand 157 = .ok (.aload_n 0, 1) := by decide +kernel
theorem dX12_operand_158 : decode cX12_operand 158 = .ok (.getfield 33, 3) := by decide +kernel
theorem dX12_operand_161 : decode cX12_operand 161 = .ok (.iconst 0, 1) := by decide +kernel
theorem dX12_operand_162 : decode cX12_operand 162 = .ok (.iaload, 1) := by decide +kernel
theorem dX12_operand_163 : decode cX12_operand 163 = .ok (.invokevirtual 203, 3) := by decide +kernel
theorem dX12_operand_166 : decode cX12_operand 166 = .ok (.goto 15, 3) := by decide +kernel
theorem dX12_operand_169 : decode cX12_operand 169 = .ok (.aload_n 0, 1) := by decide +kernel
theorem dX12_operand_170 : decode cX12_operand 170 = .ok (.bipush 12, 2) := by decide +kernel
theorem dX12_operand_172 : decode cX12_operand 172 = .ok (.aload_n 0, 1) := by decide +kernel
theorem dX12_operand_173 : decode cX12_operand 173 = .ok (.getfield 33, 3) := by decide +kernel
theorem dX12_operand_176 : decode cX12_operand 176 = .ok (.iconst 2, 1) := by decide +kernel
theorem dX12_operand_177 : decode cX12_operand 177 = .ok (.iaload, 1) := by decide +kernel
theorem dX12_operand_178 : decode cX12_operand 178 = .ok (.invokevirtual 203, 3) := by decide +kernel
theorem dX12_operand_181 : decode cX12_operand 181 = .ok (.istore 4, 2) := by decide +kernel
theorem dX12_operand_183 : decode cX12_operand 183 = .ok (.iload 4, 2) := by decide +kernel
theorem dX12_operand_185 : decode cX12_operand 185 = .ok (.ifCond .ne 5, 3) := by decide +kernel
theorem dX12_operand_188 : decode cX12_operand 188 = .ok (.iconst 0, 1) := by decide +kernel
theorem dX12_operand_189 : decode cX12_operand 189 = .ok (.ireturn, 1) := by decide +kernel
theorem dX12_operand_190 : decode cX12_operand 190 = .ok (.aload_n 0, 1) := by decide +kernel
theorem dX12_operand_191 : decode cX12_operand 191 = .ok (.iload_n 3, 1) := by decide +kernel
theorem dX12_operand_192 : decode cX12_operand 192 = .ok (.iconst 0, 1) := by decide +kernel
theorem dX12_operand_193 : decode cX12_operand 193 = .ok (.aload_n 0, 1) := by decide +kernel
theorem dX12_operand_194 : decode cX12_operand 194 = .ok (.getfield 188, 3) := by decide +kernel
theorem dX12_operand_197 : decode cX12_operand 197 = .ok (.invokevirtual 414, 3) := by decide +kernel
theorem dX12_operand_200 : decode cX12_operand 200 = .ok (.aload_n 0, 1) := by decide +kernel
theorem dX12_operand_201 : decode cX12_operand 201 = .ok (.invokevirtual 181, 3) := by decide +kernel
theorem dX12_operand_204 : decode cX12_operand 204 = .ok (.iconst 1, 1) := by decide +kernel
theorem dX12_operand_205 : decode cX12_operand 205 = .ok (.ireturn, 1) := by decide +kernel
theorem dX12_operand_206 : decode cX12_operand 206 = .ok (.aload_n 0, 1) := by decide +kernel
theorem dX12_operand_207 : decode cX12_operand 207 = .ok (.getfield 152, 3) := by decide +kernel
theorem dX12_operand_210 : decode cX12_operand 210 = .ok (.iconst 3, 1) := by decide +kernel
theorem dX12_operand_211 : decode cX12_operand 211 = .ok (.if_icmp .ne 21, 3) := by decide +kernel
theorem dX12_operand_214 : decode cX12_operand 214 = .ok (.aload_n 0, 1) := by decide +kernel
theorem dX12_operand_215 : decode cX12_operand 215 = .ok (.getfield 162, 3) := by decide +kernel
theorem dX12_operand_218 : decode cX12_operand 218 = .ok (.bipush 60, 2) := by decide +kernel
theorem dX12_operand_220 : decode cX12_operand 220 = .ok (.if_icmp .lt 12, 3) := by decide +kernel
theorem dX12_operand_223 : decode cX12_operand 223 = .ok (.aload_n 0, 1) := by decide +kernel
theorem dX12_operand_224 : decode cX12_operand 224 = .ok (.getfield 162, 3) := by decide +kernel
theorem dX12_operand_227 : decode cX12_operand 227 = .ok (.bipush 62, 2) := by decide +kernel
theorem dX12_operand_229 : decode cX12_operand 229 = .ok (.if_icmp .le 9, 3) := by decide +kernel
theorem dX12_operand_232 : decode cX12_operand 232 = .ok (.aload_n 0, 1) := by decide +kernel
theorem dX12_operand_233 : decode cX12_operand 233 = .ok (.iconst 1, 1) := by decide +kernel
theorem dX12_operand_234 : decode cX12_operand 234 = .ok (.invokevirtual 178, 3) := by decide +kernel
theorem dX12_operand_237 : decode cX12_operand 237 = .ok (.ireturn, 1) := by decide +kernel
theorem dX12_operand_238 : decode cX12_operand 238 = .ok (.aload_n 0, 1) := by decide +kernel
theorem dX12_operand_239 : decode cX12_operand 239 = .ok (.getfield 162, 3) := by decide +kernel
theorem dX12_operand_242 : decode cX12_operand 242 = .ok (.istore 4, 2) := by decide +kernel
theorem dX12_operand_244 : decode cX12_operand 244 = .ok (.aload_n 0, 1) := by decide +kernel
theorem dX12_operand_245 : decode cX12_operand 245 = .ok (.invokevirtual 181, 3) := by decide +kernel
theorem dX12_operand_248 : decode cX12_operand 248 = .ok (.aload_n 0, 1) := by decide +kernel
theorem dX12_operand_249 : decode cX12_operand 249 = .ok (.getfield 152, 3) := by decide +kernel
theorem dX12_operand_252 : decode cX12_operand 252 = .ok (.iconst 2, 1) := by decide +kernel
theorem dX12_operand_253 : decode cX12_operand 253 = .ok (.if_icmp .eq 9, 3) := by decide +kernel
theorem dX12_operand_256 : decode cX12_operand 256 = .ok (.aload_n 0, 1) := by decide +kernel
theorem dX12_operand_257 : decode cX12_operand 257 = .ok (.iconst 1, 1) := by decide +kernel
theorem dX12_operand_258 : decode cX12_operand 258 = .ok (.invokevirtual 178, 3) := by decide +kernel
theorem dX12_operand_261 : decode cX12_operand 261 = .ok (.ireturn, 1) := by decide +kernel
theorem dX12_operand_262 : decode cX12_operand 262 = .ok (.aload_n 0, 1) := by decide +kernel
theorem dX12_operand_263 : decode cX12_operand 263 = .ok (.iload_n 3, 1) := by decide +kernel
theorem dX12_operand_264 : decode cX12_operand 264 = .ok (.iload 4, 2) := by decide +kernel
theorem dX12_operand_266 : decode cX12_operand 266 = .ok (.aload_n 0, 1) := by decide +kernel
theorem dX12_operand_267 : decode cX12_operand 267 = .ok (.getfield 162, 3) := by decide +kernel
theorem dX12_operand_270 : decode cX12_operand 270 = .ok (.invokevirtual 414, 3) := by decide +kernel
theorem dX12_operand_273 : decode cX12_operand 273 = .ok (.aload_n 0, 1) := by decide +kernel
theorem dX12_operand_274 : decode cX12_operand 274 = .ok (.invokevirtual 181, 3) := by decide +kernel
theorem dX12_operand_277 : decode cX12_operand 277 = .ok (.iconst 1, 1) := by decide +kernel
theorem dX12_operand_278 : decode cX12_operand 278 = .ok (.ireturn, 1) := by decide +kernel
set_option maxRecDepth 20000 in
theorem ggX12_behind_X12_nots : GoodIn wsX12_behind wsX12_nots := goodIn_r _ [11, 4, 3, 6, 12, 13, 14, 10, 15, 16, 17, 59, 60, 61, 62, 63, 64, 65, 66, 67, 68, 69, 70, 71, 72, 73, 74, 75, 76, 77, 78, 79, 80, 81, 82, 83, 84, 85, 86, 87, 88, 89, 90, 91, 92, 93, 94, 95, 96, 97, 98, 99, 100, 101, 102, 103, 104] (by decide +kernel) (by decide +kernel)
set_option maxRecDepth 20000 in
theorem gX12_behind_X12_nots : GoodIn wsX12_behind (wsV RX12 430 RX12 yX12_nots wsX12_nots) := goodIn_app (goodIn_of _ (by decide +kernel)) ggX12_behind_X12_nots
set_option maxRecDepth 20000 in
theorem ggX12_behind_X12_isWord : GoodIn wsX12_behind wsX12_isWord := goodIn_r _ [21, 22, 23, 59, 60, 61, 62, 63, 64, 65, 66, 67, 68, 69, 70, 71, 72, 73, 74, 75, 76, 77, 78, 79, 80, 81, 82, 83, 84, 85, 86, 87, 88, 89, 90, 91, 92, 93, 94, 95, 96, 97, 98, 99, 100, 101, 102, 103, 104] (by decide +kernel) (by decide +kernel)
set_option maxRecDepth 20000 in
theorem gX12_behind_X12_isWord : GoodIn wsX12_behind (wsV RX12 206 RX12 yX12_isWord wsX12_isWord) := goodIn_app (goodIn_of _ (by decide +kernel)) ggX12_behind_X12_isWord
set_option maxRecDepth 20000 in
theorem ggX12_behind_X12_joins : GoodIn wsX12_behind wsX12_joins := goodIn_r _ [27, 4, 3, 12, 13, 14, 10, 15, 16, 17, 59, 60, 61, 62, 63, 64, 65, 66, 67, 68, 69, 70, 71, 72, 73, 74, 75, 76, 77, 78, 79, 80, 81, 82, 83, 84, 85, 86, 87, 88, 89, 90, 91, 92, 93, 94, 95, 96, 97, 98, 99, 100, 101, 102, 103, 104] (by decide +kernel) (by decide +kernel)
set_option maxRecDepth 20000 in
theorem gX12_behind_X12_joins : GoodIn wsX12_behind (wsV RX12 433 RX12 yX12_joins wsX12_joins) := goodIn_app (goodIn_of _ (by decide +kernel)) ggX12_behind_X12_joins
set_option maxRecDepth 20000 in
theorem ggX12_behind_X12_next : GoodIn wsX12_behind wsX12_next := goodIn_r _ [31, 32, 33, 34, 35, 36, 22, 37, 23, 38, 39, 40, 10, 41, 42, 43, 44, 45, 46, 47, 48, 59, 60, 61, 62, 63, 64, 65, 66, 67, 68, 69, 70, 71, 72, 73, 74, 75, 76, 77, 78, 79, 80, 81, 82, 83, 84, 85, 86, 87, 88, 89, 90, 91, 92, 93, 94, 95, 96, 97, 98, 99, 100, 101, 102, 103, 104] (by decide +kernel) (by decide +kernel)
set_option maxRecDepth 20000 in
theorem gX12_behind_X12_next : GoodIn wsX12_behind (wsV RX12 181 RX12 yX12_next wsX12_next) := goodIn_app (goodIn_of _ (by decide +kernel)) ggX12_behind_X12_next
set_option maxRecDepth 20000 in
theorem ggX12_behind_X12_isSign : GoodIn wsX12_behind wsX12_isSign := goodIn_r _ [52, 22, 37, 59, 60, 61, 62, 63, 64, 65, 66, 67, 68, 69, 70, 71, 72, 73, 74, 75, 76, 77, 78, 79, 80, 81, 82, 83, 84, 85, 86, 87, 88, 89, 90, 91, 92, 93, 94, 95, 96, 97, 98, 99, 100, 101, 102, 103, 104] (by decide +kernel) (by decide +kernel)
set_option maxRecDepth 20000 in
theorem gX12_behind_X12_isSign : GoodIn wsX12_behind (wsV RX12 175 RX12 yX12_isSign wsX12_isSign) := goodIn_app (goodIn_of _ (by decide +kernel)) ggX12_behind_X12_isSign
set_option maxRecDepth 20000 in
theorem ggX12_behind_X12_bad : GoodIn wsX12_behind wsX12_bad := goodIn_r _ [56, 57, 33, 58, 59, 60, 61, 62, 63, 64, 65, 66, 67, 68, 69, 70, 71, 72, 73, 74, 75, 76, 77, 78, 79, 80, 81, 82, 83, 84, 85, 86, 87, 88, 89, 90, 91, 92, 93, 94, 95, 96, 97, 98, 99, 100, 101, 102, 103, 104] (by decide +kernel) (by decide +kernel)
set_option maxRecDepth 20000 in
theorem gX12_behind_X12_bad : GoodIn wsX12_behind (wsV RX12 178 RX12 yX12_bad wsX12_bad) := goodIn_app (goodIn_of _ (by decide +kernel)) ggX12_behind_X12_bad
theorem dX12_behind_0 : decode cX12_behind 0 = .ok (.aload_n 0, 1) := by decide +kernel
theorem dX12_behind_1 : decode cX12_behind 1 = .ok (.invokevirtual 430, 3) := by decide +kernel
theorem dX12_behind_4 : decode cX12_behind 4 = .ok (.aload_n 0, 1) := by decide +kernel
theorem dX12_behind_5 : decode cX12_behind 5 = .ok (.ldc2_w 117, 3) := by decide +kernel
theorem dX12_behind_8 : decode cX12_behind 8 = .ok (.invokevirtual 206, 3) := by decide +kernel
theorem dX12_behind_11 : decode cX12_behind 11 = .ok (.ifCond .ne 13, 3) := by decide +kernel
theorem dX12_behind_14 : decode cX12_behind 14 = .ok (.aload_n 0, 1) := by decide +kernel
theorem dX12_behind_15 : decode cX12_behind 15 = .ok (.ldc2_w 115, 3) := by decide +kernel
theorem dX12_behind_18 : decode cX12_behind 18 = .ok (.invokevirtual 206, 3) := by decide +kernel
theorem dX12_behind_21 : decode cX12_behind 21 = .ok (.ifCond .eq 71, 3) := by decide +kernel
theorem dX12_behind_24 : decode cX12_behind 24 = .ok (.aload_n 0, 1) := by decide +kernel
theorem dX12_behind_25 : decode cX12_behind 25 = .ok (.aload_n 0, 1) := by decide +kernel
theorem dX12_behind_26 : decode cX12_behind 26 = .ok (.ldc2_w 117, 3) := by decide +kernel
theorem dX12_behind_29 : decode cX12_behind 29 = .ok (.invokevirtual 206, 3) := by decide +kernel
theorem dX12_behind_32 : decode cX12_behind 32 = .ok (.ifCond .eq 8, 3) := by decide +kernel
theorem dX12_behind_35 : decode cX12_behind 35 = .ok (.bipush 21, 2) := by decide +kernel
theorem dX12_behind_37 : decode cX12_behind 37 = .ok (.goto 5, 3) := by decide +kernel
theorem dX12_behind_40 : decode cX12_behind 40 = .ok (.bipush 22, 2) := by decide +kernel
theorem dX12_behind_42 : decode cX12_behind 42 = .ok (.invokevirtual 433, 3) := by decide +kernel
theorem dX12_behind_45 : decode cX12_behind 45 = .ok (.aload_n 0, 1) := by decide +kernel
theorem dX12_behind_46 : decode cX12_behind 46 = .ok (.getfield 71, 3) := by decide +kernel
theorem dX12_behind_49 : decode cX12_behind 49 = .ok (.aload_n 0, 1) := by decide +kernel
theorem dX12_behind_50 : decode cX12_behind 50 = .ok (.getfield 411, 3) := by decide +kernel
theorem dX12_behind_53 : decode cX12_behind 53 = .ok (.aload_n 0, 1) := by decide +kernel
theorem dX12_behind_54 : decode cX12_behind 54 = .ok (.ldc2_w 117, 3) := by decide +kernel
theorem dX12_behind_57 : decode cX12_behind 57 = .ok (.invokevirtual 206, 3) := by decide +kernel
theorem dX12_behind_60 : decode cX12_behind 60 = .ok (.ifCond .eq 8, 3) := by decide +kernel
theorem dX12_behind_63 : decode cX12_behind 63 = .ok (.bipush 21, 2) := by decide +kernel
theorem dX12_behind_65 : decode cX12_behind 65 = .ok (.goto 5, 3) := by decide +kernel
theorem dX12_behind_68 : decode cX12_behind 68 = .ok (.bipush 22, 2) := by decide +kernel
theorem dX12_behind_70 : decode cX12_behind 70 = .ok (.iastore, 1) := by decide +kernel
theorem dX12_behind_71 : decode cX12_behind 71 = .ok (.aload_n 0, 1) := by decide +kernel
theorem dX12_behind_72 : decode cX12_behind 72 = .ok (.dup, 1) := by decide +kernel
theorem dX12_behind_73 : decode cX12_behind 73 = .ok (.getfield 411, 3) := by decide +kernel
theorem dX12_behind_76 : decode cX12_behind 76 = .ok (.iconst 1, 1) := by decide +kernel
theorem dX12_behind_77 : decode cX12_behind 77 = .ok (.iadd, 1) := by decide +kernel
theorem dX12_behind_78 : decode cX12_behind 78 = .ok (.putfield 411, 3) := by decide +kernel
theorem dX12_behind_81 : decode cX12_behind 81 = .ok (.aload_n 0, 1) := by decide +kernel
theorem dX12_behind_82 : decode cX12_behind 82 = .ok (.iconst 0, 1) := by decide +kernel
theorem dX12_behind_83 : decode cX12_behind 83 = .ok (.putfield 427, 3) := by decide +kernel
theorem dX12_behind_86 : decode cX12_behind 86 = .ok (.aload_n 0, 1) := by decide +kernel
theorem dX12_behind_87 : decode cX12_behind 87 = .ok (.invokevirtual 181, 3) := by decide +kernel
theorem dX12_behind_90 : decode cX12_behind 90 = .ok (.iconst 1, 1) := by decide +kernel
theorem dX12_behind_91 : decode cX12_behind 91 = .ok (.ireturn, 1) := by decide +kernel
theorem dX12_behind_92 : decode cX12_behind 92 = .ok (.aload_n 0, 1) := by decide +kernel
theorem dX12_behind_93 : decode cX12_behind 93 = .ok (.bipush 22, 2) := by decide +kernel
theorem dX12_behind_95 : decode cX12_behind 95 = .ok (.invokevirtual 433, 3) := by decide +kernel
theorem dX12_behind_98 : decode cX12_behind 98 = .ok (.aload_n 0, 1) := by decide +kernel
theorem dX12_behind_99 : decode cX12_behind 99 = .ok (.bipush 41, 2) := by decide +kernel
theorem dX12_behind_101 : decode cX12_behind 101 = .ok (.invokevirtual 175, 3) := by decide +kernel
theorem dX12_behind_104 : decode cX12_behind 104 = .ok (.ifCond .eq 10, 3) := by decide +kernel
theorem dX12_behind_107 : decode cX12_behind 107 = .ok (.aload_n 0, 1) := by decide +kernel
theorem dX12_behind_108 : decode cX12_behind 108 = .ok (.getfield 411, 3) := by decide +kernel
theorem dX12_behind_111 : decode cX12_behind 111 = .ok (.ifCond .ne 9, 3) := by decide +kernel
theorem dX12_behind_114 : decode cX12_behind 114 = .ok (.aload_n 0, 1) := by decide +kernel
theorem dX12_behind_115 : decode cX12_behind 115 = .ok (.iconst 1, 1) := by decide +kernel
theorem dX12_behind_116 : decode cX12_behind 116 = .ok (.invokevirtual 178, 3) := by decide +kernel
theorem dX12_behind_119 : decode cX12_behind 119 = .ok (.ireturn, 1) := by decide +kernel
theorem dX12_behind_120 : decode cX12_behind 120 = .ok (.aload_n 0, 1) := by decide +kernel
theorem dX12_behind_121 : decode cX12_behind 121 = .ok (.dup, 1) := by decide +kernel
theorem dX12_behind_122 : decode cX12_behind 122 = .ok (.getfield 411, 3) := by decide +kernel
theorem dX12_behind_125 : decode cX12_behind 125 = .ok (.iconst 1, 1) := by decide +kernel
theorem dX12_behind_126 : decode cX12_behind 126 = .ok (.isub, 1) := by decide +kernel
theorem dX12_behind_127 : decode cX12_behind 127 = .ok (.putfield 411, 3) := by decide +kernel
theorem dX12_behind_130 : decode cX12_behind 130 = .ok (.aload_n 0, 1) := by decide +kernel
theorem dX12_behind_131 : decode cX12_behind 131 = .ok (.dup, 1) := by decide +kernel
theorem dX12_behind_132 : decode cX12_behind 132 = .ok (.getfield 418, 3) := by decide +kernel
theorem dX12_behind_135 : decode cX12_behind 135 = .ok (.iconst 1, 1) := by decide +kernel
theorem dX12_behind_136 : decode cX12_behind 136 = .ok (.isub, 1) := by decide +kernel
theorem dX12_behind_137 : decode cX12_behind 137 = .ok (.putfield 418, 3) := by decide +kernel
theorem dX12_behind_140 : decode cX12_behind 140 = .ok (.aload_n 0, 1) := by decide +kernel
theorem dX12_behind_141 : decode cX12_behind 141 = .ok (.invokevirtual 181, 3) := by decide +kernel
theorem dX12_behind_144 : decode cX12_behind 144 = .ok (.iconst 1, 1) := by decide +kernel
theorem dX12_behind_145 : decode cX12_behind 145 = .ok (.ireturn, 1) := by decide +kernel
set_option maxRecDepth 20000 in
theorem ggX12_sentence_X12_taken : GoodIn wsX12_sentence wsX12_taken := goodIn_r _ [16, 17, 18, 19, 20, 104, 105, 106, 107, 108, 109, 110, 111, 112, 113, 114, 115, 116, 117, 118, 119, 120, 121, 122, 123, 124, 125, 126, 127, 128, 129, 130, 131, 132, 133, 134, 135, 136, 137, 138, 139, 140, 141, 142, 143, 144, 145, 146, 147, 148, 149] (by decide +kernel) (by decide +kernel)
set_option maxRecDepth 20000 in
theorem gX12_sentence_X12_taken : GoodIn wsX12_sentence (wsV RX12 238 RX12 yX12_taken wsX12_taken) := goodIn_app (goodIn_of _ (by decide +kernel)) ggX12_sentence_X12_taken
set_option maxRecDepth 20000 in
theorem ggX12_sentence_X12_next : GoodIn wsX12_sentence wsX12_next := goodIn_r _ [24, 19, 25, 26, 18, 20, 8, 27, 28, 29, 30, 31, 15, 32, 33, 34, 35, 36, 37, 38, 39, 104, 105, 106, 107, 108, 109, 110, 111, 112, 113, 114, 115, 116, 117, 118, 119, 120, 121, 122, 123, 124, 125, 126, 127, 128, 129, 130, 131, 132, 133, 134, 135, 136, 137, 138, 139, 140, 141, 142, 143, 144, 145, 146, 147, 148, 149] (by decide +kernel) (by decide +kernel)
set_option maxRecDepth 20000 in
theorem gX12_sentence_X12_next : GoodIn wsX12_sentence (wsV RX12 181 RX12 yX12_next wsX12_next) := goodIn_app (goodIn_of _ (by decide +kernel)) ggX12_sentence_X12_next
set_option maxRecDepth 20000 in
theorem ggX12_sentence_X12_nots : GoodIn wsX12_sentence wsX12_nots := goodIn_r _ [43, 5, 44, 6, 45, 46, 47, 15, 48, 11, 3, 104, 105, 106, 107, 108, 109, 110, 111, 112, 113, 114, 115, 116, 117, 118, 119, 120, 121, 122, 123, 124, 125, 126, 127, 128, 129, 130, 131, 132, 133, 134, 135, 136, 137, 138, 139, 140, 141, 142, 143, 144, 145, 146, 147, 148, 149] (by decide +kernel) (by decide +kernel)
set_option maxRecDepth 20000 in
theorem gX12_sentence_X12_nots : GoodIn wsX12_sentence (wsV RX12 430 RX12 yX12_nots wsX12_nots) := goodIn_app (goodIn_of _ (by decide +kernel)) ggX12_sentence_X12_nots
set_option maxRecDepth 20000 in
theorem ggX12_sentence_X12_joins : GoodIn wsX12_sentence wsX12_joins := goodIn_r _ [52, 5, 44, 45, 46, 47, 15, 48, 11, 3, 104, 105, 106, 107, 108, 109, 110, 111, 112, 113, 114, 115, 116, 117, 118, 119, 120, 121, 122, 123, 124, 125, 126, 127, 128, 129, 130, 131, 132, 133, 134, 135, 136, 137, 138, 139, 140, 141, 142, 143, 144, 145, 146, 147, 148, 149] (by decide +kernel) (by decide +kernel)
set_option maxRecDepth 20000 in
theorem gX12_sentence_X12_joins : GoodIn wsX12_sentence (wsV RX12 433 RX12 yX12_joins wsX12_joins) := goodIn_app (goodIn_of _ (by decide +kernel)) ggX12_sentence_X12_joins
set_option maxRecDepth 20000 in
theorem ggX12_sentence_X12_bad : GoodIn wsX12_sentence wsX12_bad := goodIn_r _ [56, 2, 25, 9, 104, 105, 106, 107, 108, 109, 110, 111, 112, 113, 114, 115, 116, 117, 118, 119, 120, 121, 122, 123, 124, 125, 126, 127, 128, 129, 130, 131, 132, 133, 134, 135, 136, 137, 138, 139, 140, 141, 142, 143, 144, 145, 146, 147, 148, 149] (by decide +kernel) (by decide +kernel)
set_option maxRecDepth 20000 in
theorem gX12_sentence_X12_bad : GoodIn wsX12_sentence (wsV RX12 178 RX12 yX12_bad wsX12_bad) := goodIn_app (goodIn_of _ (by decide +kernel)) ggX12_sentence_X12_bad
set_option maxRecDepth 20000 in
theorem ggX12_sentence_X12_behind : GoodIn wsX12_sentence wsX12_behind := goodIn_r _ [60, 61, 62, 44, 5, 7, 6, 40, 41, 42, 15, 43, 45, 46, 47, 48, 11, 3, 63, 64, 65, 66, 8, 28, 49, 50, 51, 52, 21, 22, 23, 24, 19, 25, 26, 18, 20, 27, 29, 30, 31, 32, 33, 34, 35, 36, 37, 38, 39, 67, 68, 69, 70, 53, 54, 55, 56, 2, 9, 104, 105, 106, 107, 108, 109, 110, 111, 112, 113, 114, 115, 116, 117, 118, 119, 120, 121, 122, 123, 124, 125, 126, 127, 128, 129, 130, 131, 132, 133, 134, 135, 136, 137, 138, 139, 140, 141, 142, 143, 144, 145, 146, 147, 148, 149] (by decide +kernel) (by decide +kernel)
set_option maxRecDepth 20000 in
theorem gX12_sentence_X12_behind : GoodIn wsX12_sentence (wsV RX12 436 RX12 yX12_behind wsX12_behind) := goodIn_app (goodIn_of _ (by decide +kernel)) ggX12_sentence_X12_behind
set_option maxRecDepth 20000 in
theorem ggX12_sentence_X12_operand : GoodIn wsX12_sentence wsX12_operand := goodIn_r _ [74, 75, 4, 6, 44, 5, 7, 10, 76, 8, 27, 63, 64, 65, 15, 66, 28, 67, 68, 69, 70, 77, 78, 79, 80, 81, 82, 83, 84, 85, 86, 87, 88, 89, 53, 54, 55, 56, 2, 25, 9, 21, 22, 23, 24, 19, 26, 18, 20, 29, 30, 31, 32, 33, 34, 35, 36, 37, 38, 39, 45, 46, 47, 48, 11, 3, 90, 91, 92, 93, 94, 95, 96, 97, 98, 99, 100, 101, 102, 103, 104, 105, 106, 107, 108, 109, 110, 111, 112, 113, 114, 115, 116, 117, 118, 119, 120, 121, 122, 123, 124, 125, 126, 127, 128, 129, 130, 131, 132, 133, 134, 135, 136, 137, 138, 139, 140, 141, 142, 143, 144, 145, 146, 147, 148, 149] (by decide +kernel) (by decide +kernel)
set_option maxRecDepth 20000 in
theorem gX12_sentence_X12_operand : GoodIn wsX12_sentence (wsV RX12 439 RX12 yX12_operand wsX12_operand) := goodIn_app (goodIn_of _ (by decide +kernel)) ggX12_sentence_X12_operand
theorem dX12_sentence_0 : decode cX12_sentence 0 = .ok (.aload_n 0, 1) := by decide +kernel
theorem dX12_sentence_1 : decode cX12_sentence 1 = .ok (.iconst 0, 1) := by decide +kernel
theorem dX12_sentence_2 : decode cX12_sentence 2 = .ok (.putfield 1, 3) := by decide +kernel
theorem dX12_sentence_5 : decode cX12_sentence 5 = .ok (.aload_n 0, 1) := by decide +kernel
theorem dX12_sentence_6 : decode cX12_sentence 6 = .ok (.sipush 200, 3) := by decide +kernel
theorem dX12_sentence_9 : decode cX12_sentence 9 = .ok (.invokevirtual 238, 3) := by decide +kernel
theorem dX12_sentence_12 : decode cX12_sentence 12 = .ok (.aload_n 0, 1) := by decide +kernel
theorem dX12_sentence_13 : decode cX12_sentence 13 = .ok (.iconst 0, 1) := by decide +kernel
theorem dX12_sentence_14 : decode cX12_sentence 14 = .ok (.putfield 169, 3) := by decide +kernel
theorem dX12_sentence_17 : decode cX12_sentence 17 = .ok (.aload_n 0, 1) := by decide +kernel
theorem dX12_sentence_18 : decode cX12_sentence 18 = .ok (.iconst 0, 1) := by decide +kernel
theorem dX12_sentence_19 : decode cX12_sentence 19 = .ok (.putfield 408, 3) := by decide +kernel
theorem dX12_sentence_22 : decode cX12_sentence 22 = .ok (.aload_n 0, 1) := by decide +kernel
theorem dX12_sentence_23 : decode cX12_sentence 23 = .ok (.iconst 0, 1) := by decide +kernel
theorem dX12_sentence_24 : decode cX12_sentence 24 = .ok (.putfield 424, 3) := by decide +kernel
theorem dX12_sentence_27 : decode cX12_sentence 27 = .ok (.aload_n 0, 1) := by decide +kernel
theorem dX12_sentence_28 : decode cX12_sentence 28 = .ok (.iconst 0, 1) := by decide +kernel
theorem dX12_sentence_29 : decode cX12_sentence 29 = .ok (.putfield 411, 3) := by decide +kernel
theorem dX12_sentence_32 : decode cX12_sentence 32 = .ok (.aload_n 0, 1) := by decide +kernel
theorem dX12_sentence_33 : decode cX12_sentence 33 = .ok (.iconst 1, 1) := by decide +kernel
theorem dX12_sentence_34 : decode cX12_sentence 34 = .ok (.putfield 418, 3) := by decide +kernel
theorem dX12_sentence_37 : decode cX12_sentence 37 = .ok (.aload_n 0, 1) := by decide +kernel
theorem dX12_sentence_38 : decode cX12_sentence 38 = .ok (.iconst 0, 1) := by decide +kernel
theorem dX12_sentence_39 : decode cX12_sentence 39 = .ok (.putfield 427, 3) := by decide +kernel
theorem dX12_sentence_42 : decode cX12_sentence 42 = .ok (.aload_n 0, 1) := by decide +kernel
theorem dX12_sentence_43 : decode cX12_sentence 43 = .ok (.invokevirtual 181, 3) := by decide +kernel
theorem dX12_sentence_46 : decode cX12_sentence 46 = .ok (.iconst 1, 1) := by decide +kernel
theorem dX12_sentence_47 : decode cX12_sentence 47 = .ok (.istore_n 1, 1) := by decide +kernel
theorem dX12_sentence_48 : decode cX12_sentence 48 = .ok (.iload_n 1, 1) := by decide +kernel
theorem dX12_sentence_49 : decode cX12_sentence 49 = .ok (.ifCond .eq 83, 3) := by decide +kernel
theorem dX12_sentence_52 : decode cX12_sentence 52 = .ok (.aload_n 0, 1) := by decide +kernel
theorem dX12_sentence_53 : decode cX12_sentence 53 = .ok (.getfield 427, 3) := by decide +kernel
theorem dX12_sentence_56 : decode cX12_sentence 56 = .ok (.ifCond .eq 45, 3) := by decide +kernel
theorem dX12_sentence_59 : decode cX12_sentence 59 = .ok (.aload_n 0, 1) := by decide +kernel
theorem dX12_sentence_60 : decode cX12_sentence 60 = .ok (.getfield 152, 3) := by decide +kernel
theorem dX12_sentence_63 : decode cX12_sentence 63 = .ok (.ifCond .ne 38, 3) := by decide +kernel
theorem dX12_sentence_66 : decode cX12_sentence 66 = .ok (.aload_n 0, 1) := by decide +kernel
theorem dX12_sentence_67 : decode cX12_sentence 67 = .ok (.invokevirtual 430, 3) := by decide +kernel
theorem dX12_sentence_70 : decode cX12_sentence 70 = .ok (.aload_n 0, 1) := by decide +kernel
theorem dX12_sentence_71 : decode cX12_sentence 71 = .ok (.bipush 22, 2) := by decide +kernel
theorem dX12_sentence_73 : decode cX12_sentence 73 = .ok (.invokevirtual 433, 3) := by decide +kernel
theorem dX12_sentence_76 : decode cX12_sentence 76 = .ok (.aload_n 0, 1) := by decide +kernel
theorem dX12_sentence_77 : decode cX12_sentence 77 = .ok (.getfield 411, 3) := by decide +kernel
theorem dX12_sentence_80 : decode cX12_sentence 80 = .ok (.ifCond .le 16, 3) := by decide +kernel
theorem dX12_sentence_83 : decode cX12_sentence 83 = .ok (.aload_n 0, 1) := by decide +kernel
theorem dX12_sentence_84 : decode cX12_sentence 84 = .ok (.iconst 1, 1) := by decide +kernel
theorem dX12_sentence_85 : decode cX12_sentence 85 = .ok (.invokevirtual 178, 3) := by decide +kernel
theorem dX12_sentence_88 : decode cX12_sentence 88 = .ok (.pop, 1) := by decide +kernel
theorem dX12_sentence_89 : decode cX12_sentence 89 = .ok (.iconst (-1), 1) := by decide +kernel
theorem dX12_sentence_90 : decode cX12_sentence 90 = .ok (.aload_n 0, 1) := by decide +kernel
theorem dX12_sentence_91 : decode cX12_sentence 91 = .ok (.getfield 172, 3) := by decide +kernel
theorem dX12_sentence_94 : decode cX12_sentence 94 = .ok (.isub, 1) := by decide +kernel
theorem dX12_sentence_95 : decode cX12_sentence 95 = .ok (.ireturn, 1) := by decide +kernel
theorem dX12_sentence_96 : decode cX12_sentence 96 = .ok (.iconst 0, 1) := by decide +kernel
theorem dX12_sentence_97 : decode cX12_sentence 97 = .ok (.istore_n 1, 1) := by decide +kernel
theorem dX12_sentence_98 : decode cX12_sentence 98 = .ok (.goto (-50), 3) := by decide +kernel
theorem dX12_sentence_101 : decode cX12_sentence 101 = .ok (.aload_n 0, 1) := by decide +kernel
theorem dX12_sentence_102 : decode cX12_sentence 102 = .ok (.getfield 427, 3) := by decide +kernel
theorem dX12_sentence_105 : decode cX12_sentence 105 = .ok (.ifCond .eq 13, 3) := by decide +kernel
theorem dX12_sentence_108 : decode cX12_sentence 108 = .ok (.aload_n 0, 1) := by decide +kernel
theorem dX12_sentence_109 : decode cX12_sentence 109 = .ok (.invokevirtual 436, 3) := by decide +kernel
theorem dX12_sentence_112 : decode cX12_sentence 112 = .ok (.ifCond .ne (-64), 3) := by decide +kernel
theorem dX12_sentence_115 : decode cX12_sentence 115 = .ok (.goto 10, 3) := by decide +kernel
theorem dX12_sentence_118 : decode cX12_sentence 118 = .ok (.aload_n 0, 1) := by decide +kernel
theorem dX12_sentence_119 : decode cX12_sentence 119 = .ok (.invokevirtual 439, 3) := by decide +kernel
theorem dX12_sentence_122 : decode cX12_sentence 122 = .ok (.ifCond .ne (-74), 3) := by decide +kernel
theorem dX12_sentence_125 : decode cX12_sentence 125 = .ok (.iconst (-1), 1) := by decide +kernel
theorem dX12_sentence_126 : decode cX12_sentence 126 = .ok (.aload_n 0, 1) := by decide +kernel
theorem dX12_sentence_127 : decode cX12_sentence 127 = .ok (.getfield 172, 3) := by decide +kernel
theorem dX12_sentence_130 : decode cX12_sentence 130 = .ok (.isub, 1) := by decide +kernel
theorem dX12_sentence_131 : decode cX12_sentence 131 = .ok (.ireturn, 1) := by decide +kernel
theorem dX12_sentence_132 : decode cX12_sentence 132 = .ok (.aload_n 0, 1) := by decide +kernel
theorem dX12_sentence_133 : decode cX12_sentence 133 = .ok (.getfield 33, 3) := by decide +kernel
theorem dX12_sentence_136 : decode cX12_sentence 136 = .ok (.sipush 153, 3) := by decide +kernel
theorem dX12_sentence_139 : decode cX12_sentence 139 = .ok (.aload_n 0, 1) := by decide +kernel
theorem dX12_sentence_140 : decode cX12_sentence 140 = .ok (.getfield 408, 3) := by decide +kernel
theorem dX12_sentence_143 : decode cX12_sentence 143 = .ok (.iastore, 1) := by decide +kernel
theorem dX12_sentence_144 : decode cX12_sentence 144 = .ok (.iconst 0, 1) := by decide +kernel
theorem dX12_sentence_145 : decode cX12_sentence 145 = .ok (.istore_n 2, 1) := by decide +kernel
theorem dX12_sentence_146 : decode cX12_sentence 146 = .ok (.iload_n 2, 1) := by decide +kernel
theorem dX12_sentence_147 : decode cX12_sentence 147 = .ok (.iconst 3, 1) := by decide +kernel
theorem dX12_sentence_148 : decode cX12_sentence 148 = .ok (.aload_n 0, 1) := by decide +kernel
theorem dX12_sentence_149 : decode cX12_sentence 149 = .ok (.getfield 408, 3) := by decide +kernel
theorem dX12_sentence_152 : decode cX12_sentence 152 = .ok (.imul, 1) := by decide +kernel
theorem dX12_sentence_153 : decode cX12_sentence 153 = .ok (.if_icmp .ge 25, 3) := by decide +kernel
theorem dX12_sentence_156 : decode cX12_sentence 156 = .ok (.aload_n 0, 1) := by decide +kernel
theorem dX12_sentence_157 : decode cX12_sentence 157 = .ok (.getfield 33, 3) := by decide +kernel
theorem dX12_sentence_160 : decode cX12_sentence 160 = .ok (.sipush 154, 3) := by decide +kernel
theorem dX12_sentence_163 : decode cX12_sentence 163 = .ok (.iload_n 2, 1) := by decide +kernel
theorem dX12_sentence_164 : decode cX12_sentence 164 = .ok (.iadd, 1) := by decide +kernel
theorem dX12_sentence_165 : decode cX12_sentence 165 = .ok (.aload_n 0, 1) := by decide +kernel
theorem dX12_sentence_166 : decode cX12_sentence 166 = .ok (.getfield 40, 3) := by decide +kernel
theorem dX12_sentence_169 : decode cX12_sentence 169 = .ok (.iload_n 2, 1) := by decide +kernel
theorem dX12_sentence_170 : decode cX12_sentence 170 = .ok (.iaload, 1) := by decide +kernel
theorem dX12_sentence_171 : decode cX12_sentence 171 = .ok (.iastore, 1) := by decide +kernel
theorem dX12_sentence_172 : decode cX12_sentence 172 = .ok (.iinc 2 1, 3) := by decide +kernel
theorem dX12_sentence_175 : decode cX12_sentence 175 = .ok (.goto (-29), 3) := by decide +kernel
theorem dX12_sentence_178 : decode cX12_sentence 178 = .ok (.aload_n 0, 1) := by decide +kernel
theorem dX12_sentence_179 : decode cX12_sentence 179 = .ok (.getfield 424, 3) := by decide +kernel
theorem dX12_sentence_182 : decode cX12_sentence 182 = .ok (.ireturn, 1) := by decide +kernel
set_option maxRecDepth 20000 in
theorem ggX12_isLeaf_X12_isOut : GoodIn wsX12_isLeaf wsX12_isOut := goodIn_r _ [6, 1, 7, 8, 5, 9, 33, 34, 35, 36, 37, 38, 39, 40, 41, 42, 43, 44, 45, 46, 47, 48, 49, 50, 51, 52, 53, 54, 55, 56, 57, 58, 59, 60, 61, 62, 63, 64, 65, 66, 67, 68, 69, 70, 71, 72, 73, 74, 75, 76, 77, 78] (by decide +kernel) (by decide +kernel)
set_option maxRecDepth 20000 in
theorem gX12_isLeaf_X12_isOut : GoodIn wsX12_isLeaf (wsV RX12 279 RX12 yX12_isOut wsX12_isOut) := goodIn_app (goodIn_of _ (by decide +kernel)) ggX12_isLeaf_X12_isOut
set_option maxRecDepth 20000 in
theorem ggX12_isLeaf_X12_meetsOf : GoodIn wsX12_isLeaf wsX12_meetsOf := goodIn_r _ [13, 1, 33, 34, 35, 36, 37, 38, 39, 40, 41, 42, 43, 44, 45, 46, 47, 48, 49, 50, 51, 52, 53, 54, 55, 56, 57, 58, 59, 60, 61, 62, 63, 64, 65, 66, 67, 68, 69, 70, 71, 72, 73, 74, 75, 76, 77, 78] (by decide +kernel) (by decide +kernel)
set_option maxRecDepth 20000 in
theorem gX12_isLeaf_X12_meetsOf : GoodIn wsX12_isLeaf (wsV RX12 285 RX12 yX12_meetsOf wsX12_meetsOf) := goodIn_app (goodIn_of _ (by decide +kernel)) ggX12_isLeaf_X12_meetsOf
set_option maxRecDepth 20000 in
theorem ggX12_isLeaf_X12_wrongBy : GoodIn wsX12_isLeaf wsX12_wrongBy := goodIn_r _ [17, 1, 18, 19, 20, 5, 21, 22, 23, 24, 25, 7, 8, 9, 33, 34, 35, 36, 37, 38, 39, 40, 41, 42, 43, 44, 45, 46, 47, 48, 49, 50, 51, 52, 53, 54, 55, 56, 57, 58, 59, 60, 61, 62, 63, 64, 65, 66, 67, 68, 69, 70, 71, 72, 73, 74, 75, 76, 77, 78] (by decide +kernel) (by decide +kernel)
set_option maxRecDepth 20000 in
theorem gX12_isLeaf_X12_wrongBy : GoodIn wsX12_isLeaf (wsV RX12 272 RX12 yX12_wrongBy wsX12_wrongBy) := goodIn_app (goodIn_of _ (by decide +kernel)) ggX12_isLeaf_X12_wrongBy
set_option maxRecDepth 20000 in
theorem ggX12_isLeaf_X12_isDueTo : GoodIn wsX12_isLeaf wsX12_isDueTo := goodIn_r _ [29, 1, 7, 8, 5, 9, 33, 34, 35, 36, 37, 38, 39, 40, 41, 42, 43, 44, 45, 46, 47, 48, 49, 50, 51, 52, 53, 54, 55, 56, 57, 58, 59, 60, 61, 62, 63, 64, 65, 66, 67, 68, 69, 70, 71, 72, 73, 74, 75, 76, 77, 78] (by decide +kernel) (by decide +kernel)
set_option maxRecDepth 20000 in
theorem gX12_isLeaf_X12_isDueTo : GoodIn wsX12_isLeaf (wsV RX12 259 RX12 yX12_isDueTo wsX12_isDueTo) := goodIn_app (goodIn_of _ (by decide +kernel)) ggX12_isLeaf_X12_isDueTo
set_option maxRecDepth 20000 in
theorem ggX12_isLeaf_X12_bits : GoodIn wsX12_isLeaf wsX12_bits := goodIn_r _ [32] (by decide +kernel) (by decide +kernel)
set_option maxRecDepth 20000 in
theorem gX12_isLeaf_X12_bits : GoodIn wsX12_isLeaf (va_wsS RX12 442 yX12_bits wsX12_bits) := goodIn_app (goodIn_of _ (by decide +kernel)) ggX12_isLeaf_X12_bits
theorem dX12_isLeaf_0 : decode cX12_isLeaf 0 = .ok (.iload_n 2, 1) := by decide +kernel
theorem dX12_isLeaf_1 : decode cX12_isLeaf 1 = .ok (.tableswitch 114 0 4 #[35, 41, 64, 86, 106], 35) := by decide +kernel
theorem dX12_isLeaf_36 : decode cX12_isLeaf 36 = .ok (.aload_n 0, 1) := by decide +kernel
theorem dX12_isLeaf_37 : decode cX12_isLeaf 37 = .ok (.iload_n 1, 1) := by decide +kernel
theorem dX12_isLeaf_38 : decode cX12_isLeaf 38 = .ok (.invokevirtual 279, 3) := by decide +kernel
theorem dX12_isLeaf_41 : decode cX12_isLeaf 41 = .ok (.ireturn, 1) := by decide +kernel
theorem dX12_isLeaf_42 : decode cX12_isLeaf 42 = .ok (.aload_n 0, 1) := by decide +kernel
theorem dX12_isLeaf_43 : decode cX12_isLeaf 43 = .ok (.bipush 81, 2) := by decide +kernel
theorem dX12_isLeaf_45 : decode cX12_isLeaf 45 = .ok (.iload_n 1, 1) := by decide +kernel
theorem dX12_isLeaf_46 : decode cX12_isLeaf 46 = .ok (.invokevirtual 285, 3) := by decide +kernel
theorem dX12_isLeaf_49 : decode cX12_isLeaf 49 = .ok (.aload_n 0, 1) := by decide +kernel
theorem dX12_isLeaf_50 : decode cX12_isLeaf 50 = .ok (.bipush 117, 2) := by decide +kernel
theorem dX12_isLeaf_52 : decode cX12_isLeaf 52 = .ok (.iload_n 1, 1) := by decide +kernel
theorem dX12_isLeaf_53 : decode cX12_isLeaf 53 = .ok (.invokevirtual 285, 3) := by decide +kernel
theorem dX12_isLeaf_56 : decode cX12_isLeaf 56 = .ok (.if_icmp .eq 7, 3) := by decide +kernel
theorem dX12_isLeaf_59 : decode cX12_isLeaf 59 = .ok (.iconst 1, 1) := by decide +kernel
theorem dX12_isLeaf_60 : decode cX12_isLeaf 60 = .ok (.goto 4, 3) := by decide +kernel
theorem dX12_isLeaf_63 : decode cX12_isLeaf 63 = .ok (.iconst 0, 1) := by decide +kernel
theorem dX12_isLeaf_64 : decode cX12_isLeaf 64 = .ok (.ireturn, 1) := by decide +kernel
theorem dX12_isLeaf_65 : decode cX12_isLeaf 65 = .ok (.aload_n 0, 1) := by decide +kernel
theorem dX12_isLeaf_66 : decode cX12_isLeaf 66 = .ok (.aload_n 0, 1) := by decide +kernel
theorem dX12_isLeaf_67 : decode cX12_isLeaf 67 = .ok (.getfield 33, 3) := by decide +kernel
theorem dX12_isLeaf_70 : decode cX12_isLeaf 70 = .ok (.bipush 34, 2) := by decide +kernel
theorem dX12_isLeaf_72 : decode cX12_isLeaf 72 = .ok (.iload_n 1, 1) := by decide +kernel
theorem dX12_isLeaf_73 : decode cX12_isLeaf 73 = .ok (.iadd, 1) := by decide +kernel
theorem dX12_isLeaf_74 : decode cX12_isLeaf 74 = .ok (.iaload, 1) := by decide +kernel
theorem dX12_isLeaf_75 : decode cX12_isLeaf 75 = .ok (.invokevirtual 272, 3) := by decide +kernel
theorem dX12_isLeaf_78 : decode cX12_isLeaf 78 = .ok (.ifCond .ne 7, 3) := by decide +kernel
theorem dX12_isLeaf_81 : decode cX12_isLeaf 81 = .ok (.iconst 1, 1) := by decide +kernel
theorem dX12_isLeaf_82 : decode cX12_isLeaf 82 = .ok (.goto 4, 3) := by decide +kernel
theorem dX12_isLeaf_85 : decode cX12_isLeaf 85 = .ok (.iconst 0, 1) := by decide +kernel
theorem dX12_isLeaf_86 : decode cX12_isLeaf 86 = .ok (.ireturn, 1) := by decide +kernel
theorem dX12_isLeaf_87 : decode cX12_isLeaf 87 = .ok (.aload_n 0, 1) := by decide +kernel
theorem dX12_isLeaf_88 : decode cX12_isLeaf 88 = .ok (.getfield 33, 3) := by decide +kernel
theorem dX12_isLeaf_91 : decode cX12_isLeaf 91 = .ok (.bipush 34, 2) := by decide +kernel
theorem dX12_isLeaf_93 : decode cX12_isLeaf 93 = .ok (.iload_n 1, 1) := by decide +kernel
theorem dX12_isLeaf_94 : decode cX12_isLeaf 94 = .ok (.iadd, 1) := by decide +kernel
theorem dX12_isLeaf_95 : decode cX12_isLeaf 95 = .ok (.iaload, 1) := by decide +kernel
theorem dX12_isLeaf_96 : decode cX12_isLeaf 96 = .ok (.iload 4, 2) := by decide +kernel
theorem dX12_isLeaf_98 : decode cX12_isLeaf 98 = .ok (.if_icmp .ne 7, 3) := by decide +kernel
theorem dX12_isLeaf_101 : decode cX12_isLeaf 101 = .ok (.iconst 1, 1) := by decide +kernel
theorem dX12_isLeaf_102 : decode cX12_isLeaf 102 = .ok (.goto 4, 3) := by decide +kernel
theorem dX12_isLeaf_105 : decode cX12_isLeaf 105 = .ok (.iconst 0, 1) := by decide +kernel
theorem dX12_isLeaf_106 : decode cX12_isLeaf 106 = .ok (.ireturn, 1) := by decide +kernel
theorem dX12_isLeaf_107 : decode cX12_isLeaf 107 = .ok (.aload_n 0, 1) := by decide +kernel
theorem dX12_isLeaf_108 : decode cX12_isLeaf 108 = .ok (.iload_n 1, 1) := by decide +kernel
theorem dX12_isLeaf_109 : decode cX12_isLeaf 109 = .ok (.iload 4, 2) := by decide +kernel
theorem dX12_isLeaf_111 : decode cX12_isLeaf 111 = .ok (.invokevirtual 259, 3) := by decide +kernel
theorem dX12_isLeaf_114 : decode cX12_isLeaf 114 = .ok (.ireturn, 1) := by decide +kernel
theorem dX12_isLeaf_115 : decode cX12_isLeaf 115 = .ok (.iload_n 2, 1) := by decide +kernel
theorem dX12_isLeaf_116 : decode cX12_isLeaf 116 = .ok (.iconst 5, 1) := by decide +kernel
theorem dX12_isLeaf_117 : decode cX12_isLeaf 117 = .ok (.if_icmp .ne 15, 3) := by decide +kernel
theorem dX12_isLeaf_120 : decode cX12_isLeaf 120 = .ok (.aload_n 0, 1) := by decide +kernel
theorem dX12_isLeaf_121 : decode cX12_isLeaf 121 = .ok (.getfield 33, 3) := by decide +kernel
theorem dX12_isLeaf_124 : decode cX12_isLeaf 124 = .ok (.bipush 28, 2) := by decide +kernel
theorem dX12_isLeaf_126 : decode cX12_isLeaf 126 = .ok (.iload_n 1, 1) := by decide +kernel
theorem dX12_isLeaf_127 : decode cX12_isLeaf 127 = .ok (.iadd, 1) := by decide +kernel
theorem dX12_isLeaf_128 : decode cX12_isLeaf 128 = .ok (.iaload, 1) := by decide +kernel
theorem dX12_isLeaf_129 : decode cX12_isLeaf 129 = .ok (.goto 41, 3) := by decide +kernel
theorem dX12_isLeaf_132 : decode cX12_isLeaf 132 = .ok (.iload_n 2, 1) := by decide +kernel
theorem dX12_isLeaf_133 : decode cX12_isLeaf 133 = .ok (.bipush 6, 2) := by decide +kernel
theorem dX12_isLeaf_135 : decode cX12_isLeaf 135 = .ok (.if_icmp .ne 15, 3) := by decide +kernel
theorem dX12_isLeaf_138 : decode cX12_isLeaf 138 = .ok (.aload_n 0, 1) := by decide +kernel
theorem dX12_isLeaf_139 : decode cX12_isLeaf 139 = .ok (.getfield 33, 3) := by decide +kernel
theorem dX12_isLeaf_142 : decode cX12_isLeaf 142 = .ok (.bipush 22, 2) := by decide +kernel
theorem dX12_isLeaf_144 : decode cX12_isLeaf 144 = .ok (.iload_n 1, 1) := by decide +kernel
theorem dX12_isLeaf_145 : decode cX12_isLeaf 145 = .ok (.iadd, 1) := by decide +kernel
theorem dX12_isLeaf_146 : decode cX12_isLeaf 146 = .ok (.iaload, 1) := by decide +kernel
theorem dX12_isLeaf_147 : decode cX12_isLeaf 147 = .ok (.goto 23, 3) := by decide +kernel
theorem dX12_isLeaf_150 : decode cX12_isLeaf 150 = .ok (.iload_n 2, 1) := by decide +kernel
theorem dX12_isLeaf_151 : decode cX12_isLeaf 151 = .ok (.bipush 7, 2) := by decide +kernel
theorem dX12_isLeaf_153 : decode cX12_isLeaf 153 = .ok (.if_icmp .ne 16, 3) := by decide +kernel
theorem dX12_isLeaf_156 : decode cX12_isLeaf 156 = .ok (.aload_n 0, 1) := by decide +kernel
theorem dX12_isLeaf_157 : decode cX12_isLeaf 157 = .ok (.bipush 117, 2) := by decide +kernel
theorem dX12_isLeaf_159 : decode cX12_isLeaf 159 = .ok (.iload_n 1, 1) := by decide +kernel
theorem dX12_isLeaf_160 : decode cX12_isLeaf 160 = .ok (.invokevirtual 285, 3) := by decide +kernel
theorem dX12_isLeaf_163 : decode cX12_isLeaf 163 = .ok (.invokestatic 442, 3) := by decide +kernel
theorem dX12_isLeaf_166 : decode cX12_isLeaf 166 = .ok (.goto 4, 3) := by decide +kernel
theorem dX12_isLeaf_169 : decode cX12_isLeaf 169 = .ok (.iload_n 1, 1) := by decide +kernel
theorem dX12_isLeaf_170 : decode cX12_isLeaf 170 = .ok (.istore 5, 2) := by decide +kernel
theorem dX12_isLeaf_172 : decode cX12_isLeaf 172 = .ok (.iload_n 3, 1) := by decide +kernel
theorem dX12_isLeaf_173 : decode cX12_isLeaf 173 = .ok (.bipush 60, 2) := by decide +kernel
theorem dX12_isLeaf_175 : decode cX12_isLeaf 175 = .ok (.if_icmp .ne 18, 3) := by decide +kernel
theorem dX12_isLeaf_178 : decode cX12_isLeaf 178 = .ok (.iload 5, 2) := by decide +kernel
theorem dX12_isLeaf_180 : decode cX12_isLeaf 180 = .ok (.iload 4, 2) := by decide +kernel
theorem dX12_isLeaf_182 : decode cX12_isLeaf 182 = .ok (.if_icmp .ge 7, 3) := by decide +kernel
theorem dX12_isLeaf_185 : decode cX12_isLeaf 185 = .ok (.iconst 1, 1) := by decide +kernel
theorem dX12_isLeaf_186 : decode cX12_isLeaf 186 = .ok (.goto 40, 3) := by decide +kernel
theorem dX12_isLeaf_189 : decode cX12_isLeaf 189 = .ok (.iconst 0, 1) := by decide +kernel
theorem dX12_isLeaf_190 : decode cX12_isLeaf 190 = .ok (.goto 36, 3) := by decide +kernel
theorem dX12_isLeaf_193 : decode cX12_isLeaf 193 = .ok (.iload_n 3, 1) := by decide +kernel
theorem dX12_isLeaf_194 : decode cX12_isLeaf 194 = .ok (.bipush 61, 2) := by decide +kernel
theorem dX12_isLeaf_196 : decode cX12_isLeaf 196 = .ok (.if_icmp .ne 18, 3) := by decide +kernel
theorem dX12_isLeaf_199 : decode cX12_isLeaf 199 = .ok (.iload 5, 2) := by decide +kernel
theorem dX12_isLeaf_201 : decode cX12_isLeaf 201 = .ok (.iload 4, 2) := by decide +kernel
theorem dX12_isLeaf_203 : decode cX12_isLeaf 203 = .ok (.if_icmp .ne 7, 3) := by decide +kernel
theorem dX12_isLeaf_206 : decode cX12_isLeaf 206 = .ok (.iconst 1, 1) := by decide +kernel
theorem dX12_isLeaf_207 : decode cX12_isLeaf 207 = .ok (.goto 19, 3) := by decide +kernel
theorem dX12_isLeaf_210 : decode cX12_isLeaf 210 = .ok (.iconst 0, 1) := by decide +kernel
theorem dX12_isLeaf_211 : decode cX12_isLeaf 211 = .ok (.goto 15, 3) := by decide +kernel
theorem dX12_isLeaf_214 : decode cX12_isLeaf 214 = .ok (.iload 5, 2) := by decide +kernel
theorem dX12_isLeaf_216 : decode cX12_isLeaf 216 = .ok (.iload 4, 2) := by decide +kernel
theorem dX12_isLeaf_218 : decode cX12_isLeaf 218 = .ok (.if_icmp .le 7, 3) := by decide +kernel
theorem dX12_isLeaf_221 : decode cX12_isLeaf 221 = .ok (.iconst 1, 1) := by decide +kernel
theorem dX12_isLeaf_222 : decode cX12_isLeaf 222 = .ok (.goto 4, 3) := by decide +kernel
theorem dX12_isLeaf_225 : decode cX12_isLeaf 225 = .ok (.iconst 0, 1) := by decide +kernel
theorem dX12_isLeaf_226 : decode cX12_isLeaf 226 = .ok (.ireturn, 1) := by decide +kernel
set_option maxRecDepth 20000 in
theorem ggX12_isSaid_X12_isLeaf : GoodIn wsX12_isSaid wsX12_isLeaf := goodIn_r _ [7, 1, 8, 9, 10, 6, 11, 12, 13, 14, 15, 16, 17, 18, 19, 20, 21, 22, 23, 24, 25, 26, 27, 28, 29, 30, 31, 32, 33, 34, 35, 36, 37, 38, 39, 40, 41, 42, 43, 44, 45, 46, 47, 48, 49, 50, 51, 52, 53, 54, 55, 56, 57, 58, 59, 60, 61, 62, 63, 64, 65, 66, 67, 68, 69, 70, 71, 72, 73, 74, 75, 76, 77, 78, 79, 80, 81, 82, 83] (by decide +kernel) (by decide +kernel)
set_option maxRecDepth 20000 in
theorem gX12_isSaid_X12_isLeaf : GoodIn wsX12_isSaid (wsV RX12 445 RX12 yX12_isLeaf wsX12_isLeaf) := goodIn_app (goodIn_of _ (by decide +kernel)) ggX12_isSaid_X12_isLeaf
theorem dX12_isSaid_0 : decode cX12_isSaid 0 = .ok (.iconst 0, 1) := by decide +kernel
theorem dX12_isSaid_1 : decode cX12_isSaid 1 = .ok (.istore_n 2, 1) := by decide +kernel
theorem dX12_isSaid_2 : decode cX12_isSaid 2 = .ok (.iconst 0, 1) := by decide +kernel
theorem dX12_isSaid_3 : decode cX12_isSaid 3 = .ok (.istore_n 3, 1) := by decide +kernel
theorem dX12_isSaid_4 : decode cX12_isSaid 4 = .ok (.iload_n 3, 1) := by decide +kernel
theorem dX12_isSaid_5 : decode cX12_isSaid 5 = .ok (.aload_n 0, 1) := by decide +kernel
theorem dX12_isSaid_6 : decode cX12_isSaid 6 = .ok (.getfield 33, 3) := by decide +kernel
theorem dX12_isSaid_9 : decode cX12_isSaid 9 = .ok (.sipush 153, 3) := by decide +kernel
theorem dX12_isSaid_12 : decode cX12_isSaid 12 = .ok (.iaload, 1) := by decide +kernel
theorem dX12_isSaid_13 : decode cX12_isSaid 13 = .ok (.if_icmp .ge 199, 3) := by decide +kernel
theorem dX12_isSaid_16 : decode cX12_isSaid 16 = .ok (.sipush 154, 3) := by decide +kernel
theorem dX12_isSaid_19 : decode cX12_isSaid 19 = .ok (.iconst 3, 1) := by decide +kernel
theorem dX12_isSaid_20 : decode cX12_isSaid 20 = .ok (.iload_n 3, 1) := by decide +kernel
theorem dX12_isSaid_21 : decode cX12_isSaid 21 = .ok (.imul, 1) := by decide +kernel
theorem dX12_isSaid_22 : decode cX12_isSaid 22 = .ok (.iadd, 1) := by decide +kernel
theorem dX12_isSaid_23 : decode cX12_isSaid 23 = .ok (.istore 4, 2) := by decide +kernel
theorem dX12_isSaid_25 : decode cX12_isSaid 25 = .ok (.aload_n 0, 1) := by decide +kernel
theorem dX12_isSaid_26 : decode cX12_isSaid 26 = .ok (.getfield 33, 3) := by decide +kernel
theorem dX12_isSaid_29 : decode cX12_isSaid 29 = .ok (.iload 4, 2) := by decide +kernel
theorem dX12_isSaid_31 : decode cX12_isSaid 31 = .ok (.iaload, 1) := by decide +kernel
theorem dX12_isSaid_32 : decode cX12_isSaid 32 = .ok (.bipush 20, 2) := by decide +kernel
theorem dX12_isSaid_34 : decode cX12_isSaid 34 = .ok (.if_icmp .ne 30, 3) := by decide +kernel
theorem dX12_isSaid_37 : decode cX12_isSaid 37 = .ok (.aload_n 0, 1) := by decide +kernel
theorem dX12_isSaid_38 : decode cX12_isSaid 38 = .ok (.getfield 74, 3) := by decide +kernel
theorem dX12_isSaid_41 : decode cX12_isSaid 41 = .ok (.iload_n 2, 1) := by decide +kernel
theorem dX12_isSaid_42 : decode cX12_isSaid 42 = .ok (.iconst 1, 1) := by decide +kernel
theorem dX12_isSaid_43 : decode cX12_isSaid 43 = .ok (.isub, 1) := by decide +kernel
theorem dX12_isSaid_44 : decode cX12_isSaid 44 = .ok (.aload_n 0, 1) := by decide +kernel
theorem dX12_isSaid_45 : decode cX12_isSaid 45 = .ok (.getfield 74, 3) := by decide +kernel
theorem dX12_isSaid_48 : decode cX12_isSaid 48 = .ok (.iload_n 2, 1) := by decide +kernel
theorem dX12_isSaid_49 : decode cX12_isSaid 49 = .ok (.iconst 1, 1) := by decide +kernel
theorem dX12_isSaid_50 : decode cX12_isSaid 50 = .ok (.isub, 1) := by decide +kernel
theorem dX12_isSaid_51 : decode cX12_isSaid 51 = .ok (.baload, 1) := by decide +kernel
theorem dX12_isSaid_52 : decode cX12_isSaid 52 = .ok (.ifCond .ne 7, 3) := by decide +kernel
theorem dX12_isSaid_55 : decode cX12_isSaid 55 = .ok (.iconst 1, 1) := by decide +kernel
theorem dX12_isSaid_56 : decode cX12_isSaid 56 = .ok (.goto 4, 3) := by decide +kernel
theorem dX12_isSaid_59 : decode cX12_isSaid 59 = .ok (.iconst 0, 1) := by decide +kernel
theorem dX12_isSaid_60 : decode cX12_isSaid 60 = .ok (.bastore, 1) := by decide +kernel
theorem dX12_isSaid_61 : decode cX12_isSaid 61 = .ok (.goto 145, 3) := by decide +kernel
theorem dX12_isSaid_64 : decode cX12_isSaid 64 = .ok (.aload_n 0, 1) := by decide +kernel
theorem dX12_isSaid_65 : decode cX12_isSaid 65 = .ok (.getfield 33, 3) := by decide +kernel
theorem dX12_isSaid_68 : decode cX12_isSaid 68 = .ok (.iload 4, 2) := by decide +kernel
theorem dX12_isSaid_70 : decode cX12_isSaid 70 = .ok (.iaload, 1) := by decide +kernel
theorem dX12_isSaid_71 : decode cX12_isSaid 71 = .ok (.bipush 21, 2) := by decide +kernel
theorem dX12_isSaid_73 : decode cX12_isSaid 73 = .ok (.if_icmp .eq 15, 3) := by decide +kernel
theorem dX12_isSaid_76 : decode cX12_isSaid 76 = .ok (.aload_n 0, 1) := by decide +kernel
theorem dX12_isSaid_77 : decode cX12_isSaid 77 = .ok (.getfield 33, 3) := by decide +kernel
theorem dX12_isSaid_80 : decode cX12_isSaid 80 = .ok (.iload 4, 2) := by decide +kernel
theorem dX12_isSaid_82 : decode cX12_isSaid 82 = .ok (.iaload, 1) := by decide +kernel
theorem dX12_isSaid_83 : decode cX12_isSaid 83 = .ok (.bipush 22, 2) := by decide +kernel
theorem dX12_isSaid_85 : decode cX12_isSaid 85 = .ok (.if_icmp .ne 82, 3) := by decide +kernel
theorem dX12_isSaid_88 : decode cX12_isSaid 88 = .ok (.iinc 2 (-1), 3) := by decide +kernel
theorem dX12_isSaid_91 : decode cX12_isSaid 91 = .ok (.aload_n 0, 1) := by decide +kernel
theorem dX12_isSaid_92 : decode cX12_isSaid 92 = .ok (.getfield 74, 3) := by decide +kernel
theorem dX12_isSaid_95 : decode cX12_isSaid 95 = .ok (.iload_n 2, 1) := by decide +kernel
theorem dX12_isSaid_96 : decode cX12_isSaid 96 = .ok (.iconst 1, 1) := by decide +kernel
theorem dX12_isSaid_97 : decode cX12_isSaid 97 = .ok (.isub, 1) := by decide +kernel
theorem dX12_isSaid_98 : decode cX12_isSaid 98 = .ok (.aload_n 0, 1) := by decide +kernel
theorem dX12_isSaid_99 : decode cX12_isSaid 99 = .ok (.getfield 33, 3) := by decide +kernel
theorem dX12_isSaid_102 : decode cX12_isSaid 102 = .ok (.iload 4, 2) := by decide +kernel
theorem dX12_isSaid_104 : decode cX12_isSaid 104 = .ok (.iaload, 1) := by decide +kernel
theorem dX12_isSaid_105 : decode cX12_isSaid 105 = .ok (.bipush 21, 2) := by decide +kernel
theorem dX12_isSaid_107 : decode cX12_isSaid 107 = .ok (.if_icmp .ne 31, 3) := by decide +kernel
theorem dX12_isSaid_110 : decode cX12_isSaid 110 = .ok (.aload_n 0, 1) := by decide +kernel
theorem dX12_isSaid_111 : decode cX12_isSaid 111 = .ok (.getfield 74, 3) := by decide +kernel
theorem dX12_isSaid_114 : decode cX12_isSaid 114 = .ok (.iload_n 2, 1) := by decide +kernel
theorem dX12_isSaid_115 : decode cX12_isSaid 115 = .ok (.iconst 1, 1) := by decide +kernel
theorem dX12_isSaid_116 : decode cX12_isSaid 116 = .ok (.isub, 1) := by decide +kernel
theorem dX12_isSaid_117 : decode cX12_isSaid 117 = .ok (.baload, 1) := by decide +kernel
theorem dX12_isSaid_118 : decode cX12_isSaid 118 = .ok (.ifCond .eq 16, 3) := by decide +kernel
theorem dX12_isSaid_121 : decode cX12_isSaid 121 = .ok (.aload_n 0, 1) := by decide +kernel
theorem dX12_isSaid_122 : decode cX12_isSaid 122 = .ok (.getfield 74, 3) := by decide +kernel
theorem dX12_isSaid_125 : decode cX12_isSaid 125 = .ok (.iload_n 2, 1) := by decide +kernel
theorem dX12_isSaid_126 : decode cX12_isSaid 126 = .ok (.baload, 1) := by decide +kernel
theorem dX12_isSaid_127 : decode cX12_isSaid 127 = .ok (.ifCond .eq 7, 3) := by decide +kernel
theorem dX12_isSaid_130 : decode cX12_isSaid 130 = .ok (.iconst 1, 1) := by decide +kernel
theorem dX12_isSaid_131 : decode cX12_isSaid 131 = .ok (.goto 32, 3) := by decide +kernel
theorem dX12_isSaid_134 : decode cX12_isSaid 134 = .ok (.iconst 0, 1) := by decide +kernel
theorem dX12_isSaid_135 : decode cX12_isSaid 135 = .ok (.goto 28, 3) := by decide +kernel
theorem dX12_isSaid_138 : decode cX12_isSaid 138 = .ok (.aload_n 0, 1) := by decide +kernel
theorem dX12_isSaid_139 : decode cX12_isSaid 139 = .ok (.getfield 74, 3) := by decide +kernel
theorem dX12_isSaid_142 : decode cX12_isSaid 142 = .ok (.iload_n 2, 1) := by decide +kernel
theorem dX12_isSaid_143 : decode cX12_isSaid 143 = .ok (.iconst 1, 1) := by decide +kernel
theorem dX12_isSaid_144 : decode cX12_isSaid 144 = .ok (.isub, 1) := by decide +kernel
theorem dX12_isSaid_145 : decode cX12_isSaid 145 = .ok (.baload, 1) := by decide +kernel
theorem dX12_isSaid_146 : decode cX12_isSaid 146 = .ok (.ifCond .ne 12, 3) := by decide +kernel
theorem dX12_isSaid_149 : decode cX12_isSaid 149 = .ok (.aload_n 0, 1) := by decide +kernel
theorem dX12_isSaid_150 : decode cX12_isSaid 150 = .ok (.getfield 74, 3) := by decide +kernel
theorem dX12_isSaid_153 : decode cX12_isSaid 153 = .ok (.iload_n 2, 1) := by decide +kernel
theorem dX12_isSaid_154 : decode cX12_isSaid 154 = .ok (.baload, 1) := by decide +kernel
theorem dX12_isSaid_155 : decode cX12_isSaid 155 = .ok (.ifCond .eq 7, 3) := by decide +kernel
theorem dX12_isSaid_158 : decode cX12_isSaid 158 = .ok (.iconst 1, 1) := by decide +kernel
theorem dX12_isSaid_159 : decode cX12_isSaid 159 = .ok (.goto 4, 3) := by decide +kernel
theorem dX12_isSaid_162 : decode cX12_isSaid 162 = .ok (.iconst 0, 1) := by decide +kernel
theorem dX12_isSaid_163 : decode cX12_isSaid 163 = .ok (.bastore, 1) := by decide +kernel
theorem dX12_isSaid_164 : decode cX12_isSaid 164 = .ok (.goto 42, 3) := by decide +kernel
theorem dX12_isSaid_167 : decode cX12_isSaid 167 = .ok (.aload_n 0, 1) := by decide +kernel
theorem dX12_isSaid_168 : decode cX12_isSaid 168 = .ok (.getfield 74, 3) := by decide +kernel
theorem dX12_isSaid_171 : decode cX12_isSaid 171 = .ok (.iload_n 2, 1) := by decide +kernel
theorem dX12_isSaid_172 : decode cX12_isSaid 172 = .ok (.aload_n 0, 1) := by decide +kernel
theorem dX12_isSaid_173 : decode cX12_isSaid 173 = .ok (.iload_n 1, 1) := by decide +kernel
theorem dX12_isSaid_174 : decode cX12_isSaid 174 = .ok (.aload_n 0, 1) := by decide +kernel
theorem dX12_isSaid_175 : decode cX12_isSaid 175 = .ok (.getfield 33, 3) := by decide +kernel
theorem dX12_isSaid_178 : decode cX12_isSaid 178 = .ok (.iload 4, 2) := by decide +kernel
theorem dX12_isSaid_180 : decode cX12_isSaid 180 = .ok (.iaload, 1) := by decide +kernel
theorem dX12_isSaid_181 : decode cX12_isSaid 181 = .ok (.aload_n 0, 1) := by decide +kernel
theorem dX12_isSaid_182 : decode cX12_isSaid 182 = .ok (.getfield 33, 3) := by decide +kernel
theorem dX12_isSaid_185 : decode cX12_isSaid 185 = .ok (.iload 4, 2) := by decide +kernel
theorem dX12_isSaid_187 : decode cX12_isSaid 187 = .ok (.iconst 1, 1) := by decide +kernel
theorem dX12_isSaid_188 : decode cX12_isSaid 188 = .ok (.iadd, 1) := by decide +kernel
theorem dX12_isSaid_189 : decode cX12_isSaid 189 = .ok (.iaload, 1) := by decide +kernel
theorem dX12_isSaid_190 : decode cX12_isSaid 190 = .ok (.aload_n 0, 1) := by decide +kernel
theorem dX12_isSaid_191 : decode cX12_isSaid 191 = .ok (.getfield 33, 3) := by decide +kernel
theorem dX12_isSaid_194 : decode cX12_isSaid 194 = .ok (.iload 4, 2) := by decide +kernel
theorem dX12_isSaid_196 : decode cX12_isSaid 196 = .ok (.iconst 2, 1) := by decide +kernel
theorem dX12_isSaid_197 : decode cX12_isSaid 197 = .ok (.iadd, 1) := by decide +kernel
theorem dX12_isSaid_198 : decode cX12_isSaid 198 = .ok (.iaload, 1) := by decide +kernel
theorem dX12_isSaid_199 : decode cX12_isSaid 199 = .ok (.invokevirtual 445, 3) := by decide +kernel
theorem dX12_isSaid_202 : decode cX12_isSaid 202 = .ok (.bastore, 1) := by decide +kernel
theorem dX12_isSaid_203 : decode cX12_isSaid 203 = .ok (.iinc 2 1, 3) := by decide +kernel
theorem dX12_isSaid_206 : decode cX12_isSaid 206 = .ok (.iinc 3 1, 3) := by decide +kernel
theorem dX12_isSaid_209 : decode cX12_isSaid 209 = .ok (.goto (-205), 3) := by decide +kernel
theorem dX12_isSaid_212 : decode cX12_isSaid 212 = .ok (.aload_n 0, 1) := by decide +kernel
theorem dX12_isSaid_213 : decode cX12_isSaid 213 = .ok (.getfield 74, 3) := by decide +kernel
theorem dX12_isSaid_216 : decode cX12_isSaid 216 = .ok (.iconst 0, 1) := by decide +kernel
theorem dX12_isSaid_217 : decode cX12_isSaid 217 = .ok (.baload, 1) := by decide +kernel
theorem dX12_isSaid_218 : decode cX12_isSaid 218 = .ok (.ireturn, 1) := by decide +kernel
set_option maxRecDepth 20000 in
theorem ggX12_said_X12_isSaid : GoodIn wsX12_said wsX12_isSaid := goodIn_r _ [7, 2, 8, 9, 10, 11, 6, 12, 13, 14, 15, 16, 17, 18, 19, 20, 21, 22, 23, 24, 25, 26, 27, 28, 29, 30, 31, 32, 33, 34, 35, 36, 37, 38, 39, 40, 41, 42, 43, 44, 45, 46, 47, 48, 49, 50, 51, 52, 53, 54, 55, 56, 57, 58, 59, 60, 61, 62, 63, 64, 65, 66, 67, 68, 69, 70, 71, 72, 73, 74, 75, 76, 77, 78, 79, 80, 81, 82, 83, 84, 85, 86, 87, 88] (by decide +kernel) (by decide +kernel)
set_option maxRecDepth 20000 in
theorem gX12_said_X12_isSaid : GoodIn wsX12_said (wsV RX12 449 RX12 yX12_isSaid wsX12_isSaid) := goodIn_app (goodIn_of _ (by decide +kernel)) ggX12_said_X12_isSaid
theorem dX12_said_0 : decode cX12_said 0 = .ok (.aload_n 0, 1) := by decide +kernel
theorem dX12_said_1 : decode cX12_said 1 = .ok (.iconst 0, 1) := by decide +kernel
theorem dX12_said_2 : decode cX12_said 2 = .ok (.putfield 1, 3) := by decide +kernel
theorem dX12_said_5 : decode cX12_said 5 = .ok (.aload_n 0, 1) := by decide +kernel
theorem dX12_said_6 : decode cX12_said 6 = .ok (.getfield 33, 3) := by decide +kernel
theorem dX12_said_9 : decode cX12_said 9 = .ok (.sipush 153, 3) := by decide +kernel
theorem dX12_said_12 : decode cX12_said 12 = .ok (.iaload, 1) := by decide +kernel
theorem dX12_said_13 : decode cX12_said 13 = .ok (.ifCond .eq 8, 3) := by decide +kernel
theorem dX12_said_16 : decode cX12_said 16 = .ok (.iload_n 1, 1) := by decide +kernel
theorem dX12_said_17 : decode cX12_said 17 = .ok (.iconst (-1), 1) := by decide +kernel
theorem dX12_said_18 : decode cX12_said 18 = .ok (.if_icmp .ge 5, 3) := by decide +kernel
theorem dX12_said_21 : decode cX12_said 21 = .ok (.iconst (-1), 1) := by decide +kernel
theorem dX12_said_22 : decode cX12_said 22 = .ok (.ireturn, 1) := by decide +kernel
theorem dX12_said_23 : decode cX12_said 23 = .ok (.iconst 0, 1) := by decide +kernel
theorem dX12_said_24 : decode cX12_said 24 = .ok (.istore_n 2, 1) := by decide +kernel
theorem dX12_said_25 : decode cX12_said 25 = .ok (.iconst 0, 1) := by decide +kernel
theorem dX12_said_26 : decode cX12_said 26 = .ok (.istore_n 3, 1) := by decide +kernel
theorem dX12_said_27 : decode cX12_said 27 = .ok (.iload_n 3, 1) := by decide +kernel
theorem dX12_said_28 : decode cX12_said 28 = .ok (.aload_n 0, 1) := by decide +kernel
theorem dX12_said_29 : decode cX12_said 29 = .ok (.getfield 33, 3) := by decide +kernel
theorem dX12_said_32 : decode cX12_said 32 = .ok (.iconst 1, 1) := by decide +kernel
theorem dX12_said_33 : decode cX12_said 33 = .ok (.iaload, 1) := by decide +kernel
theorem dX12_said_34 : decode cX12_said 34 = .ok (.if_icmp .ge 30, 3) := by decide +kernel
theorem dX12_said_37 : decode cX12_said 37 = .ok (.aload_n 0, 1) := by decide +kernel
theorem dX12_said_38 : decode cX12_said 38 = .ok (.iload_n 3, 1) := by decide +kernel
theorem dX12_said_39 : decode cX12_said 39 = .ok (.invokevirtual 449, 3) := by decide +kernel
theorem dX12_said_42 : decode cX12_said 42 = .ok (.ifCond .ne 6, 3) := by decide +kernel
theorem dX12_said_45 : decode cX12_said 45 = .ok (.goto 13, 3) := by decide +kernel
theorem dX12_said_48 : decode cX12_said 48 = .ok (.iload_n 2, 1) := by decide +kernel
theorem dX12_said_49 : decode cX12_said 49 = .ok (.iload_n 1, 1) := by decide +kernel
theorem dX12_said_50 : decode cX12_said 50 = .ok (.if_icmp .ne 5, 3) := by decide +kernel
theorem dX12_said_53 : decode cX12_said 53 = .ok (.iload_n 3, 1) := by decide +kernel
theorem dX12_said_54 : decode cX12_said 54 = .ok (.ireturn, 1) := by decide +kernel
theorem dX12_said_55 : decode cX12_said 55 = .ok (.iinc 2 1, 3) := by decide +kernel
theorem dX12_said_58 : decode cX12_said 58 = .ok (.iinc 3 1, 3) := by decide +kernel
theorem dX12_said_61 : decode cX12_said 61 = .ok (.goto (-34), 3) := by decide +kernel
theorem dX12_said_64 : decode cX12_said 64 = .ok (.iload_n 1, 1) := by decide +kernel
theorem dX12_said_65 : decode cX12_said 65 = .ok (.iconst (-1), 1) := by decide +kernel
theorem dX12_said_66 : decode cX12_said 66 = .ok (.if_icmp .ne 7, 3) := by decide +kernel
theorem dX12_said_69 : decode cX12_said 69 = .ok (.iload_n 2, 1) := by decide +kernel
theorem dX12_said_70 : decode cX12_said 70 = .ok (.goto 4, 3) := by decide +kernel
theorem dX12_said_73 : decode cX12_said 73 = .ok (.iconst (-1), 1) := by decide +kernel
theorem dX12_said_74 : decode cX12_said 74 = .ok (.ireturn, 1) := by decide +kernel
set_option maxRecDepth 20000 in
theorem ggX12_image_X12_isIn : GoodIn wsX12_image wsX12_isIn := goodIn_r _ [10] (by decide +kernel) (by decide +kernel)
set_option maxRecDepth 20000 in
theorem gX12_image_X12_isIn : GoodIn wsX12_image (va_wsS RX12 184 yX12_isIn wsX12_isIn) := goodIn_app (goodIn_of _ (by decide +kernel)) ggX12_image_X12_isIn
theorem dX12_image_0 : decode cX12_image 0 = .ok (.aload_n 0, 1) := by decide +kernel
theorem dX12_image_1 : decode cX12_image 1 = .ok (.iconst 0, 1) := by decide +kernel
theorem dX12_image_2 : decode cX12_image 2 = .ok (.putfield 1, 3) := by decide +kernel
theorem dX12_image_5 : decode cX12_image 5 = .ok (.iload_n 1, 1) := by decide +kernel
theorem dX12_image_6 : decode cX12_image 6 = .ok (.iconst 0, 1) := by decide +kernel
theorem dX12_image_7 : decode cX12_image 7 = .ok (.iconst 1, 1) := by decide +kernel
theorem dX12_image_8 : decode cX12_image 8 = .ok (.invokestatic 184, 3) := by decide +kernel
theorem dX12_image_11 : decode cX12_image 11 = .ok (.ifCond .ne 5, 3) := by decide +kernel
theorem dX12_image_14 : decode cX12_image 14 = .ok (.iconst 0, 1) := by decide +kernel
theorem dX12_image_15 : decode cX12_image 15 = .ok (.ireturn, 1) := by decide +kernel
theorem dX12_image_16 : decode cX12_image 16 = .ok (.iconst 0, 1) := by decide +kernel
theorem dX12_image_17 : decode cX12_image 17 = .ok (.istore_n 2, 1) := by decide +kernel
theorem dX12_image_18 : decode cX12_image 18 = .ok (.iload_n 2, 1) := by decide +kernel
theorem dX12_image_19 : decode cX12_image 19 = .ok (.sipush 334, 3) := by decide +kernel
theorem dX12_image_22 : decode cX12_image 22 = .ok (.if_icmp .ge 27, 3) := by decide +kernel
theorem dX12_image_25 : decode cX12_image 25 = .ok (.aload_n 0, 1) := by decide +kernel
theorem dX12_image_26 : decode cX12_image 26 = .ok (.getfield 78, 3) := by decide +kernel
theorem dX12_image_29 : decode cX12_image 29 = .ok (.sipush 334, 3) := by decide +kernel
theorem dX12_image_32 : decode cX12_image 32 = .ok (.iload_n 1, 1) := by decide +kernel
theorem dX12_image_33 : decode cX12_image 33 = .ok (.imul, 1) := by decide +kernel
theorem dX12_image_34 : decode cX12_image 34 = .ok (.iload_n 2, 1) := by decide +kernel
theorem dX12_image_35 : decode cX12_image 35 = .ok (.iadd, 1) := by decide +kernel
theorem dX12_image_36 : decode cX12_image 36 = .ok (.aload_n 0, 1) := by decide +kernel
theorem dX12_image_37 : decode cX12_image 37 = .ok (.getfield 33, 3) := by decide +kernel
theorem dX12_image_40 : decode cX12_image 40 = .ok (.iload_n 2, 1) := by decide +kernel
theorem dX12_image_41 : decode cX12_image 41 = .ok (.iaload, 1) := by decide +kernel
theorem dX12_image_42 : decode cX12_image 42 = .ok (.iastore, 1) := by decide +kernel
theorem dX12_image_43 : decode cX12_image 43 = .ok (.iinc 2 1, 3) := by decide +kernel
theorem dX12_image_46 : decode cX12_image 46 = .ok (.goto (-28), 3) := by decide +kernel
theorem dX12_image_49 : decode cX12_image 49 = .ok (.iconst 0, 1) := by decide +kernel
theorem dX12_image_50 : decode cX12_image 50 = .ok (.istore_n 2, 1) := by decide +kernel
theorem dX12_image_51 : decode cX12_image 51 = .ok (.iload_n 2, 1) := by decide +kernel
theorem dX12_image_52 : decode cX12_image 52 = .ok (.bipush 18, 2) := by decide +kernel
theorem dX12_image_54 : decode cX12_image 54 = .ok (.if_icmp .ge 26, 3) := by decide +kernel
theorem dX12_image_57 : decode cX12_image 57 = .ok (.aload_n 0, 1) := by decide +kernel
theorem dX12_image_58 : decode cX12_image 58 = .ok (.getfield 81, 3) := by decide +kernel
theorem dX12_image_61 : decode cX12_image 61 = .ok (.bipush 18, 2) := by decide +kernel
theorem dX12_image_63 : decode cX12_image 63 = .ok (.iload_n 1, 1) := by decide +kernel
theorem dX12_image_64 : decode cX12_image 64 = .ok (.imul, 1) := by decide +kernel
theorem dX12_image_65 : decode cX12_image 65 = .ok (.iload_n 2, 1) := by decide +kernel
theorem dX12_image_66 : decode cX12_image 66 = .ok (.iadd, 1) := by decide +kernel
theorem dX12_image_67 : decode cX12_image 67 = .ok (.aload_n 0, 1) := by decide +kernel
theorem dX12_image_68 : decode cX12_image 68 = .ok (.getfield 43, 3) := by decide +kernel
theorem dX12_image_71 : decode cX12_image 71 = .ok (.iload_n 2, 1) := by decide +kernel
theorem dX12_image_72 : decode cX12_image 72 = .ok (.laload, 1) := by decide +kernel
theorem dX12_image_73 : decode cX12_image 73 = .ok (.lastore, 1) := by decide +kernel
theorem dX12_image_74 : decode cX12_image 74 = .ok (.iinc 2 1, 3) := by decide +kernel
theorem dX12_image_77 : decode cX12_image 77 = .ok (.goto (-26), 3) := by decide +kernel
theorem dX12_image_80 : decode cX12_image 80 = .ok (.aload_n 0, 1) := by decide +kernel
theorem dX12_image_81 : decode cX12_image 81 = .ok (.getfield 84, 3) := by decide +kernel
theorem dX12_image_84 : decode cX12_image 84 = .ok (.iload_n 1, 1) := by decide +kernel
theorem dX12_image_85 : decode cX12_image 85 = .ok (.iconst 1, 1) := by decide +kernel
theorem dX12_image_86 : decode cX12_image 86 = .ok (.bastore, 1) := by decide +kernel
theorem dX12_image_87 : decode cX12_image 87 = .ok (.iconst 1, 1) := by decide +kernel
theorem dX12_image_88 : decode cX12_image 88 = .ok (.ireturn, 1) := by decide +kernel
set_option maxRecDepth 20000 in
theorem ggX12_restore_X12_isIn : GoodIn wsX12_restore wsX12_isIn := goodIn_r _ [11] (by decide +kernel) (by decide +kernel)
set_option maxRecDepth 20000 in
theorem gX12_restore_X12_isIn : GoodIn wsX12_restore (va_wsS RX12 184 yX12_isIn wsX12_isIn) := goodIn_app (goodIn_of _ (by decide +kernel)) ggX12_restore_X12_isIn
theorem dX12_restore_0 : decode cX12_restore 0 = .ok (.aload_n 0, 1) := by decide +kernel
theorem dX12_restore_1 : decode cX12_restore 1 = .ok (.iconst 0, 1) := by decide +kernel
theorem dX12_restore_2 : decode cX12_restore 2 = .ok (.putfield 1, 3) := by decide +kernel
theorem dX12_restore_5 : decode cX12_restore 5 = .ok (.iload_n 1, 1) := by decide +kernel
theorem dX12_restore_6 : decode cX12_restore 6 = .ok (.iconst 0, 1) := by decide +kernel
theorem dX12_restore_7 : decode cX12_restore 7 = .ok (.iconst 1, 1) := by decide +kernel
theorem dX12_restore_8 : decode cX12_restore 8 = .ok (.invokestatic 184, 3) := by decide +kernel
theorem dX12_restore_11 : decode cX12_restore 11 = .ok (.ifCond .eq 12, 3) := by decide +kernel
theorem dX12_restore_14 : decode cX12_restore 14 = .ok (.aload_n 0, 1) := by decide +kernel
theorem dX12_restore_15 : decode cX12_restore 15 = .ok (.getfield 84, 3) := by decide +kernel
theorem dX12_restore_18 : decode cX12_restore 18 = .ok (.iload_n 1, 1) := by decide +kernel
theorem dX12_restore_19 : decode cX12_restore 19 = .ok (.baload, 1) := by decide +kernel
theorem dX12_restore_20 : decode cX12_restore 20 = .ok (.ifCond .ne 5, 3) := by decide +kernel
theorem dX12_restore_23 : decode cX12_restore 23 = .ok (.iconst 0, 1) := by decide +kernel
theorem dX12_restore_24 : decode cX12_restore 24 = .ok (.ireturn, 1) := by decide +kernel
theorem dX12_restore_25 : decode cX12_restore 25 = .ok (.iconst 0, 1) := by decide +kernel
theorem dX12_restore_26 : decode cX12_restore 26 = .ok (.istore_n 2, 1) := by decide +kernel
theorem dX12_restore_27 : decode cX12_restore 27 = .ok (.iload_n 2, 1) := by decide +kernel
theorem dX12_restore_28 : decode cX12_restore 28 = .ok (.sipush 334, 3) := by decide +kernel
theorem dX12_restore_31 : decode cX12_restore 31 = .ok (.if_icmp .ge 27, 3) := by decide +kernel
theorem dX12_restore_34 : decode cX12_restore 34 = .ok (.aload_n 0, 1) := by decide +kernel
theorem dX12_restore_35 : decode cX12_restore 35 = .ok (.getfield 33, 3) := by decide +kernel
theorem dX12_restore_38 : decode cX12_restore 38 = .ok (.iload_n 2, 1) := by decide +kernel
theorem dX12_restore_39 : decode cX12_restore 39 = .ok (.aload_n 0, 1) := by decide +kernel
theorem dX12_restore_40 : decode cX12_restore 40 = .ok (.getfield 78, 3) := by decide +kernel
theorem dX12_restore_43 : decode cX12_restore 43 = .ok (.sipush 334, 3) := by decide +kernel
theorem dX12_restore_46 : decode cX12_restore 46 = .ok (.iload_n 1, 1) := by decide +kernel
theorem dX12_restore_47 : decode cX12_restore 47 = .ok (.imul, 1) := by decide +kernel
theorem dX12_restore_48 : decode cX12_restore 48 = .ok (.iload_n 2, 1) := by decide +kernel
theorem dX12_restore_49 : decode cX12_restore 49 = .ok (.iadd, 1) := by decide +kernel
theorem dX12_restore_50 : decode cX12_restore 50 = .ok (.iaload, 1) := by decide +kernel
theorem dX12_restore_51 : decode cX12_restore 51 = .ok (.iastore, 1) := by decide +kernel
theorem dX12_restore_52 : decode cX12_restore 52 = .ok (.iinc 2 1, 3) := by decide +kernel
theorem dX12_restore_55 : decode cX12_restore 55 = .ok (.goto (-28), 3) := by decide +kernel
theorem dX12_restore_58 : decode cX12_restore 58 = .ok (.iconst 0, 1) := by decide +kernel
theorem dX12_restore_59 : decode cX12_restore 59 = .ok (.istore_n 2, 1) := by decide +kernel
theorem dX12_restore_60 : decode cX12_restore 60 = .ok (.iload_n 2, 1) := by decide +kernel
theorem dX12_restore_61 : decode cX12_restore 61 = .ok (.bipush 18, 2) := by decide +kernel
theorem dX12_restore_63 : decode cX12_restore 63 = .ok (.if_icmp .ge 26, 3) := by decide +kernel
theorem dX12_restore_66 : decode cX12_restore 66 = .ok (.aload_n 0, 1) := by decide +kernel
theorem dX12_restore_67 : decode cX12_restore 67 = .ok (.getfield 43, 3) := by decide +kernel
theorem dX12_restore_70 : decode cX12_restore 70 = .ok (.iload_n 2, 1) := by decide +kernel
theorem dX12_restore_71 : decode cX12_restore 71 = .ok (.aload_n 0, 1) := by decide +kernel
theorem dX12_restore_72 : decode cX12_restore 72 = .ok (.getfield 81, 3) := by decide +kernel
theorem dX12_restore_75 : decode cX12_restore 75 = .ok (.bipush 18, 2) := by decide +kernel
theorem dX12_restore_77 : decode cX12_restore 77 = .ok (.iload_n 1, 1) := by decide +kernel
theorem dX12_restore_78 : decode cX12_restore 78 = .ok (.imul, 1) := by decide +kernel
theorem dX12_restore_79 : decode cX12_restore 79 = .ok (.iload_n 2, 1) := by decide +kernel
theorem dX12_restore_80 : decode cX12_restore 80 = .ok (.iadd, 1) := by decide +kernel
theorem dX12_restore_81 : decode cX12_restore 81 = .ok (.laload, 1) := by decide +kernel
theorem dX12_restore_82 : decode cX12_restore 82 = .ok (.lastore, 1) := by decide +kernel
theorem dX12_restore_83 : decode cX12_restore 83 = .ok (.iinc 2 1, 3) := by decide +kernel
theorem dX12_restore_86 : decode cX12_restore 86 = .ok (.goto (-26), 3) := by decide +kernel
theorem dX12_restore_89 : decode cX12_restore 89 = .ok (.aload_n 0, 1) := by decide +kernel
theorem dX12_restore_90 : decode cX12_restore 90 = .ok (.iconst 0, 1) := by decide +kernel
theorem dX12_restore_91 : decode cX12_restore 91 = .ok (.putfield 250, 3) := by decide +kernel
theorem dX12_restore_94 : decode cX12_restore 94 = .ok (.iconst 1, 1) := by decide +kernel
theorem dX12_restore_95 : decode cX12_restore 95 = .ok (.ireturn, 1) := by decide +kernel
set_option maxRecDepth 20000 in
theorem ggX12_count_X12_isIn : GoodIn wsX12_count wsX12_isIn := goodIn_r _ [7] (by decide +kernel) (by decide +kernel)
set_option maxRecDepth 20000 in
theorem gX12_count_X12_isIn : GoodIn wsX12_count (va_wsS RX12 184 yX12_isIn wsX12_isIn) := goodIn_app (goodIn_of _ (by decide +kernel)) ggX12_count_X12_isIn
theorem dX12_count_0 : decode cX12_count 0 = .ok (.aload_n 0, 1) := by decide +kernel
theorem dX12_count_1 : decode cX12_count 1 = .ok (.iconst 0, 1) := by decide +kernel
theorem dX12_count_2 : decode cX12_count 2 = .ok (.putfield 1, 3) := by decide +kernel
theorem dX12_count_5 : decode cX12_count 5 = .ok (.iload_n 1, 1) := by decide +kernel
theorem dX12_count_6 : decode cX12_count 6 = .ok (.iconst 4, 1) := by decide +kernel
theorem dX12_count_7 : decode cX12_count 7 = .ok (.if_icmp .ne 10, 3) := by decide +kernel
theorem dX12_count_10 : decode cX12_count 10 = .ok (.aload_n 0, 1) := by decide +kernel
theorem dX12_count_11 : decode cX12_count 11 = .ok (.getfield 7, 3) := by decide +kernel
theorem dX12_count_14 : decode cX12_count 14 = .ok (.goto 22, 3) := by decide +kernel
theorem dX12_count_17 : decode cX12_count 17 = .ok (.iload_n 1, 1) := by decide +kernel
theorem dX12_count_18 : decode cX12_count 18 = .ok (.iconst 0, 1) := by decide +kernel
theorem dX12_count_19 : decode cX12_count 19 = .ok (.iconst 3, 1) := by decide +kernel
theorem dX12_count_20 : decode cX12_count 20 = .ok (.invokestatic 184, 3) := by decide +kernel
theorem dX12_count_23 : decode cX12_count 23 = .ok (.ifCond .eq 12, 3) := by decide +kernel
theorem dX12_count_26 : decode cX12_count 26 = .ok (.aload_n 0, 1) := by decide +kernel
theorem dX12_count_27 : decode cX12_count 27 = .ok (.getfield 33, 3) := by decide +kernel
theorem dX12_count_30 : decode cX12_count 30 = .ok (.iload_n 1, 1) := by decide +kernel
theorem dX12_count_31 : decode cX12_count 31 = .ok (.iaload, 1) := by decide +kernel
theorem dX12_count_32 : decode cX12_count 32 = .ok (.goto 4, 3) := by decide +kernel
theorem dX12_count_35 : decode cX12_count 35 = .ok (.iconst (-1), 1) := by decide +kernel
theorem dX12_count_36 : decode cX12_count 36 = .ok (.ireturn, 1) := by decide +kernel
set_option maxRecDepth 20000 in
theorem ggJ5_init_d00df_J2_newBytesFor_77867 : GoodIn wsJ5_init_d00df wsJ2_newBytesFor_77867 := goodIn_r _ [11, 5, 12, 13, 10, 14, 15] (by decide +kernel) (by decide +kernel)
set_option maxRecDepth 20000 in
theorem gJ5_init_d00df_J2_newBytesFor_77867 : GoodIn wsJ5_init_d00df (va_wsS RJ5 26 yJ2_newBytesFor_77867 wsJ2_newBytesFor_77867) := goodIn_app (goodIn_of _ (by decide +kernel)) ggJ5_init_d00df_J2_newBytesFor_77867
theorem dJ5_init_d00df_0 : decode cJ5_init_d00df 0 = .ok (.aload_n 0, 1) := by decide +kernel
theorem dJ5_init_d00df_1 : decode cJ5_init_d00df 1 = .ok (.invokespecial 3, 3) := by decide +kernel
theorem dJ5_init_d00df_4 : decode cJ5_init_d00df 4 = .ok (.getstatic 18, 3) := by decide +kernel
theorem dJ5_init_d00df_7 : decode cJ5_init_d00df 7 = .ok (.ifCond .eq 18, 3) := by decide +kernel
theorem dJ5_init_d00df_10 : decode cJ5_init_d00df 10 = .ok (.aload_n 0, 1) := by decide +kernel
theorem dJ5_init_d00df_11 : decode cJ5_init_d00df 11 = .ok (.iload_n 1, 1) := by decide +kernel
theorem dJ5_init_d00df_12 : decode cJ5_init_d00df 12 = .ok (.newarray .byte, 2) := by decide +kernel
theorem dJ5_init_d00df_14 : decode cJ5_init_d00df 14 = .ok (.putfield 15, 3) := by decide +kernel
theorem dJ5_init_d00df_17 : decode cJ5_init_d00df 17 = .ok (.aload_n 0, 1) := by decide +kernel
theorem dJ5_init_d00df_18 : decode cJ5_init_d00df 18 = .ok (.iconst 0, 1) := by decide +kernel
theorem dJ5_init_d00df_19 : decode cJ5_init_d00df 19 = .ok (.putfield 22, 3) := by decide +kernel
theorem dJ5_init_d00df_22 : decode cJ5_init_d00df 22 = .ok (.goto 16, 3) := by decide +kernel
theorem dJ5_init_d00df_25 : decode cJ5_init_d00df 25 = .ok (.aload_n 0, 1) := by decide +kernel
theorem dJ5_init_d00df_26 : decode cJ5_init_d00df 26 = .ok (.iload_n 1, 1) := by decide +kernel
theorem dJ5_init_d00df_27 : decode cJ5_init_d00df 27 = .ok (.invokestatic 26, 3) := by decide +kernel
theorem dJ5_init_d00df_30 : decode cJ5_init_d00df 30 = .ok (.putfield 15, 3) := by decide +kernel
theorem dJ5_init_d00df_33 : decode cJ5_init_d00df 33 = .ok (.aload_n 0, 1) := by decide +kernel
theorem dJ5_init_d00df_34 : decode cJ5_init_d00df 34 = .ok (.iconst 1, 1) := by decide +kernel
theorem dJ5_init_d00df_35 : decode cJ5_init_d00df 35 = .ok (.putfield 22, 3) := by decide +kernel
theorem dJ5_init_d00df_38 : decode cJ5_init_d00df 38 = .ok (.return_, 1) := by decide +kernel
theorem dJ5_length_8abf5_0 : decode cJ5_length_8abf5 0 = .ok (.aload_n 0, 1) := by decide +kernel
theorem dJ5_length_8abf5_1 : decode cJ5_length_8abf5 1 = .ok (.getfield 79, 3) := by decide +kernel
theorem dJ5_length_8abf5_4 : decode cJ5_length_8abf5 4 = .ok (.ireturn, 1) := by decide +kernel
set_option maxRecDepth 20000 in
theorem ggJ5_ensureCapacityInternal_d00df_J5_newCapacity_0f7a4 : GoodIn wsJ5_ensureCapacityInternal_d00df wsJ5_newCapacity_0f7a4 := goodIn_r _ [8, 1, 2, 9, 10, 11, 12, 13, 14, 15, 16, 17, 18, 19, 20, 21, 40, 41, 42, 43] (by decide +kernel) (by decide +kernel)
set_option maxRecDepth 20000 in
theorem gJ5_ensureCapacityInternal_d00df_J5_newCapacity_0f7a4_u104J4 : GoodIn wsJ5_ensureCapacityInternal_d00df (va_wsU RJ5 104 RJ4 "java/lang/AbstractStringBuilder" ⟨"java/lang/AbstractStringBuilder", "newCapacity", "(I)I"⟩ yJ5_newCapacity_0f7a4 wsJ5_newCapacity_0f7a4) := goodIn_app (goodIn_of _ (by decide +kernel)) ggJ5_ensureCapacityInternal_d00df_J5_newCapacity_0f7a4
set_option maxRecDepth 20000 in
theorem ggJ5_ensureCapacityInternal_d00df_J7_copyOf_9075b : GoodIn wsJ5_ensureCapacityInternal_d00df wsJ7_copyOf_9075b := goodIn_r _ [25, 26, 27, 28, 29, 30, 31, 32, 33, 34, 16, 35, 36, 37, 38, 39] (by decide +kernel) (by decide +kernel)
set_option maxRecDepth 20000 in
theorem gJ5_ensureCapacityInternal_d00df_J7_copyOf_9075b : GoodIn wsJ5_ensureCapacityInternal_d00df (va_wsS RJ5 108 yJ7_copyOf_9075b wsJ7_copyOf_9075b) := goodIn_app (goodIn_of _ (by decide +kernel)) ggJ5_ensureCapacityInternal_d00df_J7_copyOf_9075b
theorem dJ5_ensureCapacityInternal_d00df_0 : decode cJ5_ensureCapacityInternal_d00df 0 = .ok (.aload_n 0, 1) := by decide +kernel
theorem dJ5_ensureCapacityInternal_d00df_1 : decode cJ5_ensureCapacityInternal_d00df 1 = .ok (.getfield 15, 3) := by decide +kernel
theorem dJ5_ensureCapacityInternal_d00df_4 : decode cJ5_ensureCapacityInternal_d00df 4 = .ok (.arraylength, 1) := by decide +kernel
theorem dJ5_ensureCapacityInternal_d00df_5 : decode cJ5_ensureCapacityInternal_d00df 5 = .ok (.aload_n 0, 1) := by decide +kernel
theorem dJ5_ensureCapacityInternal_d00df_6 : decode cJ5_ensureCapacityInternal_d00df 6 = .ok (.getfield 22, 3) := by decide +kernel
theorem dJ5_ensureCapacityInternal_d00df_9 : decode cJ5_ensureCapacityInternal_d00df 9 = .ok (.ishr, 1) := by decide +kernel
theorem dJ5_ensureCapacityInternal_d00df_10 : decode cJ5_ensureCapacityInternal_d00df 10 = .ok (.istore_n 2, 1) := by decide +kernel
theorem dJ5_ensureCapacityInternal_d00df_11 : decode cJ5_ensureCapacityInternal_d00df 11 = .ok (.iload_n 1, 1) := by decide +kernel
theorem dJ5_ensureCapacityInternal_d00df_12 : decode cJ5_ensureCapacityInternal_d00df 12 = .ok (.iload_n 2, 1) := by decide +kernel
theorem dJ5_ensureCapacityInternal_d00df_13 : decode cJ5_ensureCapacityInternal_d00df 13 = .ok (.isub, 1) := by decide +kernel
theorem dJ5_ensureCapacityInternal_d00df_14 : decode cJ5_ensureCapacityInternal_d00df 14 = .ok (.ifCond .le 24, 3) := by decide +kernel
theorem dJ5_ensureCapacityInternal_d00df_17 : decode cJ5_ensureCapacityInternal_d00df 17 = .ok (.aload_n 0, 1) := by decide +kernel
theorem dJ5_ensureCapacityInternal_d00df_18 : decode cJ5_ensureCapacityInternal_d00df 18 = .ok (.aload_n 0, 1) := by decide +kernel
theorem dJ5_ensureCapacityInternal_d00df_19 : decode cJ5_ensureCapacityInternal_d00df 19 = .ok (.getfield 15, 3) := by decide +kernel
theorem dJ5_ensureCapacityInternal_d00df_22 : decode cJ5_ensureCapacityInternal_d00df 22 = .ok (.aload_n 0, 1) := by decide +kernel
theorem dJ5_ensureCapacityInternal_d00df_23 : decode cJ5_ensureCapacityInternal_d00df 23 = .ok (.iload_n 1, 1) := by decide +kernel
theorem dJ5_ensureCapacityInternal_d00df_24 : decode cJ5_ensureCapacityInternal_d00df 24 = .ok (.invokevirtual 104, 3) := by decide +kernel
theorem dJ5_ensureCapacityInternal_d00df_27 : decode cJ5_ensureCapacityInternal_d00df 27 = .ok (.aload_n 0, 1) := by decide +kernel
theorem dJ5_ensureCapacityInternal_d00df_28 : decode cJ5_ensureCapacityInternal_d00df 28 = .ok (.getfield 22, 3) := by decide +kernel
theorem dJ5_ensureCapacityInternal_d00df_31 : decode cJ5_ensureCapacityInternal_d00df 31 = .ok (.ishl, 1) := by decide +kernel
theorem dJ5_ensureCapacityInternal_d00df_32 : decode cJ5_ensureCapacityInternal_d00df 32 = .ok (.invokestatic 108, 3) := by decide +kernel
theorem dJ5_ensureCapacityInternal_d00df_35 : decode cJ5_ensureCapacityInternal_d00df 35 = .ok (.putfield 15, 3) := by decide +kernel
theorem dJ5_ensureCapacityInternal_d00df_38 : decode cJ5_ensureCapacityInternal_d00df 38 = .ok (.return_, 1) := by decide +kernel
set_option maxRecDepth 20000 in
theorem ggJ5_newCapacity_0f7a4_J8_newLength_cabcc : GoodIn wsJ5_newCapacity_0f7a4 wsJ8_newLength_cabcc := goodIn_r _ [7, 8, 9, 10, 11, 12, 13, 14, 6, 15] (by decide +kernel) (by decide +kernel)
set_option maxRecDepth 20000 in
theorem gJ5_newCapacity_0f7a4_J8_newLength_cabcc : GoodIn wsJ5_newCapacity_0f7a4 (va_wsS RJ5 114 yJ8_newLength_cabcc wsJ8_newLength_cabcc) := goodIn_app (goodIn_of _ (by decide +kernel)) ggJ5_newCapacity_0f7a4_J8_newLength_cabcc
theorem dJ5_newCapacity_0f7a4_0 : decode cJ5_newCapacity_0f7a4 0 = .ok (.aload_n 0, 1) := by decide +kernel
theorem dJ5_newCapacity_0f7a4_1 : decode cJ5_newCapacity_0f7a4 1 = .ok (.getfield 15, 3) := by decide +kernel
theorem dJ5_newCapacity_0f7a4_4 : decode cJ5_newCapacity_0f7a4 4 = .ok (.arraylength, 1) := by decide +kernel
theorem dJ5_newCapacity_0f7a4_5 : decode cJ5_newCapacity_0f7a4 5 = .ok (.istore_n 2, 1) := by decide +kernel
theorem dJ5_newCapacity_0f7a4_6 : decode cJ5_newCapacity_0f7a4 6 = .ok (.iload_n 1, 1) := by decide +kernel
theorem dJ5_newCapacity_0f7a4_7 : decode cJ5_newCapacity_0f7a4 7 = .ok (.aload_n 0, 1) := by decide +kernel
theorem dJ5_newCapacity_0f7a4_8 : decode cJ5_newCapacity_0f7a4 8 = .ok (.getfield 22, 3) := by decide +kernel
theorem dJ5_newCapacity_0f7a4_11 : decode cJ5_newCapacity_0f7a4 11 = .ok (.ishl, 1) := by decide +kernel
theorem dJ5_newCapacity_0f7a4_12 : decode cJ5_newCapacity_0f7a4 12 = .ok (.istore_n 3, 1) := by decide +kernel
theorem dJ5_newCapacity_0f7a4_13 : decode cJ5_newCapacity_0f7a4 13 = .ok (.iload_n 3, 1) := by decide +kernel
theorem dJ5_newCapacity_0f7a4_14 : decode cJ5_newCapacity_0f7a4 14 = .ok (.iload_n 2, 1) := by decide +kernel
theorem dJ5_newCapacity_0f7a4_15 : decode cJ5_newCapacity_0f7a4 15 = .ok (.isub, 1) := by decide +kernel
theorem dJ5_newCapacity_0f7a4_16 : decode cJ5_newCapacity_0f7a4 16 = .ok (.istore 4, 2) := by decide +kernel
theorem dJ5_newCapacity_0f7a4_18 : decode cJ5_newCapacity_0f7a4 18 = .ok (.iload_n 2, 1) := by decide +kernel
theorem dJ5_newCapacity_0f7a4_19 : decode cJ5_newCapacity_0f7a4 19 = .ok (.iload 4, 2) := by decide +kernel
theorem dJ5_newCapacity_0f7a4_21 : decode cJ5_newCapacity_0f7a4 21 = .ok (.iload_n 2, 1) := by decide +kernel
theorem dJ5_newCapacity_0f7a4_22 : decode cJ5_newCapacity_0f7a4 22 = .ok (.iconst 2, 1) := by decide +kernel
theorem dJ5_newCapacity_0f7a4_23 : decode cJ5_newCapacity_0f7a4 23 = .ok (.aload_n 0, 1) := by decide +kernel
theorem dJ5_newCapacity_0f7a4_24 : decode cJ5_newCapacity_0f7a4 24 = .ok (.getfield 22, 3) := by decide +kernel
theorem dJ5_newCapacity_0f7a4_27 : decode cJ5_newCapacity_0f7a4 27 = .ok (.ishl, 1) := by decide +kernel
theorem dJ5_newCapacity_0f7a4_28 : decode cJ5_newCapacity_0f7a4 28 = .ok (.iadd, 1) := by decide +kernel
theorem dJ5_newCapacity_0f7a4_29 : decode cJ5_newCapacity_0f7a4 29 = .ok (.invokestatic 114, 3) := by decide +kernel
theorem dJ5_newCapacity_0f7a4_32 : decode cJ5_newCapacity_0f7a4 32 = .ok (.istore 5, 2) := by decide +kernel
theorem dJ5_newCapacity_0f7a4_34 : decode cJ5_newCapacity_0f7a4 34 = .ok (.iload 5, 2) := by decide +kernel
theorem dJ5_newCapacity_0f7a4_36 : decode cJ5_newCapacity_0f7a4 36 = .ok (.ldc 39, 2) := by decide +kernel
theorem dJ5_newCapacity_0f7a4_38 : decode cJ5_newCapacity_0f7a4 38 = .ok (.if_icmp .ne 13, 3) := by decide +kernel
theorem dJ5_newCapacity_0f7a4_41 : decode cJ5_newCapacity_0f7a4 41 = .ok (.new 120, 3) := by decide +kernel
theorem dJ5_newCapacity_0f7a4_44 : decode cJ5_newCapacity_0f7a4 44 = .ok (.dup, 1) := by decide +kernel
theorem dJ5_newCapacity_0f7a4_45 : decode cJ5_newCapacity_0f7a4 45 = .ok (.ldc 122, 2) := by decide +kernel
theorem dJ5_newCapacity_0f7a4_47 : decode cJ5_newCapacity_0f7a4 47 = .ok (.invokespecial 124, 3) := by decide +kernel
theorem dJ5_newCapacity_0f7a4_50 : decode cJ5_newCapacity_0f7a4 50 = .ok (.athrow, 1) := by decide +kernel
theorem dJ5_newCapacity_0f7a4_51 : decode cJ5_newCapacity_0f7a4 51 = .ok (.iload 5, 2) := by decide +kernel
theorem dJ5_newCapacity_0f7a4_53 : decode cJ5_newCapacity_0f7a4 53 = .ok (.aload_n 0, 1) := by decide +kernel
theorem dJ5_newCapacity_0f7a4_54 : decode cJ5_newCapacity_0f7a4 54 = .ok (.getfield 22, 3) := by decide +kernel
theorem dJ5_newCapacity_0f7a4_57 : decode cJ5_newCapacity_0f7a4 57 = .ok (.ishr, 1) := by decide +kernel
theorem dJ5_newCapacity_0f7a4_58 : decode cJ5_newCapacity_0f7a4 58 = .ok (.ireturn, 1) := by decide +kernel
set_option maxRecDepth 20000 in
theorem ggJ5_inflate_da8c8_J5_isLatin1_aae02 : GoodIn wsJ5_inflate_da8c8 wsJ5_isLatin1_aae02 := goodIn_r _ [9, 10, 3, 48, 49, 50, 51] (by decide +kernel) (by decide +kernel)
set_option maxRecDepth 20000 in
theorem gJ5_inflate_da8c8_J5_isLatin1_aae02_u83J4 : GoodIn wsJ5_inflate_da8c8 (va_wsU RJ5 83 RJ4 "java/lang/AbstractStringBuilder" ⟨"java/lang/AbstractStringBuilder", "isLatin1", "()Z"⟩ yJ5_isLatin1_aae02 wsJ5_isLatin1_aae02) := goodIn_app (goodIn_of _ (by decide +kernel)) ggJ5_inflate_da8c8_J5_isLatin1_aae02
set_option maxRecDepth 20000 in
theorem ggJ5_inflate_da8c8_J2_newBytesFor_77867 : GoodIn wsJ5_inflate_da8c8 wsJ2_newBytesFor_77867 := goodIn_r _ [14, 15, 16, 17, 13, 18, 19] (by decide +kernel) (by decide +kernel)
set_option maxRecDepth 20000 in
theorem gJ5_inflate_da8c8_J2_newBytesFor_77867 : GoodIn wsJ5_inflate_da8c8 (va_wsS RJ5 26 yJ2_newBytesFor_77867 wsJ2_newBytesFor_77867) := goodIn_app (goodIn_of _ (by decide +kernel)) ggJ5_inflate_da8c8_J2_newBytesFor_77867
set_option maxRecDepth 20000 in
theorem ggJ5_inflate_da8c8_J1_inflate_0e8fd : GoodIn wsJ5_inflate_da8c8 wsJ1_inflate_0e8fd := goodIn_r _ [23, 24, 25, 13, 26, 27, 28, 29, 30, 31, 32, 33, 34, 35, 36, 37, 38, 39, 40, 41, 42, 43, 44, 45, 46, 47] (by decide +kernel) (by decide +kernel)
set_option maxRecDepth 20000 in
theorem gJ5_inflate_da8c8_J1_inflate_0e8fd : GoodIn wsJ5_inflate_da8c8 (va_wsS RJ5 125 yJ1_inflate_0e8fd wsJ1_inflate_0e8fd) := goodIn_app (goodIn_of _ (by decide +kernel)) ggJ5_inflate_da8c8_J1_inflate_0e8fd
theorem dJ5_inflate_da8c8_0 : decode cJ5_inflate_da8c8 0 = .ok (.aload_n 0, 1) := by decide +kernel
theorem dJ5_inflate_da8c8_1 : decode cJ5_inflate_da8c8 1 = .ok (.invokevirtual 83, 3) := by decide +kernel
theorem dJ5_inflate_da8c8_4 : decode cJ5_inflate_da8c8 4 = .ok (.ifCond .ne 4, 3) := by decide +kernel
theorem dJ5_inflate_da8c8_7 : decode cJ5_inflate_da8c8 7 = .ok (.return_, 1) := by decide +kernel
theorem dJ5_inflate_da8c8_8 : decode cJ5_inflate_da8c8 8 = .ok (.aload_n 0, 1) := by decide +kernel
theorem dJ5_inflate_da8c8_9 : decode cJ5_inflate_da8c8 9 = .ok (.getfield 15, 3) := by decide +kernel
theorem dJ5_inflate_da8c8_12 : decode cJ5_inflate_da8c8 12 = .ok (.arraylength, 1) := by decide +kernel
theorem dJ5_inflate_da8c8_13 : decode cJ5_inflate_da8c8 13 = .ok (.invokestatic 26, 3) := by decide +kernel
theorem dJ5_inflate_da8c8_16 : decode cJ5_inflate_da8c8 16 = .ok (.astore_n 1, 1) := by decide +kernel
theorem dJ5_inflate_da8c8_17 : decode cJ5_inflate_da8c8 17 = .ok (.aload_n 0, 1) := by decide +kernel
theorem dJ5_inflate_da8c8_18 : decode cJ5_inflate_da8c8 18 = .ok (.getfield 15, 3) := by decide +kernel
theorem dJ5_inflate_da8c8_21 : decode cJ5_inflate_da8c8 21 = .ok (.iconst 0, 1) := by decide +kernel
theorem dJ5_inflate_da8c8_22 : decode cJ5_inflate_da8c8 22 = .ok (.aload_n 1, 1) := by decide +kernel
theorem dJ5_inflate_da8c8_23 : decode cJ5_inflate_da8c8 23 = .ok (.iconst 0, 1) := by decide +kernel
theorem dJ5_inflate_da8c8_24 : decode cJ5_inflate_da8c8 24 = .ok (.aload_n 0, 1) := by decide +kernel
theorem dJ5_inflate_da8c8_25 : decode cJ5_inflate_da8c8 25 = .ok (.getfield 79, 3) := by decide +kernel
theorem dJ5_inflate_da8c8_28 : decode cJ5_inflate_da8c8 28 = .ok (.invokestatic 125, 3) := by decide +kernel
theorem dJ5_inflate_da8c8_31 : decode cJ5_inflate_da8c8 31 = .ok (.aload_n 0, 1) := by decide +kernel
theorem dJ5_inflate_da8c8_32 : decode cJ5_inflate_da8c8 32 = .ok (.aload_n 1, 1) := by decide +kernel
theorem dJ5_inflate_da8c8_33 : decode cJ5_inflate_da8c8 33 = .ok (.putfield 15, 3) := by decide +kernel
theorem dJ5_inflate_da8c8_36 : decode cJ5_inflate_da8c8 36 = .ok (.aload_n 0, 1) := by decide +kernel
theorem dJ5_inflate_da8c8_37 : decode cJ5_inflate_da8c8 37 = .ok (.iconst 1, 1) := by decide +kernel
theorem dJ5_inflate_da8c8_38 : decode cJ5_inflate_da8c8 38 = .ok (.putfield 22, 3) := by decide +kernel
theorem dJ5_inflate_da8c8_41 : decode cJ5_inflate_da8c8 41 = .ok (.return_, 1) := by decide +kernel
set_option maxRecDepth 20000 in
theorem ggJ5_setLength_d00df_J5_ensureCapacityInternal_d00df : GoodIn wsJ5_setLength_d00df wsJ5_ensureCapacityInternal_d00df := goodIn_r _ [9, 2, 10, 11, 12, 13, 14, 8, 15, 16, 17, 18, 19, 20, 21, 22, 23, 24, 25, 26, 27, 28, 29, 30, 31, 32, 33, 34, 35, 36, 37, 38, 39, 40, 41, 42, 43, 44, 45, 46, 68, 69, 70, 71] (by decide +kernel) (by decide +kernel)
set_option maxRecDepth 20000 in
theorem gJ5_setLength_d00df_J5_ensureCapacityInternal_d00df_u100J4 : GoodIn wsJ5_setLength_d00df (va_wsU RJ5 100 RJ4 "java/lang/AbstractStringBuilder" ⟨"java/lang/AbstractStringBuilder", "ensureCapacityInternal", "(I)V"⟩ yJ5_ensureCapacityInternal_d00df wsJ5_ensureCapacityInternal_d00df) := goodIn_app (goodIn_of _ (by decide +kernel)) ggJ5_setLength_d00df_J5_ensureCapacityInternal_d00df
set_option maxRecDepth 20000 in
theorem ggJ5_setLength_d00df_J5_isLatin1_aae02 : GoodIn wsJ5_setLength_d00df wsJ5_isLatin1_aae02 := goodIn_r _ [51, 52, 10, 68, 69, 70, 71] (by decide +kernel) (by decide +kernel)
set_option maxRecDepth 20000 in
theorem gJ5_setLength_d00df_J5_isLatin1_aae02_u83J4 : GoodIn wsJ5_setLength_d00df (va_wsU RJ5 83 RJ4 "java/lang/AbstractStringBuilder" ⟨"java/lang/AbstractStringBuilder", "isLatin1", "()Z"⟩ yJ5_isLatin1_aae02 wsJ5_isLatin1_aae02) := goodIn_app (goodIn_of _ (by decide +kernel)) ggJ5_setLength_d00df_J5_isLatin1_aae02
set_option maxRecDepth 20000 in
theorem ggJ5_setLength_d00df_J1_fillNull_b72d1 : GoodIn wsJ5_setLength_d00df wsJ1_fillNull_b72d1 := goodIn_r _ [56, 57, 58, 31, 59, 60, 61, 62] (by decide +kernel) (by decide +kernel)
set_option maxRecDepth 20000 in
theorem gJ5_setLength_d00df_J1_fillNull_b72d1 : GoodIn wsJ5_setLength_d00df (va_wsS RJ5 133 yJ1_fillNull_b72d1 wsJ1_fillNull_b72d1) := goodIn_app (goodIn_of _ (by decide +kernel)) ggJ5_setLength_d00df_J1_fillNull_b72d1
set_option maxRecDepth 20000 in
theorem ggJ5_setLength_d00df_J2_fillNull_b72d1 : GoodIn wsJ5_setLength_d00df wsJ2_fillNull_b72d1 := goodIn_r _ [66, 67, 58, 31, 59, 60, 61, 62] (by decide +kernel) (by decide +kernel)
set_option maxRecDepth 20000 in
theorem gJ5_setLength_d00df_J2_fillNull_b72d1 : GoodIn wsJ5_setLength_d00df (va_wsS RJ5 137 yJ2_fillNull_b72d1 wsJ2_fillNull_b72d1) := goodIn_app (goodIn_of _ (by decide +kernel)) ggJ5_setLength_d00df_J2_fillNull_b72d1
theorem dJ5_setLength_d00df_0 : decode cJ5_setLength_d00df 0 = .ok (.iload_n 1, 1) := by decide +kernel
theorem dJ5_setLength_d00df_1 : decode cJ5_setLength_d00df 1 = .ok (.ifCond .ge 12, 3) := by decide +kernel
theorem dJ5_setLength_d00df_4 : decode cJ5_setLength_d00df 4 = .ok (.new 129, 3) := by decide +kernel
theorem dJ5_setLength_d00df_7 : decode cJ5_setLength_d00df 7 = .ok (.dup, 1) := by decide +kernel
theorem dJ5_setLength_d00df_8 : decode cJ5_setLength_d00df 8 = .ok (.iload_n 1, 1) := by decide +kernel
theorem dJ5_setLength_d00df_9 : decode cJ5_setLength_d00df 9 = .ok (.invokespecial 131, 3) := by decide +kernel
theorem dJ5_setLength_d00df_12 : decode cJ5_setLength_d00df 12 = .ok (.athrow, 1) := by decide +kernel
theorem dJ5_setLength_d00df_13 : decode cJ5_setLength_d00df 13 = .ok (.aload_n 0, 1) := by decide +kernel
theorem dJ5_setLength_d00df_14 : decode cJ5_setLength_d00df 14 = .ok (.iload_n 1, 1) := by decide +kernel
theorem dJ5_setLength_d00df_15 : decode cJ5_setLength_d00df 15 = .ok (.invokevirtual 100, 3) := by decide +kernel
theorem dJ5_setLength_d00df_18 : decode cJ5_setLength_d00df 18 = .ok (.aload_n 0, 1) := by decide +kernel
theorem dJ5_setLength_d00df_19 : decode cJ5_setLength_d00df 19 = .ok (.getfield 79, 3) := by decide +kernel
theorem dJ5_setLength_d00df_22 : decode cJ5_setLength_d00df 22 = .ok (.iload_n 1, 1) := by decide +kernel
theorem dJ5_setLength_d00df_23 : decode cJ5_setLength_d00df 23 = .ok (.if_icmp .ge 40, 3) := by decide +kernel
theorem dJ5_setLength_d00df_26 : decode cJ5_setLength_d00df 26 = .ok (.aload_n 0, 1) := by decide +kernel
theorem dJ5_setLength_d00df_27 : decode cJ5_setLength_d00df 27 = .ok (.invokevirtual 83, 3) := by decide +kernel
theorem dJ5_setLength_d00df_30 : decode cJ5_setLength_d00df 30 = .ok (.ifCond .eq 18, 3) := by decide +kernel
theorem dJ5_setLength_d00df_33 : decode cJ5_setLength_d00df 33 = .ok (.aload_n 0, 1) := by decide +kernel
theorem dJ5_setLength_d00df_34 : decode cJ5_setLength_d00df 34 = .ok (.getfield 15, 3) := by decide +kernel
theorem dJ5_setLength_d00df_37 : decode cJ5_setLength_d00df 37 = .ok (.aload_n 0, 1) := by decide +kernel
theorem dJ5_setLength_d00df_38 : decode cJ5_setLength_d00df 38 = .ok (.getfield 79, 3) := by decide +kernel
theorem dJ5_setLength_d00df_41 : decode cJ5_setLength_d00df 41 = .ok (.iload_n 1, 1) := by decide +kernel
theorem dJ5_setLength_d00df_42 : decode cJ5_setLength_d00df 42 = .ok (.invokestatic 133, 3) := by decide +kernel
theorem dJ5_setLength_d00df_45 : decode cJ5_setLength_d00df 45 = .ok (.goto 31, 3) := by decide +kernel
theorem dJ5_setLength_d00df_48 : decode cJ5_setLength_d00df 48 = .ok (.aload_n 0, 1) := by decide +kernel
theorem dJ5_setLength_d00df_49 : decode cJ5_setLength_d00df 49 = .ok (.getfield 15, 3) := by decide +kernel
theorem dJ5_setLength_d00df_52 : decode cJ5_setLength_d00df 52 = .ok (.aload_n 0, 1) := by decide +kernel
theorem dJ5_setLength_d00df_53 : decode cJ5_setLength_d00df 53 = .ok (.getfield 79, 3) := by decide +kernel
theorem dJ5_setLength_d00df_56 : decode cJ5_setLength_d00df 56 = .ok (.iload_n 1, 1) := by decide +kernel
theorem dJ5_setLength_d00df_57 : decode cJ5_setLength_d00df 57 = .ok (.invokestatic 137, 3) := by decide +kernel
theorem dJ5_setLength_d00df_60 : decode cJ5_setLength_d00df 60 = .ok (.goto 16, 3) := by decide +kernel
theorem dJ5_setLength_d00df_63 : decode cJ5_setLength_d00df 63 = .ok (.aload_n 0, 1) := by decide +kernel
theorem dJ5_setLength_d00df_64 : decode cJ5_setLength_d00df 64 = .ok (.getfield 79, 3) := by decide +kernel
theorem dJ5_setLength_d00df_67 : decode cJ5_setLength_d00df 67 = .ok (.iload_n 1, 1) := by decide +kernel
theorem dJ5_setLength_d00df_68 : decode cJ5_setLength_d00df 68 = .ok (.if_icmp .le 8, 3) := by decide +kernel
theorem dJ5_setLength_d00df_71 : decode cJ5_setLength_d00df 71 = .ok (.aload_n 0, 1) := by decide +kernel
theorem dJ5_setLength_d00df_72 : decode cJ5_setLength_d00df 72 = .ok (.iconst 1, 1) := by decide +kernel
theorem dJ5_setLength_d00df_73 : decode cJ5_setLength_d00df 73 = .ok (.putfield 73, 3) := by decide +kernel
theorem dJ5_setLength_d00df_76 : decode cJ5_setLength_d00df 76 = .ok (.aload_n 0, 1) := by decide +kernel
theorem dJ5_setLength_d00df_77 : decode cJ5_setLength_d00df 77 = .ok (.iload_n 1, 1) := by decide +kernel
theorem dJ5_setLength_d00df_78 : decode cJ5_setLength_d00df 78 = .ok (.putfield 79, 3) := by decide +kernel
theorem dJ5_setLength_d00df_81 : decode cJ5_setLength_d00df 81 = .ok (.return_, 1) := by decide +kernel
set_option maxRecDepth 20000 in
theorem ggJ5_charAt_5068e_J0_checkIndex_df160 : GoodIn wsJ5_charAt_5068e wsJ0_checkIndex_df160 := goodIn_r _ [11, 12, 13, 14, 15, 16] (by decide +kernel) (by decide +kernel)
set_option maxRecDepth 20000 in
theorem gJ5_charAt_5068e_J0_checkIndex_df160 : GoodIn wsJ5_charAt_5068e (va_wsS RJ5 144 yJ0_checkIndex_df160 wsJ0_checkIndex_df160) := goodIn_app (goodIn_of _ (by decide +kernel)) ggJ5_charAt_5068e_J0_checkIndex_df160
set_option maxRecDepth 20000 in
theorem ggJ5_charAt_5068e_J2_getChar_3b067 : GoodIn wsJ5_charAt_5068e wsJ2_getChar_3b067 := goodIn_r _ [20, 21, 22, 23, 24, 25, 19, 26] (by decide +kernel) (by decide +kernel)
set_option maxRecDepth 20000 in
theorem gJ5_charAt_5068e_J2_getChar_3b067 : GoodIn wsJ5_charAt_5068e (va_wsS RJ5 148 yJ2_getChar_3b067 wsJ2_getChar_3b067) := goodIn_app (goodIn_of _ (by decide +kernel)) ggJ5_charAt_5068e_J2_getChar_3b067
theorem dJ5_charAt_5068e_0 : decode cJ5_charAt_5068e 0 = .ok (.aload_n 0, 1) := by decide +kernel
theorem dJ5_charAt_5068e_1 : decode cJ5_charAt_5068e 1 = .ok (.getfield 22, 3) := by decide +kernel
theorem dJ5_charAt_5068e_4 : decode cJ5_charAt_5068e 4 = .ok (.istore_n 2, 1) := by decide +kernel
theorem dJ5_charAt_5068e_5 : decode cJ5_charAt_5068e 5 = .ok (.aload_n 0, 1) := by decide +kernel
theorem dJ5_charAt_5068e_6 : decode cJ5_charAt_5068e 6 = .ok (.getfield 15, 3) := by decide +kernel
theorem dJ5_charAt_5068e_9 : decode cJ5_charAt_5068e 9 = .ok (.astore_n 3, 1) := by decide +kernel
theorem dJ5_charAt_5068e_10 : decode cJ5_charAt_5068e 10 = .ok (.aload_n 0, 1) := by decide +kernel
theorem dJ5_charAt_5068e_11 : decode cJ5_charAt_5068e 11 = .ok (.getfield 79, 3) := by decide +kernel
theorem dJ5_charAt_5068e_14 : decode cJ5_charAt_5068e 14 = .ok (.aload_n 3, 1) := by decide +kernel
theorem dJ5_charAt_5068e_15 : decode cJ5_charAt_5068e 15 = .ok (.arraylength, 1) := by decide +kernel
theorem dJ5_charAt_5068e_16 : decode cJ5_charAt_5068e 16 = .ok (.iload_n 2, 1) := by decide +kernel
theorem dJ5_charAt_5068e_17 : decode cJ5_charAt_5068e 17 = .ok (.ishr, 1) := by decide +kernel
theorem dJ5_charAt_5068e_18 : decode cJ5_charAt_5068e 18 = .ok (.invokestatic 138, 3) := by decide +kernel
theorem dJ5_charAt_5068e_21 : decode cJ5_charAt_5068e 21 = .ok (.istore 4, 2) := by decide +kernel
theorem dJ5_charAt_5068e_23 : decode cJ5_charAt_5068e 23 = .ok (.iload_n 1, 1) := by decide +kernel
theorem dJ5_charAt_5068e_24 : decode cJ5_charAt_5068e 24 = .ok (.iload 4, 2) := by decide +kernel
theorem dJ5_charAt_5068e_26 : decode cJ5_charAt_5068e 26 = .ok (.invokestatic 144, 3) := by decide +kernel
theorem dJ5_charAt_5068e_29 : decode cJ5_charAt_5068e 29 = .ok (.iload_n 2, 1) := by decide +kernel
theorem dJ5_charAt_5068e_30 : decode cJ5_charAt_5068e 30 = .ok (.ifCond .ne 12, 3) := by decide +kernel
theorem dJ5_charAt_5068e_33 : decode cJ5_charAt_5068e 33 = .ok (.aload_n 3, 1) := by decide +kernel
theorem dJ5_charAt_5068e_34 : decode cJ5_charAt_5068e 34 = .ok (.iload_n 1, 1) := by decide +kernel
theorem dJ5_charAt_5068e_35 : decode cJ5_charAt_5068e 35 = .ok (.baload, 1) := by decide +kernel
theorem dJ5_charAt_5068e_36 : decode cJ5_charAt_5068e 36 = .ok (.sipush 255, 3) := by decide +kernel
theorem dJ5_charAt_5068e_39 : decode cJ5_charAt_5068e 39 = .ok (.iand, 1) := by decide +kernel
theorem dJ5_charAt_5068e_40 : decode cJ5_charAt_5068e 40 = .ok (.i2c, 1) := by decide +kernel
theorem dJ5_charAt_5068e_41 : decode cJ5_charAt_5068e 41 = .ok (.ireturn, 1) := by decide +kernel
theorem dJ5_charAt_5068e_42 : decode cJ5_charAt_5068e 42 = .ok (.aload_n 3, 1) := by decide +kernel
theorem dJ5_charAt_5068e_43 : decode cJ5_charAt_5068e 43 = .ok (.iload_n 1, 1) := by decide +kernel
theorem dJ5_charAt_5068e_44 : decode cJ5_charAt_5068e 44 = .ok (.invokestatic 148, 3) := by decide +kernel
theorem dJ5_charAt_5068e_47 : decode cJ5_charAt_5068e 47 = .ok (.ireturn, 1) := by decide +kernel
set_option maxRecDepth 20000 in
theorem ggJ5_append_cf1ce_J5_appendNull_278bc : GoodIn wsJ5_append_cf1ce wsJ5_appendNull_278bc := goodIn_r _ [7, 1, 8, 9, 10, 11, 12, 6, 13, 14, 15, 16, 17, 18, 19, 20, 21, 22, 23, 24, 25, 26, 27, 28, 29, 30, 31, 32, 33, 34, 35, 36, 37, 38, 39, 40, 41, 42, 43, 44, 45, 46, 47, 48, 49, 50, 51, 52, 53, 54, 55, 56, 57, 58, 59, 60, 61, 62, 63, 64, 65, 66, 67, 68, 69, 70, 71, 72, 73, 74, 75, 76, 77, 78, 79, 80, 81, 138, 139, 140, 141] (by decide +kernel) (by decide +kernel)
set_option maxRecDepth 20000 in
theorem gJ5_append_cf1ce_J5_appendNull_278bc_u204J4 : GoodIn wsJ5_append_cf1ce (va_wsU RJ5 204 RJ4 "java/lang/AbstractStringBuilder" ⟨"java/lang/AbstractStringBuilder", "appendNull", "()Ljava/lang/AbstractStringBuilder;"⟩ yJ5_appendNull_278bc wsJ5_appendNull_278bc) := goodIn_app (goodIn_of _ (by decide +kernel)) ggJ5_append_cf1ce_J5_appendNull_278bc
set_option maxRecDepth 20000 in
theorem ggJ5_append_cf1ce_J0_length_8abf5 : GoodIn wsJ5_append_cf1ce wsJ0_length_8abf5 := goodIn_r _ [85, 86, 87, 88, 89, 70, 90, 91, 92] (by decide +kernel) (by decide +kernel)
set_option maxRecDepth 20000 in
theorem gJ5_append_cf1ce_J0_length_8abf5 : GoodIn wsJ5_append_cf1ce (wsV RJ5 32 RJ0 yJ0_length_8abf5 wsJ0_length_8abf5) := goodIn_app (goodIn_of _ (by decide +kernel)) ggJ5_append_cf1ce_J0_length_8abf5
set_option maxRecDepth 20000 in
theorem ggJ5_append_cf1ce_J5_ensureCapacityInternal_d00df : GoodIn wsJ5_append_cf1ce wsJ5_ensureCapacityInternal_d00df := goodIn_r _ [13, 8, 14, 15, 16, 17, 18, 6, 19, 20, 21, 22, 23, 24, 25, 26, 27, 28, 29, 30, 31, 32, 33, 34, 35, 36, 37, 38, 39, 40, 41, 42, 43, 44, 45, 46, 47, 48, 49, 50, 138, 139, 140, 141] (by decide +kernel) (by decide +kernel)
set_option maxRecDepth 20000 in
theorem gJ5_append_cf1ce_J5_ensureCapacityInternal_d00df_u100J4 : GoodIn wsJ5_append_cf1ce (va_wsU RJ5 100 RJ4 "java/lang/AbstractStringBuilder" ⟨"java/lang/AbstractStringBuilder", "ensureCapacityInternal", "(I)V"⟩ yJ5_ensureCapacityInternal_d00df wsJ5_ensureCapacityInternal_d00df) := goodIn_app (goodIn_of _ (by decide +kernel)) ggJ5_append_cf1ce_J5_ensureCapacityInternal_d00df
set_option maxRecDepth 20000 in
theorem ggJ5_append_cf1ce_J5_putStringAt_47b60 : GoodIn wsJ5_append_cf1ce wsJ5_putStringAt_47b60 := goodIn_r _ [97, 8, 14, 98, 99, 100, 101, 6, 102, 56, 103, 88, 89, 70, 90, 91, 92, 104, 105, 106, 107, 108, 1, 51, 52, 53, 54, 55, 109, 110, 59, 111, 43, 112, 113, 114, 115, 116, 117, 118, 119, 120, 121, 122, 123, 124, 125, 65, 66, 67, 126, 127, 128, 72, 129, 130, 75, 131, 77, 78, 79, 61, 80, 81, 132, 133, 134, 135, 86, 136, 48, 49, 50, 87, 137, 138, 139, 140, 141] (by decide +kernel) (by decide +kernel)
set_option maxRecDepth 20000 in
theorem gJ5_append_cf1ce_J5_putStringAt_47b60_u208J4 : GoodIn wsJ5_append_cf1ce (va_wsU RJ5 208 RJ4 "java/lang/AbstractStringBuilder" ⟨"java/lang/AbstractStringBuilder", "putStringAt", "(ILjava/lang/String;)V"⟩ yJ5_putStringAt_47b60 wsJ5_putStringAt_47b60) := goodIn_app (goodIn_of _ (by decide +kernel)) ggJ5_append_cf1ce_J5_putStringAt_47b60
theorem dJ5_append_cf1ce_0 : decode cJ5_append_cf1ce 0 = .ok (.aload_n 1, 1) := by decide +kernel
theorem dJ5_append_cf1ce_1 : decode cJ5_append_cf1ce 1 = .ok (.ifnonnull 8, 3) := by decide +kernel
theorem dJ5_append_cf1ce_4 : decode cJ5_append_cf1ce 4 = .ok (.aload_n 0, 1) := by decide +kernel
theorem dJ5_append_cf1ce_5 : decode cJ5_append_cf1ce 5 = .ok (.invokevirtual 204, 3) := by decide +kernel
theorem dJ5_append_cf1ce_8 : decode cJ5_append_cf1ce 8 = .ok (.areturn, 1) := by decide +kernel
theorem dJ5_append_cf1ce_9 : decode cJ5_append_cf1ce 9 = .ok (.aload_n 1, 1) := by decide +kernel
theorem dJ5_append_cf1ce_10 : decode cJ5_append_cf1ce 10 = .ok (.invokevirtual 32, 3) := by decide +kernel
theorem dJ5_append_cf1ce_13 : decode cJ5_append_cf1ce 13 = .ok (.istore_n 2, 1) := by decide +kernel
theorem dJ5_append_cf1ce_14 : decode cJ5_append_cf1ce 14 = .ok (.aload_n 0, 1) := by decide +kernel
theorem dJ5_append_cf1ce_15 : decode cJ5_append_cf1ce 15 = .ok (.aload_n 0, 1) := by decide +kernel
theorem dJ5_append_cf1ce_16 : decode cJ5_append_cf1ce 16 = .ok (.getfield 79, 3) := by decide +kernel
theorem dJ5_append_cf1ce_19 : decode cJ5_append_cf1ce 19 = .ok (.iload_n 2, 1) := by decide +kernel
theorem dJ5_append_cf1ce_20 : decode cJ5_append_cf1ce 20 = .ok (.iadd, 1) := by decide +kernel
theorem dJ5_append_cf1ce_21 : decode cJ5_append_cf1ce 21 = .ok (.invokevirtual 100, 3) := by decide +kernel
theorem dJ5_append_cf1ce_24 : decode cJ5_append_cf1ce 24 = .ok (.aload_n 0, 1) := by decide +kernel
theorem dJ5_append_cf1ce_25 : decode cJ5_append_cf1ce 25 = .ok (.aload_n 0, 1) := by decide +kernel
theorem dJ5_append_cf1ce_26 : decode cJ5_append_cf1ce 26 = .ok (.getfield 79, 3) := by decide +kernel
theorem dJ5_append_cf1ce_29 : decode cJ5_append_cf1ce 29 = .ok (.aload_n 1, 1) := by decide +kernel
theorem dJ5_append_cf1ce_30 : decode cJ5_append_cf1ce 30 = .ok (.invokevirtual 208, 3) := by decide +kernel
theorem dJ5_append_cf1ce_33 : decode cJ5_append_cf1ce 33 = .ok (.aload_n 0, 1) := by decide +kernel
theorem dJ5_append_cf1ce_34 : decode cJ5_append_cf1ce 34 = .ok (.dup, 1) := by decide +kernel
theorem dJ5_append_cf1ce_35 : decode cJ5_append_cf1ce 35 = .ok (.getfield 79, 3) := by decide +kernel
theorem dJ5_append_cf1ce_38 : decode cJ5_append_cf1ce 38 = .ok (.iload_n 2, 1) := by decide +kernel
theorem dJ5_append_cf1ce_39 : decode cJ5_append_cf1ce 39 = .ok (.iadd, 1) := by decide +kernel
theorem dJ5_append_cf1ce_40 : decode cJ5_append_cf1ce 40 = .ok (.putfield 79, 3) := by decide +kernel
theorem dJ5_append_cf1ce_43 : decode cJ5_append_cf1ce 43 = .ok (.aload_n 0, 1) := by decide +kernel
theorem dJ5_append_cf1ce_44 : decode cJ5_append_cf1ce 44 = .ok (.areturn, 1) := by decide +kernel
set_option maxRecDepth 20000 in
theorem ggJ5_appendNull_278bc_J5_ensureCapacityInternal_d00df : GoodIn wsJ5_appendNull_278bc wsJ5_ensureCapacityInternal_d00df := goodIn_r _ [8, 2, 9, 10, 11, 12, 13, 7, 14, 15, 16, 17, 18, 19, 20, 21, 22, 23, 24, 25, 26, 27, 28, 29, 30, 31, 32, 33, 34, 35, 36, 37, 38, 39, 40, 41, 42, 43, 44, 45, 77, 78, 79, 80] (by decide +kernel) (by decide +kernel)
set_option maxRecDepth 20000 in
theorem gJ5_appendNull_278bc_J5_ensureCapacityInternal_d00df_u100J4 : GoodIn wsJ5_appendNull_278bc (va_wsU RJ5 100 RJ4 "java/lang/AbstractStringBuilder" ⟨"java/lang/AbstractStringBuilder", "ensureCapacityInternal", "(I)V"⟩ yJ5_ensureCapacityInternal_d00df wsJ5_ensureCapacityInternal_d00df) := goodIn_app (goodIn_of _ (by decide +kernel)) ggJ5_appendNull_278bc_J5_ensureCapacityInternal_d00df
set_option maxRecDepth 20000 in
theorem ggJ5_appendNull_278bc_J5_isLatin1_aae02 : GoodIn wsJ5_appendNull_278bc wsJ5_isLatin1_aae02 := goodIn_r _ [50, 51, 9, 77, 78, 79, 80] (by decide +kernel) (by decide +kernel)
set_option maxRecDepth 20000 in
theorem gJ5_appendNull_278bc_J5_isLatin1_aae02_u83J4 : GoodIn wsJ5_appendNull_278bc (va_wsU RJ5 83 RJ4 "java/lang/AbstractStringBuilder" ⟨"java/lang/AbstractStringBuilder", "isLatin1", "()Z"⟩ yJ5_isLatin1_aae02 wsJ5_isLatin1_aae02) := goodIn_app (goodIn_of _ (by decide +kernel)) ggJ5_appendNull_278bc_J5_isLatin1_aae02
set_option maxRecDepth 20000 in
theorem ggJ5_appendNull_278bc_J2_putCharsAt_cd4e5 : GoodIn wsJ5_appendNull_278bc wsJ2_putCharsAt_cd4e5 := goodIn_r _ [55, 56, 57, 58, 54, 59, 60, 61, 62, 63, 64, 65, 66, 67, 68, 69, 70, 71, 72, 73, 74, 75, 76] (by decide +kernel) (by decide +kernel)
set_option maxRecDepth 20000 in
theorem gJ5_appendNull_278bc_J2_putCharsAt_cd4e5 : GoodIn wsJ5_appendNull_278bc (va_wsS RJ5 226 yJ2_putCharsAt_cd4e5 wsJ2_putCharsAt_cd4e5) := goodIn_app (goodIn_of _ (by decide +kernel)) ggJ5_appendNull_278bc_J2_putCharsAt_cd4e5
theorem dJ5_appendNull_278bc_0 : decode cJ5_appendNull_278bc 0 = .ok (.aload_n 0, 1) := by decide +kernel
theorem dJ5_appendNull_278bc_1 : decode cJ5_appendNull_278bc 1 = .ok (.aload_n 0, 1) := by decide +kernel
theorem dJ5_appendNull_278bc_2 : decode cJ5_appendNull_278bc 2 = .ok (.getfield 79, 3) := by decide +kernel
theorem dJ5_appendNull_278bc_5 : decode cJ5_appendNull_278bc 5 = .ok (.iconst 4, 1) := by decide +kernel
theorem dJ5_appendNull_278bc_6 : decode cJ5_appendNull_278bc 6 = .ok (.iadd, 1) := by decide +kernel
theorem dJ5_appendNull_278bc_7 : decode cJ5_appendNull_278bc 7 = .ok (.invokevirtual 100, 3) := by decide +kernel
theorem dJ5_appendNull_278bc_10 : decode cJ5_appendNull_278bc 10 = .ok (.aload_n 0, 1) := by decide +kernel
theorem dJ5_appendNull_278bc_11 : decode cJ5_appendNull_278bc 11 = .ok (.getfield 79, 3) := by decide +kernel
theorem dJ5_appendNull_278bc_14 : decode cJ5_appendNull_278bc 14 = .ok (.istore_n 1, 1) := by decide +kernel
theorem dJ5_appendNull_278bc_15 : decode cJ5_appendNull_278bc 15 = .ok (.aload_n 0, 1) := by decide +kernel
theorem dJ5_appendNull_278bc_16 : decode cJ5_appendNull_278bc 16 = .ok (.getfield 15, 3) := by decide +kernel
theorem dJ5_appendNull_278bc_19 : decode cJ5_appendNull_278bc 19 = .ok (.astore_n 2, 1) := by decide +kernel
theorem dJ5_appendNull_278bc_20 : decode cJ5_appendNull_278bc 20 = .ok (.aload_n 0, 1) := by decide +kernel
theorem dJ5_appendNull_278bc_21 : decode cJ5_appendNull_278bc 21 = .ok (.invokevirtual 83, 3) := by decide +kernel
theorem dJ5_appendNull_278bc_24 : decode cJ5_appendNull_278bc 24 = .ok (.ifCond .eq 38, 3) := by decide +kernel
theorem dJ5_appendNull_278bc_27 : decode cJ5_appendNull_278bc 27 = .ok (.aload_n 2, 1) := by decide +kernel
theorem dJ5_appendNull_278bc_28 : decode cJ5_appendNull_278bc 28 = .ok (.iload_n 1, 1) := by decide +kernel
theorem dJ5_appendNull_278bc_29 : decode cJ5_appendNull_278bc 29 = .ok (.iinc 1 1, 3) := by decide +kernel
theorem dJ5_appendNull_278bc_32 : decode cJ5_appendNull_278bc 32 = .ok (.bipush 110, 2) := by decide +kernel
theorem dJ5_appendNull_278bc_34 : decode cJ5_appendNull_278bc 34 = .ok (.bastore, 1) := by decide +kernel
theorem dJ5_appendNull_278bc_35 : decode cJ5_appendNull_278bc 35 = .ok (.aload_n 2, 1) := by decide +kernel
theorem dJ5_appendNull_278bc_36 : decode cJ5_appendNull_278bc 36 = .ok (.iload_n 1, 1) := by decide +kernel
theorem dJ5_appendNull_278bc_37 : decode cJ5_appendNull_278bc 37 = .ok (.iinc 1 1, 3) := by decide +kernel
theorem dJ5_appendNull_278bc_40 : decode cJ5_appendNull_278bc 40 = .ok (.bipush 117, 2) := by decide +kernel
theorem dJ5_appendNull_278bc_42 : decode cJ5_appendNull_278bc 42 = .ok (.bastore, 1) := by decide +kernel
theorem dJ5_appendNull_278bc_43 : decode cJ5_appendNull_278bc 43 = .ok (.aload_n 2, 1) := by decide +kernel
theorem dJ5_appendNull_278bc_44 : decode cJ5_appendNull_278bc 44 = .ok (.iload_n 1, 1) := by decide +kernel
theorem dJ5_appendNull_278bc_45 : decode cJ5_appendNull_278bc 45 = .ok (.iinc 1 1, 3) := by decide +kernel
theorem dJ5_appendNull_278bc_48 : decode cJ5_appendNull_278bc 48 = .ok (.bipush 108, 2) := by decide +kernel
theorem dJ5_appendNull_278bc_50 : decode cJ5_appendNull_278bc 50 = .ok (.bastore, 1) := by decide +kernel
theorem dJ5_appendNull_278bc_51 : decode cJ5_appendNull_278bc 51 = .ok (.aload_n 2, 1) := by decide +kernel
theorem dJ5_appendNull_278bc_52 : decode cJ5_appendNull_278bc 52 = .ok (.iload_n 1, 1) := by decide +kernel
theorem dJ5_appendNull_278bc_53 : decode cJ5_appendNull_278bc 53 = .ok (.iinc 1 1, 3) := by decide +kernel
theorem dJ5_appendNull_278bc_56 : decode cJ5_appendNull_278bc 56 = .ok (.bipush 108, 2) := by decide +kernel
theorem dJ5_appendNull_278bc_58 : decode cJ5_appendNull_278bc 58 = .ok (.bastore, 1) := by decide +kernel
theorem dJ5_appendNull_278bc_59 : decode cJ5_appendNull_278bc 59 = .ok (.goto 17, 3) := by decide +kernel
theorem dJ5_appendNull_278bc_62 : decode cJ5_appendNull_278bc 62 = .ok (.aload_n 2, 1) := by decide +kernel
theorem dJ5_appendNull_278bc_63 : decode cJ5_appendNull_278bc 63 = .ok (.iload_n 1, 1) := by decide +kernel
theorem dJ5_appendNull_278bc_64 : decode cJ5_appendNull_278bc 64 = .ok (.bipush 110, 2) := by decide +kernel
theorem dJ5_appendNull_278bc_66 : decode cJ5_appendNull_278bc 66 = .ok (.bipush 117, 2) := by decide +kernel
theorem dJ5_appendNull_278bc_68 : decode cJ5_appendNull_278bc 68 = .ok (.bipush 108, 2) := by decide +kernel
theorem dJ5_appendNull_278bc_70 : decode cJ5_appendNull_278bc 70 = .ok (.bipush 108, 2) := by decide +kernel
theorem dJ5_appendNull_278bc_72 : decode cJ5_appendNull_278bc 72 = .ok (.invokestatic 226, 3) := by decide +kernel
theorem dJ5_appendNull_278bc_75 : decode cJ5_appendNull_278bc 75 = .ok (.istore_n 1, 1) := by decide +kernel
theorem dJ5_appendNull_278bc_76 : decode cJ5_appendNull_278bc 76 = .ok (.aload_n 0, 1) := by decide +kernel
theorem dJ5_appendNull_278bc_77 : decode cJ5_appendNull_278bc 77 = .ok (.iload_n 1, 1) := by decide +kernel
theorem dJ5_appendNull_278bc_78 : decode cJ5_appendNull_278bc 78 = .ok (.putfield 79, 3) := by decide +kernel
theorem dJ5_appendNull_278bc_81 : decode cJ5_appendNull_278bc 81 = .ok (.aload_n 0, 1) := by decide +kernel
theorem dJ5_appendNull_278bc_82 : decode cJ5_appendNull_278bc 82 = .ok (.areturn, 1) := by decide +kernel
set_option maxRecDepth 20000 in
theorem ggJ5_append_3fe6f_J5_ensureCapacityInternal_d00df : GoodIn wsJ5_append_3fe6f wsJ5_ensureCapacityInternal_d00df := goodIn_r _ [8, 2, 9, 10, 11, 12, 13, 7, 14, 15, 16, 17, 18, 19, 20, 21, 22, 23, 24, 25, 26, 27, 28, 29, 30, 31, 32, 33, 34, 35, 36, 37, 38, 39, 40, 41, 42, 43, 44, 45, 108, 109, 110, 111] (by decide +kernel) (by decide +kernel)
set_option maxRecDepth 20000 in
theorem gJ5_append_3fe6f_J5_ensureCapacityInternal_d00df_u100J4 : GoodIn wsJ5_append_3fe6f (va_wsU RJ5 100 RJ4 "java/lang/AbstractStringBuilder" ⟨"java/lang/AbstractStringBuilder", "ensureCapacityInternal", "(I)V"⟩ yJ5_ensureCapacityInternal_d00df wsJ5_ensureCapacityInternal_d00df) := goodIn_app (goodIn_of _ (by decide +kernel)) ggJ5_append_3fe6f_J5_ensureCapacityInternal_d00df
set_option maxRecDepth 20000 in
theorem ggJ5_append_3fe6f_J5_isLatin1_aae02 : GoodIn wsJ5_append_3fe6f wsJ5_isLatin1_aae02 := goodIn_r _ [50, 51, 9, 108, 109, 110, 111] (by decide +kernel) (by decide +kernel)
set_option maxRecDepth 20000 in
theorem gJ5_append_3fe6f_J5_isLatin1_aae02_u83J4 : GoodIn wsJ5_append_3fe6f (va_wsU RJ5 83 RJ4 "java/lang/AbstractStringBuilder" ⟨"java/lang/AbstractStringBuilder", "isLatin1", "()Z"⟩ yJ5_isLatin1_aae02 wsJ5_isLatin1_aae02) := goodIn_app (goodIn_of _ (by decide +kernel)) ggJ5_append_3fe6f_J5_isLatin1_aae02
set_option maxRecDepth 20000 in
theorem ggJ5_append_3fe6f_J1_canEncode_fc78d : GoodIn wsJ5_append_3fe6f wsJ1_canEncode_fc78d := goodIn_r _ [55] (by decide +kernel) (by decide +kernel)
set_option maxRecDepth 20000 in
theorem gJ5_append_3fe6f_J1_canEncode_fc78d : GoodIn wsJ5_append_3fe6f (va_wsS RJ5 191 yJ1_canEncode_fc78d wsJ1_canEncode_fc78d) := goodIn_app (goodIn_of _ (by decide +kernel)) ggJ5_append_3fe6f_J1_canEncode_fc78d
set_option maxRecDepth 20000 in
theorem ggJ5_append_3fe6f_J5_inflate_da8c8 : GoodIn wsJ5_append_3fe6f wsJ5_inflate_da8c8 := goodIn_r _ [60, 2, 1, 9, 46, 47, 48, 49, 7, 50, 51, 61, 62, 63, 64, 38, 65, 66, 67, 68, 69, 70, 54, 71, 72, 73, 74, 75, 76, 77, 78, 79, 80, 81, 82, 83, 84, 85, 86, 87, 88, 89, 90, 91, 92, 93, 94, 95, 108, 109, 110, 111] (by decide +kernel) (by decide +kernel)
set_option maxRecDepth 20000 in
theorem gJ5_append_3fe6f_J5_inflate_da8c8_u195J4 : GoodIn wsJ5_append_3fe6f (va_wsU RJ5 195 RJ4 "java/lang/AbstractStringBuilder" ⟨"java/lang/AbstractStringBuilder", "inflate", "()V"⟩ yJ5_inflate_da8c8 wsJ5_inflate_da8c8) := goodIn_app (goodIn_of _ (by decide +kernel)) ggJ5_append_3fe6f_J5_inflate_da8c8
set_option maxRecDepth 20000 in
theorem ggJ5_append_3fe6f_J2_putCharSB_b72d1 : GoodIn wsJ5_append_3fe6f wsJ2_putCharSB_b72d1 := goodIn_r _ [98, 99, 100, 63, 101, 78, 79, 80, 102, 103, 83, 104, 85, 105, 106, 88, 107, 90, 91, 92, 93, 94, 95] (by decide +kernel) (by decide +kernel)
set_option maxRecDepth 20000 in
theorem gJ5_append_3fe6f_J2_putCharSB_b72d1 : GoodIn wsJ5_append_3fe6f (va_wsS RJ5 197 yJ2_putCharSB_b72d1 wsJ2_putCharSB_b72d1) := goodIn_app (goodIn_of _ (by decide +kernel)) ggJ5_append_3fe6f_J2_putCharSB_b72d1
theorem dJ5_append_3fe6f_0 : decode cJ5_append_3fe6f 0 = .ok (.aload_n 0, 1) := by decide +kernel
theorem dJ5_append_3fe6f_1 : decode cJ5_append_3fe6f 1 = .ok (.aload_n 0, 1) := by decide +kernel
theorem dJ5_append_3fe6f_2 : decode cJ5_append_3fe6f 2 = .ok (.getfield 79, 3) := by decide +kernel
theorem dJ5_append_3fe6f_5 : decode cJ5_append_3fe6f 5 = .ok (.iconst 1, 1) := by decide +kernel
theorem dJ5_append_3fe6f_6 : decode cJ5_append_3fe6f 6 = .ok (.iadd, 1) := by decide +kernel
theorem dJ5_append_3fe6f_7 : decode cJ5_append_3fe6f 7 = .ok (.invokevirtual 100, 3) := by decide +kernel
theorem dJ5_append_3fe6f_10 : decode cJ5_append_3fe6f 10 = .ok (.aload_n 0, 1) := by decide +kernel
theorem dJ5_append_3fe6f_11 : decode cJ5_append_3fe6f 11 = .ok (.invokevirtual 83, 3) := by decide +kernel
theorem dJ5_append_3fe6f_14 : decode cJ5_append_3fe6f 14 = .ok (.ifCond .eq 31, 3) := by decide +kernel
theorem dJ5_append_3fe6f_17 : decode cJ5_append_3fe6f 17 = .ok (.iload_n 1, 1) := by decide +kernel
theorem dJ5_append_3fe6f_18 : decode cJ5_append_3fe6f 18 = .ok (.invokestatic 191, 3) := by decide +kernel
theorem dJ5_append_3fe6f_21 : decode cJ5_append_3fe6f 21 = .ok (.ifCond .eq 24, 3) := by decide +kernel
theorem dJ5_append_3fe6f_24 : decode cJ5_append_3fe6f 24 = .ok (.aload_n 0, 1) := by decide +kernel
theorem dJ5_append_3fe6f_25 : decode cJ5_append_3fe6f 25 = .ok (.getfield 15, 3) := by decide +kernel
theorem dJ5_append_3fe6f_28 : decode cJ5_append_3fe6f 28 = .ok (.aload_n 0, 1) := by decide +kernel
theorem dJ5_append_3fe6f_29 : decode cJ5_append_3fe6f 29 = .ok (.dup, 1) := by decide +kernel
theorem dJ5_append_3fe6f_30 : decode cJ5_append_3fe6f 30 = .ok (.getfield 79, 3) := by decide +kernel
theorem dJ5_append_3fe6f_33 : decode cJ5_append_3fe6f 33 = .ok (.dup_x1, 1) := by decide +kernel
theorem dJ5_append_3fe6f_34 : decode cJ5_append_3fe6f 34 = .ok (.iconst 1, 1) := by decide +kernel
theorem dJ5_append_3fe6f_35 : decode cJ5_append_3fe6f 35 = .ok (.iadd, 1) := by decide +kernel
theorem dJ5_append_3fe6f_36 : decode cJ5_append_3fe6f 36 = .ok (.putfield 79, 3) := by decide +kernel
theorem dJ5_append_3fe6f_39 : decode cJ5_append_3fe6f 39 = .ok (.iload_n 1, 1) := by decide +kernel
theorem dJ5_append_3fe6f_40 : decode cJ5_append_3fe6f 40 = .ok (.i2b, 1) := by decide +kernel
theorem dJ5_append_3fe6f_41 : decode cJ5_append_3fe6f 41 = .ok (.bastore, 1) := by decide +kernel
theorem dJ5_append_3fe6f_42 : decode cJ5_append_3fe6f 42 = .ok (.goto 33, 3) := by decide +kernel
theorem dJ5_append_3fe6f_45 : decode cJ5_append_3fe6f 45 = .ok (.aload_n 0, 1) := by decide +kernel
theorem dJ5_append_3fe6f_46 : decode cJ5_append_3fe6f 46 = .ok (.invokevirtual 83, 3) := by decide +kernel
theorem dJ5_append_3fe6f_49 : decode cJ5_append_3fe6f 49 = .ok (.ifCond .eq 7, 3) := by decide +kernel
theorem dJ5_append_3fe6f_52 : decode cJ5_append_3fe6f 52 = .ok (.aload_n 0, 1) := by decide +kernel
theorem dJ5_append_3fe6f_53 : decode cJ5_append_3fe6f 53 = .ok (.invokevirtual 195, 3) := by decide +kernel
theorem dJ5_append_3fe6f_56 : decode cJ5_append_3fe6f 56 = .ok (.aload_n 0, 1) := by decide +kernel
theorem dJ5_append_3fe6f_57 : decode cJ5_append_3fe6f 57 = .ok (.getfield 15, 3) := by decide +kernel
theorem dJ5_append_3fe6f_60 : decode cJ5_append_3fe6f 60 = .ok (.aload_n 0, 1) := by decide +kernel
theorem dJ5_append_3fe6f_61 : decode cJ5_append_3fe6f 61 = .ok (.dup, 1) := by decide +kernel
theorem dJ5_append_3fe6f_62 : decode cJ5_append_3fe6f 62 = .ok (.getfield 79, 3) := by decide +kernel
theorem dJ5_append_3fe6f_65 : decode cJ5_append_3fe6f 65 = .ok (.dup_x1, 1) := by decide +kernel
theorem dJ5_append_3fe6f_66 : decode cJ5_append_3fe6f 66 = .ok (.iconst 1, 1) := by decide +kernel
theorem dJ5_append_3fe6f_67 : decode cJ5_append_3fe6f 67 = .ok (.iadd, 1) := by decide +kernel
theorem dJ5_append_3fe6f_68 : decode cJ5_append_3fe6f 68 = .ok (.putfield 79, 3) := by decide +kernel
theorem dJ5_append_3fe6f_71 : decode cJ5_append_3fe6f 71 = .ok (.iload_n 1, 1) := by decide +kernel
theorem dJ5_append_3fe6f_72 : decode cJ5_append_3fe6f 72 = .ok (.invokestatic 197, 3) := by decide +kernel
theorem dJ5_append_3fe6f_75 : decode cJ5_append_3fe6f 75 = .ok (.aload_n 0, 1) := by decide +kernel
theorem dJ5_append_3fe6f_76 : decode cJ5_append_3fe6f 76 = .ok (.areturn, 1) := by decide +kernel
set_option maxRecDepth 20000 in
theorem ggJ5_append_c97b9_J6_stringSize_0f7a4 : GoodIn wsJ5_append_c97b9 wsJ6_stringSize_0f7a4 := goodIn_r _ [6] (by decide +kernel) (by decide +kernel)
set_option maxRecDepth 20000 in
theorem gJ5_append_c97b9_J6_stringSize_0f7a4 : GoodIn wsJ5_append_c97b9 (va_wsS RJ5 245 yJ6_stringSize_0f7a4 wsJ6_stringSize_0f7a4) := goodIn_app (goodIn_of _ (by decide +kernel)) ggJ5_append_c97b9_J6_stringSize_0f7a4
set_option maxRecDepth 20000 in
theorem ggJ5_append_c97b9_J5_ensureCapacityInternal_d00df : GoodIn wsJ5_append_c97b9 wsJ5_ensureCapacityInternal_d00df := goodIn_r _ [12, 2, 13, 14, 15, 16, 17, 11, 18, 19, 20, 21, 22, 23, 24, 25, 26, 27, 28, 29, 30, 31, 32, 33, 34, 35, 36, 37, 38, 39, 40, 41, 42, 43, 44, 45, 46, 47, 48, 49, 91, 92, 93, 94] (by decide +kernel) (by decide +kernel)
set_option maxRecDepth 20000 in
theorem gJ5_append_c97b9_J5_ensureCapacityInternal_d00df_u100J4 : GoodIn wsJ5_append_c97b9 (va_wsU RJ5 100 RJ4 "java/lang/AbstractStringBuilder" ⟨"java/lang/AbstractStringBuilder", "ensureCapacityInternal", "(I)V"⟩ yJ5_ensureCapacityInternal_d00df wsJ5_ensureCapacityInternal_d00df) := goodIn_app (goodIn_of _ (by decide +kernel)) ggJ5_append_c97b9_J5_ensureCapacityInternal_d00df
set_option maxRecDepth 20000 in
theorem ggJ5_append_c97b9_J5_isLatin1_aae02 : GoodIn wsJ5_append_c97b9 wsJ5_isLatin1_aae02 := goodIn_r _ [54, 55, 13, 91, 92, 93, 94] (by decide +kernel) (by decide +kernel)
set_option maxRecDepth 20000 in
theorem gJ5_append_c97b9_J5_isLatin1_aae02_u83J4 : GoodIn wsJ5_append_c97b9 (va_wsU RJ5 83 RJ4 "java/lang/AbstractStringBuilder" ⟨"java/lang/AbstractStringBuilder", "isLatin1", "()Z"⟩ yJ5_isLatin1_aae02 wsJ5_isLatin1_aae02) := goodIn_app (goodIn_of _ (by decide +kernel)) ggJ5_append_c97b9_J5_isLatin1_aae02
set_option maxRecDepth 20000 in
theorem ggJ5_append_c97b9_J6_getChars_ba4f3 : GoodIn wsJ5_append_c97b9 wsJ6_getChars_ba4f3 := goodIn_r _ [58, 59, 60] (by decide +kernel) (by decide +kernel)
set_option maxRecDepth 20000 in
theorem gJ5_append_c97b9_J6_getChars_ba4f3 : GoodIn wsJ5_append_c97b9 (va_wsS RJ5 248 yJ6_getChars_ba4f3 wsJ6_getChars_ba4f3) := goodIn_app (goodIn_of _ (by decide +kernel)) ggJ5_append_c97b9_J6_getChars_ba4f3
set_option maxRecDepth 20000 in
theorem ggJ5_append_c97b9_J2_getChars_46870 : GoodIn wsJ5_append_c97b9 wsJ2_getChars_46870 := goodIn_r _ [64, 65, 66, 67, 63, 68, 69, 70, 71, 72, 73, 74, 75, 76, 77, 78, 79, 80, 81, 82, 83, 84, 85, 86, 87, 88, 89, 90] (by decide +kernel) (by decide +kernel)
set_option maxRecDepth 20000 in
theorem gJ5_append_c97b9_J2_getChars_46870 : GoodIn wsJ5_append_c97b9 (va_wsS RJ5 251 yJ2_getChars_46870 wsJ2_getChars_46870) := goodIn_app (goodIn_of _ (by decide +kernel)) ggJ5_append_c97b9_J2_getChars_46870
theorem dJ5_append_c97b9_0 : decode cJ5_append_c97b9 0 = .ok (.aload_n 0, 1) := by decide +kernel
theorem dJ5_append_c97b9_1 : decode cJ5_append_c97b9 1 = .ok (.getfield 79, 3) := by decide +kernel
theorem dJ5_append_c97b9_4 : decode cJ5_append_c97b9 4 = .ok (.istore_n 2, 1) := by decide +kernel
theorem dJ5_append_c97b9_5 : decode cJ5_append_c97b9 5 = .ok (.iload_n 2, 1) := by decide +kernel
theorem dJ5_append_c97b9_6 : decode cJ5_append_c97b9 6 = .ok (.iload_n 1, 1) := by decide +kernel
theorem dJ5_append_c97b9_7 : decode cJ5_append_c97b9 7 = .ok (.invokestatic 245, 3) := by decide +kernel
theorem dJ5_append_c97b9_10 : decode cJ5_append_c97b9 10 = .ok (.iadd, 1) := by decide +kernel
theorem dJ5_append_c97b9_11 : decode cJ5_append_c97b9 11 = .ok (.istore_n 3, 1) := by decide +kernel
theorem dJ5_append_c97b9_12 : decode cJ5_append_c97b9 12 = .ok (.aload_n 0, 1) := by decide +kernel
theorem dJ5_append_c97b9_13 : decode cJ5_append_c97b9 13 = .ok (.iload_n 3, 1) := by decide +kernel
theorem dJ5_append_c97b9_14 : decode cJ5_append_c97b9 14 = .ok (.invokevirtual 100, 3) := by decide +kernel
theorem dJ5_append_c97b9_17 : decode cJ5_append_c97b9 17 = .ok (.aload_n 0, 1) := by decide +kernel
theorem dJ5_append_c97b9_18 : decode cJ5_append_c97b9 18 = .ok (.invokevirtual 83, 3) := by decide +kernel
theorem dJ5_append_c97b9_21 : decode cJ5_append_c97b9 21 = .ok (.ifCond .eq 16, 3) := by decide +kernel
theorem dJ5_append_c97b9_24 : decode cJ5_append_c97b9 24 = .ok (.iload_n 1, 1) := by decide +kernel
theorem dJ5_append_c97b9_25 : decode cJ5_append_c97b9 25 = .ok (.iload_n 3, 1) := by decide +kernel
theorem dJ5_append_c97b9_26 : decode cJ5_append_c97b9 26 = .ok (.aload_n 0, 1) := by decide +kernel
theorem dJ5_append_c97b9_27 : decode cJ5_append_c97b9 27 = .ok (.getfield 15, 3) := by decide +kernel
theorem dJ5_append_c97b9_30 : decode cJ5_append_c97b9 30 = .ok (.invokestatic 248, 3) := by decide +kernel
theorem dJ5_append_c97b9_33 : decode cJ5_append_c97b9 33 = .ok (.pop, 1) := by decide +kernel
theorem dJ5_append_c97b9_34 : decode cJ5_append_c97b9 34 = .ok (.goto 14, 3) := by decide +kernel
theorem dJ5_append_c97b9_37 : decode cJ5_append_c97b9 37 = .ok (.iload_n 1, 1) := by decide +kernel
theorem dJ5_append_c97b9_38 : decode cJ5_append_c97b9 38 = .ok (.iload_n 2, 1) := by decide +kernel
theorem dJ5_append_c97b9_39 : decode cJ5_append_c97b9 39 = .ok (.iload_n 3, 1) := by decide +kernel
theorem dJ5_append_c97b9_40 : decode cJ5_append_c97b9 40 = .ok (.aload_n 0, 1) := by decide +kernel
theorem dJ5_append_c97b9_41 : decode cJ5_append_c97b9 41 = .ok (.getfield 15, 3) := by decide +kernel
theorem dJ5_append_c97b9_44 : decode cJ5_append_c97b9 44 = .ok (.invokestatic 251, 3) := by decide +kernel
theorem dJ5_append_c97b9_47 : decode cJ5_append_c97b9 47 = .ok (.pop, 1) := by decide +kernel
theorem dJ5_append_c97b9_48 : decode cJ5_append_c97b9 48 = .ok (.aload_n 0, 1) := by decide +kernel
theorem dJ5_append_c97b9_49 : decode cJ5_append_c97b9 49 = .ok (.iload_n 3, 1) := by decide +kernel
theorem dJ5_append_c97b9_50 : decode cJ5_append_c97b9 50 = .ok (.putfield 79, 3) := by decide +kernel
theorem dJ5_append_c97b9_53 : decode cJ5_append_c97b9 53 = .ok (.aload_n 0, 1) := by decide +kernel
theorem dJ5_append_c97b9_54 : decode cJ5_append_c97b9 54 = .ok (.areturn, 1) := by decide +kernel
theorem dJ5_isLatin1_aae02_0 : decode cJ5_isLatin1_aae02 0 = .ok (.getstatic 18, 3) := by decide +kernel
theorem dJ5_isLatin1_aae02_3 : decode cJ5_isLatin1_aae02 3 = .ok (.ifCond .eq 14, 3) := by decide +kernel
theorem dJ5_isLatin1_aae02_6 : decode cJ5_isLatin1_aae02 6 = .ok (.aload_n 0, 1) := by decide +kernel
theorem dJ5_isLatin1_aae02_7 : decode cJ5_isLatin1_aae02 7 = .ok (.getfield 22, 3) := by decide +kernel
theorem dJ5_isLatin1_aae02_10 : decode cJ5_isLatin1_aae02 10 = .ok (.ifCond .ne 7, 3) := by decide +kernel
theorem dJ5_isLatin1_aae02_13 : decode cJ5_isLatin1_aae02 13 = .ok (.iconst 1, 1) := by decide +kernel
theorem dJ5_isLatin1_aae02_14 : decode cJ5_isLatin1_aae02 14 = .ok (.goto 4, 3) := by decide +kernel
theorem dJ5_isLatin1_aae02_17 : decode cJ5_isLatin1_aae02 17 = .ok (.iconst 0, 1) := by decide +kernel
theorem dJ5_isLatin1_aae02_18 : decode cJ5_isLatin1_aae02 18 = .ok (.ireturn, 1) := by decide +kernel
set_option maxRecDepth 20000 in
theorem ggJ5_inflateIfNeededFor_a7421_J0_coder_7d493 : GoodIn wsJ5_inflateIfNeededFor_a7421 wsJ0_coder_7d493 := goodIn_r _ [7, 8, 9] (by decide +kernel) (by decide +kernel)
set_option maxRecDepth 20000 in
theorem gJ5_inflateIfNeededFor_a7421_J0_coder_7d493 : GoodIn wsJ5_inflateIfNeededFor_a7421 (wsV RJ5 40 RJ0 yJ0_coder_7d493 wsJ0_coder_7d493) := goodIn_app (goodIn_of _ (by decide +kernel)) ggJ5_inflateIfNeededFor_a7421_J0_coder_7d493
set_option maxRecDepth 20000 in
theorem ggJ5_inflateIfNeededFor_a7421_J5_inflate_da8c8 : GoodIn wsJ5_inflateIfNeededFor_a7421 wsJ5_inflate_da8c8 := goodIn_r _ [15, 16, 17, 2, 18, 19, 20, 21, 14, 22, 1, 23, 24, 25, 26, 27, 28, 29, 30, 31, 32, 33, 34, 35, 36, 37, 38, 39, 40, 41, 42, 43, 44, 45, 46, 6, 47, 48, 49, 50, 51, 52, 53, 54, 55, 56, 57, 58, 59, 60, 61, 62] (by decide +kernel) (by decide +kernel)
set_option maxRecDepth 20000 in
theorem gJ5_inflateIfNeededFor_a7421_J5_inflate_da8c8_u195J4 : GoodIn wsJ5_inflateIfNeededFor_a7421 (va_wsU RJ5 195 RJ4 "java/lang/AbstractStringBuilder" ⟨"java/lang/AbstractStringBuilder", "inflate", "()V"⟩ yJ5_inflate_da8c8 wsJ5_inflate_da8c8) := goodIn_app (goodIn_of _ (by decide +kernel)) ggJ5_inflateIfNeededFor_a7421_J5_inflate_da8c8
theorem dJ5_inflateIfNeededFor_a7421_0 : decode cJ5_inflateIfNeededFor_a7421 0 = .ok (.getstatic 18, 3) := by decide +kernel
theorem dJ5_inflateIfNeededFor_a7421_3 : decode cJ5_inflateIfNeededFor_a7421 3 = .ok (.ifCond .eq 18, 3) := by decide +kernel
theorem dJ5_inflateIfNeededFor_a7421_6 : decode cJ5_inflateIfNeededFor_a7421 6 = .ok (.aload_n 0, 1) := by decide +kernel
theorem dJ5_inflateIfNeededFor_a7421_7 : decode cJ5_inflateIfNeededFor_a7421 7 = .ok (.getfield 22, 3) := by decide +kernel
theorem dJ5_inflateIfNeededFor_a7421_10 : decode cJ5_inflateIfNeededFor_a7421 10 = .ok (.aload_n 1, 1) := by decide +kernel
theorem dJ5_inflateIfNeededFor_a7421_11 : decode cJ5_inflateIfNeededFor_a7421 11 = .ok (.invokevirtual 40, 3) := by decide +kernel
theorem dJ5_inflateIfNeededFor_a7421_14 : decode cJ5_inflateIfNeededFor_a7421 14 = .ok (.if_icmp .eq 7, 3) := by decide +kernel
theorem dJ5_inflateIfNeededFor_a7421_17 : decode cJ5_inflateIfNeededFor_a7421 17 = .ok (.aload_n 0, 1) := by decide +kernel
theorem dJ5_inflateIfNeededFor_a7421_18 : decode cJ5_inflateIfNeededFor_a7421 18 = .ok (.invokevirtual 195, 3) := by decide +kernel
theorem dJ5_inflateIfNeededFor_a7421_21 : decode cJ5_inflateIfNeededFor_a7421 21 = .ok (.return_, 1) := by decide +kernel
set_option maxRecDepth 20000 in
theorem ggJ5_putStringAt_47b60_J5_inflateIfNeededFor_a7421 : GoodIn wsJ5_putStringAt_47b60 wsJ5_inflateIfNeededFor_a7421 := goodIn_r _ [8, 9, 2, 10, 11, 12, 13, 14, 15, 16, 17, 18, 19, 20, 7, 21, 1, 22, 23, 24, 25, 26, 27, 28, 29, 30, 31, 32, 33, 34, 35, 36, 37, 38, 39, 40, 41, 42, 43, 44, 45, 46, 47, 48, 49, 50, 51, 52, 53, 54, 55, 56, 57, 58, 59, 60, 61, 62, 63, 75, 76, 77, 78] (by decide +kernel) (by decide +kernel)
set_option maxRecDepth 20000 in
theorem gJ5_putStringAt_47b60_J5_inflateIfNeededFor_a7421_u397J4 : GoodIn wsJ5_putStringAt_47b60 (va_wsU RJ5 397 RJ4 "java/lang/AbstractStringBuilder" ⟨"java/lang/AbstractStringBuilder", "inflateIfNeededFor", "(Ljava/lang/String;)V"⟩ yJ5_inflateIfNeededFor_a7421 wsJ5_inflateIfNeededFor_a7421) := goodIn_app (goodIn_of _ (by decide +kernel)) ggJ5_putStringAt_47b60_J5_inflateIfNeededFor_a7421
set_option maxRecDepth 20000 in
theorem ggJ5_putStringAt_47b60_J0_getBytes_840e7 : GoodIn wsJ5_putStringAt_47b60 wsJ0_getBytes_840e7 := goodIn_r _ [67, 68, 69, 70, 71, 72, 73, 11, 12, 13, 14, 15, 16, 74, 38, 39, 40, 41, 42, 30, 43, 44, 45, 46, 47, 48, 49, 50, 51, 52, 53, 54, 55, 56, 57, 58, 59, 60, 61, 62, 63] (by decide +kernel) (by decide +kernel)
set_option maxRecDepth 20000 in
theorem gJ5_putStringAt_47b60_J0_getBytes_840e7 : GoodIn wsJ5_putStringAt_47b60 (wsV RJ5 399 RJ0 yJ0_getBytes_840e7 wsJ0_getBytes_840e7) := goodIn_app (goodIn_of _ (by decide +kernel)) ggJ5_putStringAt_47b60_J0_getBytes_840e7
theorem dJ5_putStringAt_47b60_0 : decode cJ5_putStringAt_47b60 0 = .ok (.aload_n 0, 1) := by decide +kernel
theorem dJ5_putStringAt_47b60_1 : decode cJ5_putStringAt_47b60 1 = .ok (.aload_n 2, 1) := by decide +kernel
theorem dJ5_putStringAt_47b60_2 : decode cJ5_putStringAt_47b60 2 = .ok (.invokevirtual 397, 3) := by decide +kernel
theorem dJ5_putStringAt_47b60_5 : decode cJ5_putStringAt_47b60 5 = .ok (.aload_n 2, 1) := by decide +kernel
theorem dJ5_putStringAt_47b60_6 : decode cJ5_putStringAt_47b60 6 = .ok (.aload_n 0, 1) := by decide +kernel
theorem dJ5_putStringAt_47b60_7 : decode cJ5_putStringAt_47b60 7 = .ok (.getfield 15, 3) := by decide +kernel
theorem dJ5_putStringAt_47b60_10 : decode cJ5_putStringAt_47b60 10 = .ok (.iload_n 1, 1) := by decide +kernel
theorem dJ5_putStringAt_47b60_11 : decode cJ5_putStringAt_47b60 11 = .ok (.aload_n 0, 1) := by decide +kernel
theorem dJ5_putStringAt_47b60_12 : decode cJ5_putStringAt_47b60 12 = .ok (.getfield 22, 3) := by decide +kernel
theorem dJ5_putStringAt_47b60_15 : decode cJ5_putStringAt_47b60 15 = .ok (.invokevirtual 399, 3) := by decide +kernel
theorem dJ5_putStringAt_47b60_18 : decode cJ5_putStringAt_47b60 18 = .ok (.return_, 1) := by decide +kernel
theorem dJ6_getChars_ba4f3_0 : decode cJ6_getChars_ba4f3 0 = .ok (.iload_n 1, 1) := by decide +kernel
theorem dJ6_getChars_ba4f3_1 : decode cJ6_getChars_ba4f3 1 = .ok (.istore 5, 2) := by decide +kernel
theorem dJ6_getChars_ba4f3_3 : decode cJ6_getChars_ba4f3 3 = .ok (.iload_n 0, 1) := by decide +kernel
theorem dJ6_getChars_ba4f3_4 : decode cJ6_getChars_ba4f3 4 = .ok (.ifCond .ge 7, 3) := by decide +kernel
theorem dJ6_getChars_ba4f3_7 : decode cJ6_getChars_ba4f3 7 = .ok (.iconst 1, 1) := by decide +kernel
theorem dJ6_getChars_ba4f3_8 : decode cJ6_getChars_ba4f3 8 = .ok (.goto 4, 3) := by decide +kernel
theorem dJ6_getChars_ba4f3_11 : decode cJ6_getChars_ba4f3 11 = .ok (.iconst 0, 1) := by decide +kernel
theorem dJ6_getChars_ba4f3_12 : decode cJ6_getChars_ba4f3 12 = .ok (.istore 6, 2) := by decide +kernel
theorem dJ6_getChars_ba4f3_14 : decode cJ6_getChars_ba4f3 14 = .ok (.iload 6, 2) := by decide +kernel
theorem dJ6_getChars_ba4f3_16 : decode cJ6_getChars_ba4f3 16 = .ok (.ifCond .ne 6, 3) := by decide +kernel
theorem dJ6_getChars_ba4f3_19 : decode cJ6_getChars_ba4f3 19 = .ok (.iload_n 0, 1) := by decide +kernel
theorem dJ6_getChars_ba4f3_20 : decode cJ6_getChars_ba4f3 20 = .ok (.ineg, 1) := by decide +kernel
theorem dJ6_getChars_ba4f3_21 : decode cJ6_getChars_ba4f3 21 = .ok (.istore_n 0, 1) := by decide +kernel
theorem dJ6_getChars_ba4f3_22 : decode cJ6_getChars_ba4f3 22 = .ok (.iload_n 0, 1) := by decide +kernel
theorem dJ6_getChars_ba4f3_23 : decode cJ6_getChars_ba4f3 23 = .ok (.bipush (-100), 2) := by decide +kernel
theorem dJ6_getChars_ba4f3_25 : decode cJ6_getChars_ba4f3 25 = .ok (.if_icmp .gt 47, 3) := by decide +kernel
theorem dJ6_getChars_ba4f3_28 : decode cJ6_getChars_ba4f3 28 = .ok (.iload_n 0, 1) := by decide +kernel
theorem dJ6_getChars_ba4f3_29 : decode cJ6_getChars_ba4f3 29 = .ok (.bipush 100, 2) := by decide +kernel
theorem dJ6_getChars_ba4f3_31 : decode cJ6_getChars_ba4f3 31 = .ok (.idiv, 1) := by decide +kernel
theorem dJ6_getChars_ba4f3_32 : decode cJ6_getChars_ba4f3 32 = .ok (.istore_n 3, 1) := by decide +kernel
theorem dJ6_getChars_ba4f3_33 : decode cJ6_getChars_ba4f3 33 = .ok (.iload_n 3, 1) := by decide +kernel
theorem dJ6_getChars_ba4f3_34 : decode cJ6_getChars_ba4f3 34 = .ok (.bipush 100, 2) := by decide +kernel
theorem dJ6_getChars_ba4f3_36 : decode cJ6_getChars_ba4f3 36 = .ok (.imul, 1) := by decide +kernel
theorem dJ6_getChars_ba4f3_37 : decode cJ6_getChars_ba4f3 37 = .ok (.iload_n 0, 1) := by decide +kernel
theorem dJ6_getChars_ba4f3_38 : decode cJ6_getChars_ba4f3 38 = .ok (.isub, 1) := by decide +kernel
theorem dJ6_getChars_ba4f3_39 : decode cJ6_getChars_ba4f3 39 = .ok (.istore 4, 2) := by decide +kernel
theorem dJ6_getChars_ba4f3_41 : decode cJ6_getChars_ba4f3 41 = .ok (.iload_n 3, 1) := by decide +kernel
theorem dJ6_getChars_ba4f3_42 : decode cJ6_getChars_ba4f3 42 = .ok (.istore_n 0, 1) := by decide +kernel
theorem dJ6_getChars_ba4f3_43 : decode cJ6_getChars_ba4f3 43 = .ok (.aload_n 2, 1) := by decide +kernel
theorem dJ6_getChars_ba4f3_44 : decode cJ6_getChars_ba4f3 44 = .ok (.iinc 5 (-1), 3) := by decide +kernel
theorem dJ6_getChars_ba4f3_47 : decode cJ6_getChars_ba4f3 47 = .ok (.iload 5, 2) := by decide +kernel
theorem dJ6_getChars_ba4f3_49 : decode cJ6_getChars_ba4f3 49 = .ok (.getstatic 83, 3) := by decide +kernel
theorem dJ6_getChars_ba4f3_52 : decode cJ6_getChars_ba4f3 52 = .ok (.iload 4, 2) := by decide +kernel
theorem dJ6_getChars_ba4f3_54 : decode cJ6_getChars_ba4f3 54 = .ok (.baload, 1) := by decide +kernel
theorem dJ6_getChars_ba4f3_55 : decode cJ6_getChars_ba4f3 55 = .ok (.bastore, 1) := by decide +kernel
theorem dJ6_getChars_ba4f3_56 : decode cJ6_getChars_ba4f3 56 = .ok (.aload_n 2, 1) := by decide +kernel
theorem dJ6_getChars_ba4f3_57 : decode cJ6_getChars_ba4f3 57 = .ok (.iinc 5 (-1), 3) := by decide +kernel
theorem dJ6_getChars_ba4f3_60 : decode cJ6_getChars_ba4f3 60 = .ok (.iload 5, 2) := by decide +kernel
theorem dJ6_getChars_ba4f3_62 : decode cJ6_getChars_ba4f3 62 = .ok (.getstatic 87, 3) := by decide +kernel
theorem dJ6_getChars_ba4f3_65 : decode cJ6_getChars_ba4f3 65 = .ok (.iload 4, 2) := by decide +kernel
theorem dJ6_getChars_ba4f3_67 : decode cJ6_getChars_ba4f3 67 = .ok (.baload, 1) := by decide +kernel
theorem dJ6_getChars_ba4f3_68 : decode cJ6_getChars_ba4f3 68 = .ok (.bastore, 1) := by decide +kernel
theorem dJ6_getChars_ba4f3_69 : decode cJ6_getChars_ba4f3 69 = .ok (.goto (-47), 3) := by decide +kernel
theorem dJ6_getChars_ba4f3_72 : decode cJ6_getChars_ba4f3 72 = .ok (.aload_n 2, 1) := by decide +kernel
theorem dJ6_getChars_ba4f3_73 : decode cJ6_getChars_ba4f3 73 = .ok (.iinc 5 (-1), 3) := by decide +kernel
theorem dJ6_getChars_ba4f3_76 : decode cJ6_getChars_ba4f3 76 = .ok (.iload 5, 2) := by decide +kernel
theorem dJ6_getChars_ba4f3_78 : decode cJ6_getChars_ba4f3 78 = .ok (.getstatic 83, 3) := by decide +kernel
theorem dJ6_getChars_ba4f3_81 : decode cJ6_getChars_ba4f3 81 = .ok (.iload_n 0, 1) := by decide +kernel
theorem dJ6_getChars_ba4f3_82 : decode cJ6_getChars_ba4f3 82 = .ok (.ineg, 1) := by decide +kernel
theorem dJ6_getChars_ba4f3_83 : decode cJ6_getChars_ba4f3 83 = .ok (.baload, 1) := by decide +kernel
theorem dJ6_getChars_ba4f3_84 : decode cJ6_getChars_ba4f3 84 = .ok (.bastore, 1) := by decide +kernel
theorem dJ6_getChars_ba4f3_85 : decode cJ6_getChars_ba4f3 85 = .ok (.iload_n 0, 1) := by decide +kernel
theorem dJ6_getChars_ba4f3_86 : decode cJ6_getChars_ba4f3 86 = .ok (.bipush (-9), 2) := by decide +kernel
theorem dJ6_getChars_ba4f3_88 : decode cJ6_getChars_ba4f3 88 = .ok (.if_icmp .ge 16, 3) := by decide +kernel
theorem dJ6_getChars_ba4f3_91 : decode cJ6_getChars_ba4f3 91 = .ok (.aload_n 2, 1) := by decide +kernel
theorem dJ6_getChars_ba4f3_92 : decode cJ6_getChars_ba4f3 92 = .ok (.iinc 5 (-1), 3) := by decide +kernel
theorem dJ6_getChars_ba4f3_95 : decode cJ6_getChars_ba4f3 95 = .ok (.iload 5, 2) := by decide +kernel
theorem dJ6_getChars_ba4f3_97 : decode cJ6_getChars_ba4f3 97 = .ok (.getstatic 87, 3) := by decide +kernel
theorem dJ6_getChars_ba4f3_100 : decode cJ6_getChars_ba4f3 100 = .ok (.iload_n 0, 1) := by decide +kernel
theorem dJ6_getChars_ba4f3_101 : decode cJ6_getChars_ba4f3 101 = .ok (.ineg, 1) := by decide +kernel
theorem dJ6_getChars_ba4f3_102 : decode cJ6_getChars_ba4f3 102 = .ok (.baload, 1) := by decide +kernel
theorem dJ6_getChars_ba4f3_103 : decode cJ6_getChars_ba4f3 103 = .ok (.bastore, 1) := by decide +kernel
theorem dJ6_getChars_ba4f3_104 : decode cJ6_getChars_ba4f3 104 = .ok (.iload 6, 2) := by decide +kernel
theorem dJ6_getChars_ba4f3_106 : decode cJ6_getChars_ba4f3 106 = .ok (.ifCond .eq 12, 3) := by decide +kernel
theorem dJ6_getChars_ba4f3_109 : decode cJ6_getChars_ba4f3 109 = .ok (.aload_n 2, 1) := by decide +kernel
theorem dJ6_getChars_ba4f3_110 : decode cJ6_getChars_ba4f3 110 = .ok (.iinc 5 (-1), 3) := by decide +kernel
theorem dJ6_getChars_ba4f3_113 : decode cJ6_getChars_ba4f3 113 = .ok (.iload 5, 2) := by decide +kernel
theorem dJ6_getChars_ba4f3_115 : decode cJ6_getChars_ba4f3 115 = .ok (.bipush 45, 2) := by decide +kernel
theorem dJ6_getChars_ba4f3_117 : decode cJ6_getChars_ba4f3 117 = .ok (.bastore, 1) := by decide +kernel
theorem dJ6_getChars_ba4f3_118 : decode cJ6_getChars_ba4f3 118 = .ok (.iload 5, 2) := by decide +kernel
theorem dJ6_getChars_ba4f3_120 : decode cJ6_getChars_ba4f3 120 = .ok (.ireturn, 1) := by decide +kernel
theorem dJ6_stringSize_0f7a4_0 : decode cJ6_stringSize_0f7a4 0 = .ok (.iconst 1, 1) := by decide +kernel
theorem dJ6_stringSize_0f7a4_1 : decode cJ6_stringSize_0f7a4 1 = .ok (.istore_n 1, 1) := by decide +kernel
theorem dJ6_stringSize_0f7a4_2 : decode cJ6_stringSize_0f7a4 2 = .ok (.iload_n 0, 1) := by decide +kernel
theorem dJ6_stringSize_0f7a4_3 : decode cJ6_stringSize_0f7a4 3 = .ok (.ifCond .lt 8, 3) := by decide +kernel
theorem dJ6_stringSize_0f7a4_6 : decode cJ6_stringSize_0f7a4 6 = .ok (.iconst 0, 1) := by decide +kernel
theorem dJ6_stringSize_0f7a4_7 : decode cJ6_stringSize_0f7a4 7 = .ok (.istore_n 1, 1) := by decide +kernel
theorem dJ6_stringSize_0f7a4_8 : decode cJ6_stringSize_0f7a4 8 = .ok (.iload_n 0, 1) := by decide +kernel
theorem dJ6_stringSize_0f7a4_9 : decode cJ6_stringSize_0f7a4 9 = .ok (.ineg, 1) := by decide +kernel
theorem dJ6_stringSize_0f7a4_10 : decode cJ6_stringSize_0f7a4 10 = .ok (.istore_n 0, 1) := by decide +kernel
theorem dJ6_stringSize_0f7a4_11 : decode cJ6_stringSize_0f7a4 11 = .ok (.bipush (-10), 2) := by decide +kernel
theorem dJ6_stringSize_0f7a4_13 : decode cJ6_stringSize_0f7a4 13 = .ok (.istore_n 2, 1) := by decide +kernel
theorem dJ6_stringSize_0f7a4_14 : decode cJ6_stringSize_0f7a4 14 = .ok (.iconst 1, 1) := by decide +kernel
theorem dJ6_stringSize_0f7a4_15 : decode cJ6_stringSize_0f7a4 15 = .ok (.istore_n 3, 1) := by decide +kernel
theorem dJ6_stringSize_0f7a4_16 : decode cJ6_stringSize_0f7a4 16 = .ok (.iload_n 3, 1) := by decide +kernel
theorem dJ6_stringSize_0f7a4_17 : decode cJ6_stringSize_0f7a4 17 = .ok (.bipush 10, 2) := by decide +kernel
theorem dJ6_stringSize_0f7a4_19 : decode cJ6_stringSize_0f7a4 19 = .ok (.if_icmp .ge 23, 3) := by decide +kernel
theorem dJ6_stringSize_0f7a4_22 : decode cJ6_stringSize_0f7a4 22 = .ok (.iload_n 0, 1) := by decide +kernel
theorem dJ6_stringSize_0f7a4_23 : decode cJ6_stringSize_0f7a4 23 = .ok (.iload_n 2, 1) := by decide +kernel
theorem dJ6_stringSize_0f7a4_24 : decode cJ6_stringSize_0f7a4 24 = .ok (.if_icmp .le 7, 3) := by decide +kernel
theorem dJ6_stringSize_0f7a4_27 : decode cJ6_stringSize_0f7a4 27 = .ok (.iload_n 3, 1) := by decide +kernel
theorem dJ6_stringSize_0f7a4_28 : decode cJ6_stringSize_0f7a4 28 = .ok (.iload_n 1, 1) := by decide +kernel
theorem dJ6_stringSize_0f7a4_29 : decode cJ6_stringSize_0f7a4 29 = .ok (.iadd, 1) := by decide +kernel
theorem dJ6_stringSize_0f7a4_30 : decode cJ6_stringSize_0f7a4 30 = .ok (.ireturn, 1) := by decide +kernel
theorem dJ6_stringSize_0f7a4_31 : decode cJ6_stringSize_0f7a4 31 = .ok (.bipush 10, 2) := by decide +kernel
theorem dJ6_stringSize_0f7a4_33 : decode cJ6_stringSize_0f7a4 33 = .ok (.iload_n 2, 1) := by decide +kernel
theorem dJ6_stringSize_0f7a4_34 : decode cJ6_stringSize_0f7a4 34 = .ok (.imul, 1) := by decide +kernel
theorem dJ6_stringSize_0f7a4_35 : decode cJ6_stringSize_0f7a4 35 = .ok (.istore_n 2, 1) := by decide +kernel
theorem dJ6_stringSize_0f7a4_36 : decode cJ6_stringSize_0f7a4 36 = .ok (.iinc 3 1, 3) := by decide +kernel
theorem dJ6_stringSize_0f7a4_39 : decode cJ6_stringSize_0f7a4 39 = .ok (.goto (-23), 3) := by decide +kernel
theorem dJ6_stringSize_0f7a4_42 : decode cJ6_stringSize_0f7a4 42 = .ok (.bipush 10, 2) := by decide +kernel
theorem dJ6_stringSize_0f7a4_44 : decode cJ6_stringSize_0f7a4 44 = .ok (.iload_n 1, 1) := by decide +kernel
theorem dJ6_stringSize_0f7a4_45 : decode cJ6_stringSize_0f7a4 45 = .ok (.iadd, 1) := by decide +kernel
theorem dJ6_stringSize_0f7a4_46 : decode cJ6_stringSize_0f7a4 46 = .ok (.ireturn, 1) := by decide +kernel
theorem dJ6_bitCount_0f7a4_0 : decode cJ6_bitCount_0f7a4 0 = .ok (.iload_n 0, 1) := by decide +kernel
theorem dJ6_bitCount_0f7a4_1 : decode cJ6_bitCount_0f7a4 1 = .ok (.iload_n 0, 1) := by decide +kernel
theorem dJ6_bitCount_0f7a4_2 : decode cJ6_bitCount_0f7a4 2 = .ok (.iconst 1, 1) := by decide +kernel
theorem dJ6_bitCount_0f7a4_3 : decode cJ6_bitCount_0f7a4 3 = .ok (.iushr, 1) := by decide +kernel
theorem dJ6_bitCount_0f7a4_4 : decode cJ6_bitCount_0f7a4 4 = .ok (.ldc_w 265, 3) := by decide +kernel
theorem dJ6_bitCount_0f7a4_7 : decode cJ6_bitCount_0f7a4 7 = .ok (.iand, 1) := by decide +kernel
theorem dJ6_bitCount_0f7a4_8 : decode cJ6_bitCount_0f7a4 8 = .ok (.isub, 1) := by decide +kernel
theorem dJ6_bitCount_0f7a4_9 : decode cJ6_bitCount_0f7a4 9 = .ok (.istore_n 0, 1) := by decide +kernel
theorem dJ6_bitCount_0f7a4_10 : decode cJ6_bitCount_0f7a4 10 = .ok (.iload_n 0, 1) := by decide +kernel
theorem dJ6_bitCount_0f7a4_11 : decode cJ6_bitCount_0f7a4 11 = .ok (.ldc_w 266, 3) := by decide +kernel
theorem dJ6_bitCount_0f7a4_14 : decode cJ6_bitCount_0f7a4 14 = .ok (.iand, 1) := by decide +kernel
theorem dJ6_bitCount_0f7a4_15 : decode cJ6_bitCount_0f7a4 15 = .ok (.iload_n 0, 1) := by decide +kernel
theorem dJ6_bitCount_0f7a4_16 : decode cJ6_bitCount_0f7a4 16 = .ok (.iconst 2, 1) := by decide +kernel
theorem dJ6_bitCount_0f7a4_17 : decode cJ6_bitCount_0f7a4 17 = .ok (.iushr, 1) := by decide +kernel
theorem dJ6_bitCount_0f7a4_18 : decode cJ6_bitCount_0f7a4 18 = .ok (.ldc_w 266, 3) := by decide +kernel
theorem dJ6_bitCount_0f7a4_21 : decode cJ6_bitCount_0f7a4 21 = .ok (.iand, 1) := by decide +kernel
theorem dJ6_bitCount_0f7a4_22 : decode cJ6_bitCount_0f7a4 22 = .ok (.iadd, 1) := by decide +kernel
theorem dJ6_bitCount_0f7a4_23 : decode cJ6_bitCount_0f7a4 23 = .ok (.istore_n 0, 1) := by decide +kernel
theorem dJ6_bitCount_0f7a4_24 : decode cJ6_bitCount_0f7a4 24 = .ok (.iload_n 0, 1) := by decide +kernel
theorem dJ6_bitCount_0f7a4_25 : decode cJ6_bitCount_0f7a4 25 = .ok (.iload_n 0, 1) := by decide +kernel
theorem dJ6_bitCount_0f7a4_26 : decode cJ6_bitCount_0f7a4 26 = .ok (.iconst 4, 1) := by decide +kernel
theorem dJ6_bitCount_0f7a4_27 : decode cJ6_bitCount_0f7a4 27 = .ok (.iushr, 1) := by decide +kernel
theorem dJ6_bitCount_0f7a4_28 : decode cJ6_bitCount_0f7a4 28 = .ok (.iadd, 1) := by decide +kernel
theorem dJ6_bitCount_0f7a4_29 : decode cJ6_bitCount_0f7a4 29 = .ok (.ldc_w 267, 3) := by decide +kernel
theorem dJ6_bitCount_0f7a4_32 : decode cJ6_bitCount_0f7a4 32 = .ok (.iand, 1) := by decide +kernel
theorem dJ6_bitCount_0f7a4_33 : decode cJ6_bitCount_0f7a4 33 = .ok (.istore_n 0, 1) := by decide +kernel
theorem dJ6_bitCount_0f7a4_34 : decode cJ6_bitCount_0f7a4 34 = .ok (.iload_n 0, 1) := by decide +kernel
theorem dJ6_bitCount_0f7a4_35 : decode cJ6_bitCount_0f7a4 35 = .ok (.iload_n 0, 1) := by decide +kernel
theorem dJ6_bitCount_0f7a4_36 : decode cJ6_bitCount_0f7a4 36 = .ok (.bipush 8, 2) := by decide +kernel
theorem dJ6_bitCount_0f7a4_38 : decode cJ6_bitCount_0f7a4 38 = .ok (.iushr, 1) := by decide +kernel
theorem dJ6_bitCount_0f7a4_39 : decode cJ6_bitCount_0f7a4 39 = .ok (.iadd, 1) := by decide +kernel
theorem dJ6_bitCount_0f7a4_40 : decode cJ6_bitCount_0f7a4 40 = .ok (.istore_n 0, 1) := by decide +kernel
theorem dJ6_bitCount_0f7a4_41 : decode cJ6_bitCount_0f7a4 41 = .ok (.iload_n 0, 1) := by decide +kernel
theorem dJ6_bitCount_0f7a4_42 : decode cJ6_bitCount_0f7a4 42 = .ok (.iload_n 0, 1) := by decide +kernel
theorem dJ6_bitCount_0f7a4_43 : decode cJ6_bitCount_0f7a4 43 = .ok (.bipush 16, 2) := by decide +kernel
theorem dJ6_bitCount_0f7a4_45 : decode cJ6_bitCount_0f7a4 45 = .ok (.iushr, 1) := by decide +kernel
theorem dJ6_bitCount_0f7a4_46 : decode cJ6_bitCount_0f7a4 46 = .ok (.iadd, 1) := by decide +kernel
theorem dJ6_bitCount_0f7a4_47 : decode cJ6_bitCount_0f7a4 47 = .ok (.istore_n 0, 1) := by decide +kernel
theorem dJ6_bitCount_0f7a4_48 : decode cJ6_bitCount_0f7a4 48 = .ok (.iload_n 0, 1) := by decide +kernel
theorem dJ6_bitCount_0f7a4_49 : decode cJ6_bitCount_0f7a4 49 = .ok (.bipush 63, 2) := by decide +kernel
theorem dJ6_bitCount_0f7a4_51 : decode cJ6_bitCount_0f7a4 51 = .ok (.iand, 1) := by decide +kernel
theorem dJ6_bitCount_0f7a4_52 : decode cJ6_bitCount_0f7a4 52 = .ok (.ireturn, 1) := by decide +kernel
theorem dJ9_floorMod_7cf53_0 : decode cJ9_floorMod_7cf53 0 = .ok (.iload_n 0, 1) := by decide +kernel
theorem dJ9_floorMod_7cf53_1 : decode cJ9_floorMod_7cf53 1 = .ok (.iload_n 1, 1) := by decide +kernel
theorem dJ9_floorMod_7cf53_2 : decode cJ9_floorMod_7cf53 2 = .ok (.irem, 1) := by decide +kernel
theorem dJ9_floorMod_7cf53_3 : decode cJ9_floorMod_7cf53 3 = .ok (.istore_n 2, 1) := by decide +kernel
theorem dJ9_floorMod_7cf53_4 : decode cJ9_floorMod_7cf53 4 = .ok (.iload_n 0, 1) := by decide +kernel
theorem dJ9_floorMod_7cf53_5 : decode cJ9_floorMod_7cf53 5 = .ok (.iload_n 1, 1) := by decide +kernel
theorem dJ9_floorMod_7cf53_6 : decode cJ9_floorMod_7cf53 6 = .ok (.ixor, 1) := by decide +kernel
theorem dJ9_floorMod_7cf53_7 : decode cJ9_floorMod_7cf53 7 = .ok (.ifCond .ge 11, 3) := by decide +kernel
theorem dJ9_floorMod_7cf53_10 : decode cJ9_floorMod_7cf53 10 = .ok (.iload_n 2, 1) := by decide +kernel
theorem dJ9_floorMod_7cf53_11 : decode cJ9_floorMod_7cf53 11 = .ok (.ifCond .eq 7, 3) := by decide +kernel
theorem dJ9_floorMod_7cf53_14 : decode cJ9_floorMod_7cf53 14 = .ok (.iload_n 2, 1) := by decide +kernel
theorem dJ9_floorMod_7cf53_15 : decode cJ9_floorMod_7cf53 15 = .ok (.iload_n 1, 1) := by decide +kernel
theorem dJ9_floorMod_7cf53_16 : decode cJ9_floorMod_7cf53 16 = .ok (.iadd, 1) := by decide +kernel
theorem dJ9_floorMod_7cf53_17 : decode cJ9_floorMod_7cf53 17 = .ok (.ireturn, 1) := by decide +kernel
theorem dJ9_floorMod_7cf53_18 : decode cJ9_floorMod_7cf53 18 = .ok (.iload_n 2, 1) := by decide +kernel
theorem dJ9_floorMod_7cf53_19 : decode cJ9_floorMod_7cf53 19 = .ok (.ireturn, 1) := by decide +kernel
theorem dJ9_abs_0f7a4_0 : decode cJ9_abs_0f7a4 0 = .ok (.iload_n 0, 1) := by decide +kernel
theorem dJ9_abs_0f7a4_1 : decode cJ9_abs_0f7a4 1 = .ok (.ifCond .ge 8, 3) := by decide +kernel
theorem dJ9_abs_0f7a4_4 : decode cJ9_abs_0f7a4 4 = .ok (.iload_n 0, 1) := by decide +kernel
theorem dJ9_abs_0f7a4_5 : decode cJ9_abs_0f7a4 5 = .ok (.ineg, 1) := by decide +kernel
theorem dJ9_abs_0f7a4_6 : decode cJ9_abs_0f7a4 6 = .ok (.goto 4, 3) := by decide +kernel
theorem dJ9_abs_0f7a4_9 : decode cJ9_abs_0f7a4 9 = .ok (.iload_n 0, 1) := by decide +kernel
theorem dJ9_abs_0f7a4_10 : decode cJ9_abs_0f7a4 10 = .ok (.ireturn, 1) := by decide +kernel
theorem dJ9_max_7cf53_0 : decode cJ9_max_7cf53 0 = .ok (.iload_n 0, 1) := by decide +kernel
theorem dJ9_max_7cf53_1 : decode cJ9_max_7cf53 1 = .ok (.iload_n 1, 1) := by decide +kernel
theorem dJ9_max_7cf53_2 : decode cJ9_max_7cf53 2 = .ok (.if_icmp .lt 7, 3) := by decide +kernel
theorem dJ9_max_7cf53_5 : decode cJ9_max_7cf53 5 = .ok (.iload_n 0, 1) := by decide +kernel
theorem dJ9_max_7cf53_6 : decode cJ9_max_7cf53 6 = .ok (.goto 4, 3) := by decide +kernel
theorem dJ9_max_7cf53_9 : decode cJ9_max_7cf53 9 = .ok (.iload_n 1, 1) := by decide +kernel
theorem dJ9_max_7cf53_10 : decode cJ9_max_7cf53 10 = .ok (.ireturn, 1) := by decide +kernel
theorem dJ9_min_7cf53_0 : decode cJ9_min_7cf53 0 = .ok (.iload_n 0, 1) := by decide +kernel
theorem dJ9_min_7cf53_1 : decode cJ9_min_7cf53 1 = .ok (.iload_n 1, 1) := by decide +kernel
theorem dJ9_min_7cf53_2 : decode cJ9_min_7cf53 2 = .ok (.if_icmp .gt 7, 3) := by decide +kernel
theorem dJ9_min_7cf53_5 : decode cJ9_min_7cf53 5 = .ok (.iload_n 0, 1) := by decide +kernel
theorem dJ9_min_7cf53_6 : decode cJ9_min_7cf53 6 = .ok (.goto 4, 3) := by decide +kernel
theorem dJ9_min_7cf53_9 : decode cJ9_min_7cf53 9 = .ok (.iload_n 1, 1) := by decide +kernel
theorem dJ9_min_7cf53_10 : decode cJ9_min_7cf53 10 = .ok (.ireturn, 1) := by decide +kernel
set_option maxRecDepth 20000 in
theorem ggJ0_length_8abf5_J0_coder_7d493 : GoodIn wsJ0_length_8abf5 wsJ0_coder_7d493 := goodIn_r _ [6, 7, 8] (by decide +kernel) (by decide +kernel)
set_option maxRecDepth 20000 in
theorem gJ0_length_8abf5_J0_coder_7d493 : GoodIn wsJ0_length_8abf5 (wsV RJ0 335 RJ0 yJ0_coder_7d493 wsJ0_coder_7d493) := goodIn_app (goodIn_of _ (by decide +kernel)) ggJ0_length_8abf5_J0_coder_7d493
theorem dJ0_length_8abf5_0 : decode cJ0_length_8abf5 0 = .ok (.aload_n 0, 1) := by decide +kernel
theorem dJ0_length_8abf5_1 : decode cJ0_length_8abf5 1 = .ok (.getfield 9, 3) := by decide +kernel
theorem dJ0_length_8abf5_4 : decode cJ0_length_8abf5 4 = .ok (.arraylength, 1) := by decide +kernel
theorem dJ0_length_8abf5_5 : decode cJ0_length_8abf5 5 = .ok (.aload_n 0, 1) := by decide +kernel
theorem dJ0_length_8abf5_6 : decode cJ0_length_8abf5 6 = .ok (.invokevirtual 335, 3) := by decide +kernel
theorem dJ0_length_8abf5_9 : decode cJ0_length_8abf5 9 = .ok (.ishr, 1) := by decide +kernel
theorem dJ0_length_8abf5_10 : decode cJ0_length_8abf5 10 = .ok (.ireturn, 1) := by decide +kernel
set_option maxRecDepth 20000 in
theorem ggJ0_charAt_5068e_J0_isLatin1_aae02 : GoodIn wsJ0_charAt_5068e wsJ0_isLatin1_aae02 := goodIn_r _ [6, 7, 8] (by decide +kernel) (by decide +kernel)
set_option maxRecDepth 20000 in
theorem gJ0_charAt_5068e_J0_isLatin1_aae02 : GoodIn wsJ0_charAt_5068e (wsV RJ0 492 RJ0 yJ0_isLatin1_aae02 wsJ0_isLatin1_aae02) := goodIn_app (goodIn_of _ (by decide +kernel)) ggJ0_charAt_5068e_J0_isLatin1_aae02
set_option maxRecDepth 20000 in
theorem ggJ0_charAt_5068e_J1_charAt_3b067 : GoodIn wsJ0_charAt_5068e wsJ1_charAt_3b067 := goodIn_r _ [12, 13, 14, 5, 15, 16, 17, 18, 19, 20] (by decide +kernel) (by decide +kernel)
set_option maxRecDepth 20000 in
theorem gJ0_charAt_5068e_J1_charAt_3b067 : GoodIn wsJ0_charAt_5068e (va_wsS RJ0 495 yJ1_charAt_3b067 wsJ1_charAt_3b067) := goodIn_app (goodIn_of _ (by decide +kernel)) ggJ0_charAt_5068e_J1_charAt_3b067
set_option maxRecDepth 20000 in
theorem ggJ0_charAt_5068e_J2_charAt_3b067 : GoodIn wsJ0_charAt_5068e wsJ2_charAt_3b067 := goodIn_r _ [24, 25, 26, 23, 27, 28, 29, 30, 31, 14, 5, 15, 16, 17, 18, 19, 20, 32, 33, 34, 35, 36, 37] (by decide +kernel) (by decide +kernel)
set_option maxRecDepth 20000 in
theorem gJ0_charAt_5068e_J2_charAt_3b067 : GoodIn wsJ0_charAt_5068e (va_wsS RJ0 498 yJ2_charAt_3b067 wsJ2_charAt_3b067) := goodIn_app (goodIn_of _ (by decide +kernel)) ggJ0_charAt_5068e_J2_charAt_3b067
theorem dJ0_charAt_5068e_0 : decode cJ0_charAt_5068e 0 = .ok (.aload_n 0, 1) := by decide +kernel
theorem dJ0_charAt_5068e_1 : decode cJ0_charAt_5068e 1 = .ok (.invokevirtual 492, 3) := by decide +kernel
theorem dJ0_charAt_5068e_4 : decode cJ0_charAt_5068e 4 = .ok (.ifCond .eq 12, 3) := by decide +kernel
theorem dJ0_charAt_5068e_7 : decode cJ0_charAt_5068e 7 = .ok (.aload_n 0, 1) := by decide +kernel
theorem dJ0_charAt_5068e_8 : decode cJ0_charAt_5068e 8 = .ok (.getfield 9, 3) := by decide +kernel
theorem dJ0_charAt_5068e_11 : decode cJ0_charAt_5068e 11 = .ok (.iload_n 1, 1) := by decide +kernel
theorem dJ0_charAt_5068e_12 : decode cJ0_charAt_5068e 12 = .ok (.invokestatic 495, 3) := by decide +kernel
theorem dJ0_charAt_5068e_15 : decode cJ0_charAt_5068e 15 = .ok (.ireturn, 1) := by decide +kernel
theorem dJ0_charAt_5068e_16 : decode cJ0_charAt_5068e 16 = .ok (.aload_n 0, 1) := by decide +kernel
theorem dJ0_charAt_5068e_17 : decode cJ0_charAt_5068e 17 = .ok (.getfield 9, 3) := by decide +kernel
theorem dJ0_charAt_5068e_20 : decode cJ0_charAt_5068e 20 = .ok (.iload_n 1, 1) := by decide +kernel
theorem dJ0_charAt_5068e_21 : decode cJ0_charAt_5068e 21 = .ok (.invokestatic 498, 3) := by decide +kernel
theorem dJ0_charAt_5068e_24 : decode cJ0_charAt_5068e 24 = .ok (.ireturn, 1) := by decide +kernel
set_option maxRecDepth 20000 in
theorem ggJ0_getBytes_840e7_J0_coder_7d493 : GoodIn wsJ0_getBytes_840e7 wsJ0_coder_7d493 := goodIn_r _ [10, 11, 12] (by decide +kernel) (by decide +kernel)
set_option maxRecDepth 20000 in
theorem gJ0_getBytes_840e7_J0_coder_7d493 : GoodIn wsJ0_getBytes_840e7 (wsV RJ0 335 RJ0 yJ0_coder_7d493 wsJ0_coder_7d493) := goodIn_app (goodIn_of _ (by decide +kernel)) ggJ0_getBytes_840e7_J0_coder_7d493
set_option maxRecDepth 20000 in
theorem ggJ0_getBytes_840e7_J1_inflate_0e8fd : GoodIn wsJ0_getBytes_840e7 wsJ1_inflate_0e8fd := goodIn_r _ [16, 17, 18, 19, 20, 21, 22, 23, 24, 25, 26, 27, 28, 9, 29, 30, 31, 32, 33, 34, 35, 36, 37, 38, 39, 40] (by decide +kernel) (by decide +kernel)
set_option maxRecDepth 20000 in
theorem gJ0_getBytes_840e7_J1_inflate_0e8fd : GoodIn wsJ0_getBytes_840e7 (va_wsS RJ0 106 yJ1_inflate_0e8fd wsJ1_inflate_0e8fd) := goodIn_app (goodIn_of _ (by decide +kernel)) ggJ0_getBytes_840e7_J1_inflate_0e8fd
theorem dJ0_getBytes_840e7_0 : decode cJ0_getBytes_840e7 0 = .ok (.aload_n 0, 1) := by decide +kernel
theorem dJ0_getBytes_840e7_1 : decode cJ0_getBytes_840e7 1 = .ok (.invokevirtual 335, 3) := by decide +kernel
theorem dJ0_getBytes_840e7_4 : decode cJ0_getBytes_840e7 4 = .ok (.iload_n 3, 1) := by decide +kernel
theorem dJ0_getBytes_840e7_5 : decode cJ0_getBytes_840e7 5 = .ok (.if_icmp .ne 23, 3) := by decide +kernel
theorem dJ0_getBytes_840e7_8 : decode cJ0_getBytes_840e7 8 = .ok (.aload_n 0, 1) := by decide +kernel
theorem dJ0_getBytes_840e7_9 : decode cJ0_getBytes_840e7 9 = .ok (.getfield 9, 3) := by decide +kernel
theorem dJ0_getBytes_840e7_12 : decode cJ0_getBytes_840e7 12 = .ok (.iconst 0, 1) := by decide +kernel
theorem dJ0_getBytes_840e7_13 : decode cJ0_getBytes_840e7 13 = .ok (.aload_n 1, 1) := by decide +kernel
theorem dJ0_getBytes_840e7_14 : decode cJ0_getBytes_840e7 14 = .ok (.iload_n 2, 1) := by decide +kernel
theorem dJ0_getBytes_840e7_15 : decode cJ0_getBytes_840e7 15 = .ok (.iload_n 3, 1) := by decide +kernel
theorem dJ0_getBytes_840e7_16 : decode cJ0_getBytes_840e7 16 = .ok (.ishl, 1) := by decide +kernel
theorem dJ0_getBytes_840e7_17 : decode cJ0_getBytes_840e7 17 = .ok (.aload_n 0, 1) := by decide +kernel
theorem dJ0_getBytes_840e7_18 : decode cJ0_getBytes_840e7 18 = .ok (.getfield 9, 3) := by decide +kernel
theorem dJ0_getBytes_840e7_21 : decode cJ0_getBytes_840e7 21 = .ok (.arraylength, 1) := by decide +kernel
theorem dJ0_getBytes_840e7_22 : decode cJ0_getBytes_840e7 22 = .ok (.invokestatic 212, 3) := by decide +kernel
theorem dJ0_getBytes_840e7_25 : decode cJ0_getBytes_840e7 25 = .ok (.goto 18, 3) := by decide +kernel
theorem dJ0_getBytes_840e7_28 : decode cJ0_getBytes_840e7 28 = .ok (.aload_n 0, 1) := by decide +kernel
theorem dJ0_getBytes_840e7_29 : decode cJ0_getBytes_840e7 29 = .ok (.getfield 9, 3) := by decide +kernel
theorem dJ0_getBytes_840e7_32 : decode cJ0_getBytes_840e7 32 = .ok (.iconst 0, 1) := by decide +kernel
theorem dJ0_getBytes_840e7_33 : decode cJ0_getBytes_840e7 33 = .ok (.aload_n 1, 1) := by decide +kernel
theorem dJ0_getBytes_840e7_34 : decode cJ0_getBytes_840e7 34 = .ok (.iload_n 2, 1) := by decide +kernel
theorem dJ0_getBytes_840e7_35 : decode cJ0_getBytes_840e7 35 = .ok (.aload_n 0, 1) := by decide +kernel
theorem dJ0_getBytes_840e7_36 : decode cJ0_getBytes_840e7 36 = .ok (.getfield 9, 3) := by decide +kernel
theorem dJ0_getBytes_840e7_39 : decode cJ0_getBytes_840e7 39 = .ok (.arraylength, 1) := by decide +kernel
theorem dJ0_getBytes_840e7_40 : decode cJ0_getBytes_840e7 40 = .ok (.invokestatic 106, 3) := by decide +kernel
theorem dJ0_getBytes_840e7_43 : decode cJ0_getBytes_840e7 43 = .ok (.return_, 1) := by decide +kernel
theorem dJ0_coder_7d493_0 : decode cJ0_coder_7d493 0 = .ok (.getstatic 38, 3) := by decide +kernel
theorem dJ0_coder_7d493_3 : decode cJ0_coder_7d493 3 = .ok (.ifCond .eq 10, 3) := by decide +kernel
theorem dJ0_coder_7d493_6 : decode cJ0_coder_7d493 6 = .ok (.aload_n 0, 1) := by decide +kernel
theorem dJ0_coder_7d493_7 : decode cJ0_coder_7d493 7 = .ok (.getfield 15, 3) := by decide +kernel
theorem dJ0_coder_7d493_10 : decode cJ0_coder_7d493 10 = .ok (.goto 4, 3) := by decide +kernel
theorem dJ0_coder_7d493_13 : decode cJ0_coder_7d493 13 = .ok (.iconst 1, 1) := by decide +kernel
theorem dJ0_coder_7d493_14 : decode cJ0_coder_7d493 14 = .ok (.ireturn, 1) := by decide +kernel
theorem dJ0_isLatin1_aae02_0 : decode cJ0_isLatin1_aae02 0 = .ok (.getstatic 38, 3) := by decide +kernel
theorem dJ0_isLatin1_aae02_3 : decode cJ0_isLatin1_aae02 3 = .ok (.ifCond .eq 14, 3) := by decide +kernel
theorem dJ0_isLatin1_aae02_6 : decode cJ0_isLatin1_aae02 6 = .ok (.aload_n 0, 1) := by decide +kernel
theorem dJ0_isLatin1_aae02_7 : decode cJ0_isLatin1_aae02 7 = .ok (.getfield 15, 3) := by decide +kernel
theorem dJ0_isLatin1_aae02_10 : decode cJ0_isLatin1_aae02 10 = .ok (.ifCond .ne 7, 3) := by decide +kernel
theorem dJ0_isLatin1_aae02_13 : decode cJ0_isLatin1_aae02 13 = .ok (.iconst 1, 1) := by decide +kernel
theorem dJ0_isLatin1_aae02_14 : decode cJ0_isLatin1_aae02 14 = .ok (.goto 4, 3) := by decide +kernel
theorem dJ0_isLatin1_aae02_17 : decode cJ0_isLatin1_aae02 17 = .ok (.iconst 0, 1) := by decide +kernel
theorem dJ0_isLatin1_aae02_18 : decode cJ0_isLatin1_aae02 18 = .ok (.ireturn, 1) := by decide +kernel
set_option maxRecDepth 20000 in
theorem ggJ0_checkIndex_df160_J3_checkIndex_8e157 : GoodIn wsJ0_checkIndex_df160 wsJ3_checkIndex_8e157 := goodIn_r _ [5] (by decide +kernel) (by decide +kernel)
set_option maxRecDepth 20000 in
theorem gJ0_checkIndex_df160_J3_checkIndex_8e157 : GoodIn wsJ0_checkIndex_df160 (va_wsS RJ0 1059 yJ3_checkIndex_8e157 wsJ3_checkIndex_8e157) := goodIn_app (goodIn_of _ (by decide +kernel)) ggJ0_checkIndex_df160_J3_checkIndex_8e157
theorem dJ0_checkIndex_df160_0 : decode cJ0_checkIndex_df160 0 = .ok (.iload_n 0, 1) := by decide +kernel
theorem dJ0_checkIndex_df160_1 : decode cJ0_checkIndex_df160 1 = .ok (.iload_n 1, 1) := by decide +kernel
theorem dJ0_checkIndex_df160_2 : decode cJ0_checkIndex_df160 2 = .ok (.getstatic 1053, 3) := by decide +kernel
theorem dJ0_checkIndex_df160_5 : decode cJ0_checkIndex_df160 5 = .ok (.invokestatic 1059, 3) := by decide +kernel
theorem dJ0_checkIndex_df160_8 : decode cJ0_checkIndex_df160 8 = .ok (.pop, 1) := by decide +kernel
theorem dJ0_checkIndex_df160_9 : decode cJ0_checkIndex_df160 9 = .ok (.return_, 1) := by decide +kernel
set_option maxRecDepth 20000 in
theorem ggJ0_checkBoundsOffCount_cabcc_J3_checkFromIndexSize_8c36e : GoodIn wsJ0_checkBoundsOffCount_cabcc wsJ3_checkFromIndexSize_8c36e := goodIn_r _ [5] (by decide +kernel) (by decide +kernel)
set_option maxRecDepth 20000 in
theorem gJ0_checkBoundsOffCount_cabcc_J3_checkFromIndexSize_8c36e : GoodIn wsJ0_checkBoundsOffCount_cabcc (va_wsS RJ0 1065 yJ3_checkFromIndexSize_8c36e wsJ3_checkFromIndexSize_8c36e) := goodIn_app (goodIn_of _ (by decide +kernel)) ggJ0_checkBoundsOffCount_cabcc_J3_checkFromIndexSize_8c36e
theorem dJ0_checkBoundsOffCount_cabcc_0 : decode cJ0_checkBoundsOffCount_cabcc 0 = .ok (.iload_n 0, 1) := by decide +kernel
theorem dJ0_checkBoundsOffCount_cabcc_1 : decode cJ0_checkBoundsOffCount_cabcc 1 = .ok (.iload_n 1, 1) := by decide +kernel
theorem dJ0_checkBoundsOffCount_cabcc_2 : decode cJ0_checkBoundsOffCount_cabcc 2 = .ok (.iload_n 2, 1) := by decide +kernel
theorem dJ0_checkBoundsOffCount_cabcc_3 : decode cJ0_checkBoundsOffCount_cabcc 3 = .ok (.getstatic 1053, 3) := by decide +kernel
theorem dJ0_checkBoundsOffCount_cabcc_6 : decode cJ0_checkBoundsOffCount_cabcc 6 = .ok (.invokestatic 1065, 3) := by decide +kernel
theorem dJ0_checkBoundsOffCount_cabcc_9 : decode cJ0_checkBoundsOffCount_cabcc 9 = .ok (.ireturn, 1) := by decide +kernel
set_option maxRecDepth 20000 in
theorem ggJ0_checkBoundsBeginEnd_23922_J3_checkFromToIndex_8c36e : GoodIn wsJ0_checkBoundsBeginEnd_23922 wsJ3_checkFromToIndex_8c36e := goodIn_r _ [5] (by decide +kernel) (by decide +kernel)
set_option maxRecDepth 20000 in
theorem gJ0_checkBoundsBeginEnd_23922_J3_checkFromToIndex_8c36e : GoodIn wsJ0_checkBoundsBeginEnd_23922 (va_wsS RJ0 1062 yJ3_checkFromToIndex_8c36e wsJ3_checkFromToIndex_8c36e) := goodIn_app (goodIn_of _ (by decide +kernel)) ggJ0_checkBoundsBeginEnd_23922_J3_checkFromToIndex_8c36e
theorem dJ0_checkBoundsBeginEnd_23922_0 : decode cJ0_checkBoundsBeginEnd_23922 0 = .ok (.iload_n 0, 1) := by decide +kernel
theorem dJ0_checkBoundsBeginEnd_23922_1 : decode cJ0_checkBoundsBeginEnd_23922 1 = .ok (.iload_n 1, 1) := by decide +kernel
theorem dJ0_checkBoundsBeginEnd_23922_2 : decode cJ0_checkBoundsBeginEnd_23922 2 = .ok (.iload_n 2, 1) := by decide +kernel
theorem dJ0_checkBoundsBeginEnd_23922_3 : decode cJ0_checkBoundsBeginEnd_23922 3 = .ok (.getstatic 1053, 3) := by decide +kernel
theorem dJ0_checkBoundsBeginEnd_23922_6 : decode cJ0_checkBoundsBeginEnd_23922 6 = .ok (.invokestatic 1062, 3) := by decide +kernel
theorem dJ0_checkBoundsBeginEnd_23922_9 : decode cJ0_checkBoundsBeginEnd_23922 9 = .ok (.pop, 1) := by decide +kernel
theorem dJ0_checkBoundsBeginEnd_23922_10 : decode cJ0_checkBoundsBeginEnd_23922 10 = .ok (.return_, 1) := by decide +kernel
set_option maxRecDepth 20000 in
theorem ggJ4_init_da8c8_J5_init_d00df : GoodIn wsJ4_init_da8c8 wsJ5_init_d00df := goodIn_r _ [4, 5, 6, 7, 8, 9, 10, 11, 12, 13, 14, 15, 16, 17, 18, 19, 20, 21, 22, 23] (by decide +kernel) (by decide +kernel)
set_option maxRecDepth 20000 in
theorem gJ4_init_da8c8_J5_init_d00df : GoodIn wsJ4_init_da8c8 (wsJ5_init_d00df) := ggJ4_init_da8c8_J5_init_d00df
theorem dJ4_init_da8c8_0 : decode cJ4_init_da8c8 0 = .ok (.aload_n 0, 1) := by decide +kernel
theorem dJ4_init_da8c8_1 : decode cJ4_init_da8c8 1 = .ok (.bipush 16, 2) := by decide +kernel
theorem dJ4_init_da8c8_3 : decode cJ4_init_da8c8 3 = .ok (.invokespecial 1, 3) := by decide +kernel
theorem dJ4_init_da8c8_6 : decode cJ4_init_da8c8 6 = .ok (.return_, 1) := by decide +kernel
set_option maxRecDepth 20000 in
theorem ggJ4_append_15ec4_J5_append_cf1ce : GoodIn wsJ4_append_15ec4 wsJ5_append_cf1ce := goodIn_r _ [6, 7, 8, 9, 10, 11, 5, 12, 13, 14, 15, 16, 17, 18, 19, 20, 21, 22, 23, 24, 25, 26, 27, 28, 29, 30, 31, 32, 33, 34, 35, 36, 37, 38, 39, 40, 41, 42, 43, 44, 45, 46, 47, 48, 49, 50, 51, 52, 53, 54, 55, 56, 57, 58, 59, 60, 61, 62, 63, 64, 65, 66, 67, 68, 69, 70, 71, 72, 73, 74, 75, 76, 77, 78, 79, 80, 81, 82, 83, 84, 85, 86, 87, 88, 89, 90, 91, 92, 93, 94, 95, 96, 97, 98, 99, 100, 101, 102, 103, 104, 105, 106, 107, 108, 109, 110, 111, 112, 113, 114, 115, 116, 117, 118, 119, 120, 121, 122, 123, 124, 125, 126, 127, 128, 129, 130, 131, 132, 133, 134, 135, 136, 137, 138, 139, 140, 141, 142, 143, 144, 145, 146] (by decide +kernel) (by decide +kernel)
set_option maxRecDepth 20000 in
theorem gJ4_append_15ec4_J5_append_cf1ce_s29 : GoodIn wsJ4_append_15ec4 (va_wsSU RJ4 29 yJ5_append_cf1ce wsJ5_append_cf1ce) := goodIn_app (goodIn_of _ (by decide +kernel)) ggJ4_append_15ec4_J5_append_cf1ce
theorem dJ4_append_15ec4_0 : decode cJ4_append_15ec4 0 = .ok (.aload_n 0, 1) := by decide +kernel
theorem dJ4_append_15ec4_1 : decode cJ4_append_15ec4 1 = .ok (.aload_n 1, 1) := by decide +kernel
theorem dJ4_append_15ec4_2 : decode cJ4_append_15ec4 2 = .ok (.invokespecial 29, 3) := by decide +kernel
theorem dJ4_append_15ec4_5 : decode cJ4_append_15ec4 5 = .ok (.pop, 1) := by decide +kernel
theorem dJ4_append_15ec4_6 : decode cJ4_append_15ec4 6 = .ok (.aload_n 0, 1) := by decide +kernel
theorem dJ4_append_15ec4_7 : decode cJ4_append_15ec4 7 = .ok (.areturn, 1) := by decide +kernel
set_option maxRecDepth 20000 in
theorem ggJ4_append_cf468_J5_append_3fe6f : GoodIn wsJ4_append_cf468 wsJ5_append_3fe6f := goodIn_r _ [6, 7, 8, 9, 10, 11, 12, 5, 13, 14, 15, 16, 17, 18, 19, 20, 21, 22, 23, 24, 25, 26, 27, 28, 29, 30, 31, 32, 33, 34, 35, 36, 37, 38, 39, 40, 41, 42, 43, 44, 45, 46, 47, 48, 49, 50, 51, 52, 53, 54, 55, 56, 57, 58, 59, 60, 61, 62, 63, 64, 65, 66, 67, 68, 69, 70, 71, 72, 73, 74, 75, 76, 77, 78, 79, 80, 81, 82, 83, 84, 85, 86, 87, 88, 89, 90, 91, 92, 93, 94, 95, 96, 97, 98, 99, 100, 101, 102, 103, 104, 105, 106, 107, 108, 109, 110, 111, 112, 113, 114, 115, 116] (by decide +kernel) (by decide +kernel)
set_option maxRecDepth 20000 in
theorem gJ4_append_cf468_J5_append_3fe6f_s50 : GoodIn wsJ4_append_cf468 (va_wsSU RJ4 50 yJ5_append_3fe6f wsJ5_append_3fe6f) := goodIn_app (goodIn_of _ (by decide +kernel)) ggJ4_append_cf468_J5_append_3fe6f
theorem dJ4_append_cf468_0 : decode cJ4_append_cf468 0 = .ok (.aload_n 0, 1) := by decide +kernel
theorem dJ4_append_cf468_1 : decode cJ4_append_cf468 1 = .ok (.iload_n 1, 1) := by decide +kernel
theorem dJ4_append_cf468_2 : decode cJ4_append_cf468 2 = .ok (.invokespecial 50, 3) := by decide +kernel
theorem dJ4_append_cf468_5 : decode cJ4_append_cf468 5 = .ok (.pop, 1) := by decide +kernel
theorem dJ4_append_cf468_6 : decode cJ4_append_cf468 6 = .ok (.aload_n 0, 1) := by decide +kernel
theorem dJ4_append_cf468_7 : decode cJ4_append_cf468 7 = .ok (.areturn, 1) := by decide +kernel
set_option maxRecDepth 20000 in
theorem ggJ4_append_bf812_J5_append_c97b9 : GoodIn wsJ4_append_bf812 wsJ5_append_c97b9 := goodIn_r _ [6, 7, 8, 9, 10, 11, 12, 13, 14, 15, 16, 5, 17, 18, 19, 20, 21, 22, 23, 24, 25, 26, 27, 28, 29, 30, 31, 32, 33, 34, 35, 36, 37, 38, 39, 40, 41, 42, 43, 44, 45, 46, 47, 48, 49, 50, 51, 52, 53, 54, 55, 56, 57, 58, 59, 60, 61, 62, 63, 64, 65, 66, 67, 68, 69, 70, 71, 72, 73, 74, 75, 76, 77, 78, 79, 80, 81, 82, 83, 84, 85, 86, 87, 88, 89, 90, 91, 92, 93, 94, 95, 96, 97, 98, 99] (by decide +kernel) (by decide +kernel)
set_option maxRecDepth 20000 in
theorem gJ4_append_bf812_J5_append_c97b9_s53 : GoodIn wsJ4_append_bf812 (va_wsSU RJ4 53 yJ5_append_c97b9 wsJ5_append_c97b9) := goodIn_app (goodIn_of _ (by decide +kernel)) ggJ4_append_bf812_J5_append_c97b9
theorem dJ4_append_bf812_0 : decode cJ4_append_bf812 0 = .ok (.aload_n 0, 1) := by decide +kernel
theorem dJ4_append_bf812_1 : decode cJ4_append_bf812 1 = .ok (.iload_n 1, 1) := by decide +kernel
theorem dJ4_append_bf812_2 : decode cJ4_append_bf812 2 = .ok (.invokespecial 53, 3) := by decide +kernel
theorem dJ4_append_bf812_5 : decode cJ4_append_bf812 5 = .ok (.pop, 1) := by decide +kernel
theorem dJ4_append_bf812_6 : decode cJ4_append_bf812 6 = .ok (.aload_n 0, 1) := by decide +kernel
theorem dJ4_append_bf812_7 : decode cJ4_append_bf812 7 = .ok (.areturn, 1) := by decide +kernel
set_option maxRecDepth 20000 in
theorem ggJ4_charAt_5068e_J5_charAt_5068e : GoodIn wsJ4_charAt_5068e wsJ5_charAt_5068e := goodIn_r _ [6, 7, 8, 9, 10, 11, 12, 13, 14, 15, 16, 17, 18, 19, 20, 21, 22, 23, 24, 25, 26, 27, 28, 29, 30, 31, 32, 33, 34, 35, 36] (by decide +kernel) (by decide +kernel)
set_option maxRecDepth 20000 in
theorem gJ4_charAt_5068e_J5_charAt_5068e_s329 : GoodIn wsJ4_charAt_5068e (va_wsSU RJ4 329 yJ5_charAt_5068e wsJ5_charAt_5068e) := goodIn_app (goodIn_of _ (by decide +kernel)) ggJ4_charAt_5068e_J5_charAt_5068e
theorem dJ4_charAt_5068e_0 : decode cJ4_charAt_5068e 0 = .ok (.aload_n 0, 1) := by decide +kernel
theorem dJ4_charAt_5068e_1 : decode cJ4_charAt_5068e 1 = .ok (.iload_n 1, 1) := by decide +kernel
theorem dJ4_charAt_5068e_2 : decode cJ4_charAt_5068e 2 = .ok (.invokespecial 329, 3) := by decide +kernel
theorem dJ4_charAt_5068e_5 : decode cJ4_charAt_5068e 5 = .ok (.ireturn, 1) := by decide +kernel
set_option maxRecDepth 20000 in
theorem ggJ4_setLength_d00df_J5_setLength_d00df : GoodIn wsJ4_setLength_d00df wsJ5_setLength_d00df := goodIn_r _ [6, 7, 8, 9, 10, 11, 12, 13, 5, 14, 15, 16, 17, 18, 19, 20, 21, 22, 23, 24, 25, 26, 27, 28, 29, 30, 31, 32, 33, 34, 35, 36, 37, 38, 39, 40, 41, 42, 43, 44, 45, 46, 47, 48, 49, 50, 51, 52, 53, 54, 55, 56, 57, 58, 59, 60, 61, 62, 63, 64, 65, 66, 67, 68, 69, 70, 71, 72, 73, 74, 75, 76] (by decide +kernel) (by decide +kernel)
set_option maxRecDepth 20000 in
theorem gJ4_setLength_d00df_J5_setLength_d00df_s333 : GoodIn wsJ4_setLength_d00df (va_wsSU RJ4 333 yJ5_setLength_d00df wsJ5_setLength_d00df) := goodIn_app (goodIn_of _ (by decide +kernel)) ggJ4_setLength_d00df_J5_setLength_d00df
theorem dJ4_setLength_d00df_0 : decode cJ4_setLength_d00df 0 = .ok (.aload_n 0, 1) := by decide +kernel
theorem dJ4_setLength_d00df_1 : decode cJ4_setLength_d00df 1 = .ok (.iload_n 1, 1) := by decide +kernel
theorem dJ4_setLength_d00df_2 : decode cJ4_setLength_d00df 2 = .ok (.invokespecial 333, 3) := by decide +kernel
theorem dJ4_setLength_d00df_5 : decode cJ4_setLength_d00df 5 = .ok (.return_, 1) := by decide +kernel
set_option maxRecDepth 20000 in
theorem ggJ4_length_8abf5_J5_length_8abf5 : GoodIn wsJ4_length_8abf5 wsJ5_length_8abf5 := goodIn_r _ [6, 7, 8, 9, 10, 11] (by decide +kernel) (by decide +kernel)
set_option maxRecDepth 20000 in
theorem gJ4_length_8abf5_J5_length_8abf5_s343 : GoodIn wsJ4_length_8abf5 (va_wsSU RJ4 343 yJ5_length_8abf5 wsJ5_length_8abf5) := goodIn_app (goodIn_of _ (by decide +kernel)) ggJ4_length_8abf5_J5_length_8abf5
theorem dJ4_length_8abf5_0 : decode cJ4_length_8abf5 0 = .ok (.aload_n 0, 1) := by decide +kernel
theorem dJ4_length_8abf5_1 : decode cJ4_length_8abf5 1 = .ok (.invokespecial 343, 3) := by decide +kernel
theorem dJ4_length_8abf5_4 : decode cJ4_length_8abf5 4 = .ok (.ireturn, 1) := by decide +kernel
set_option maxRecDepth 20000 in
theorem ggJ1_charAt_3b067_J0_checkIndex_df160 : GoodIn wsJ1_charAt_3b067 wsJ0_checkIndex_df160 := goodIn_r _ [4, 5, 6, 7, 8, 9] (by decide +kernel) (by decide +kernel)
set_option maxRecDepth 20000 in
theorem gJ1_charAt_3b067_J0_checkIndex_df160 : GoodIn wsJ1_charAt_3b067 (va_wsS RJ1 9 yJ0_checkIndex_df160 wsJ0_checkIndex_df160) := goodIn_app (goodIn_of _ (by decide +kernel)) ggJ1_charAt_3b067_J0_checkIndex_df160
theorem dJ1_charAt_3b067_0 : decode cJ1_charAt_3b067 0 = .ok (.iload_n 1, 1) := by decide +kernel
theorem dJ1_charAt_3b067_1 : decode cJ1_charAt_3b067 1 = .ok (.aload_n 0, 1) := by decide +kernel
theorem dJ1_charAt_3b067_2 : decode cJ1_charAt_3b067 2 = .ok (.arraylength, 1) := by decide +kernel
theorem dJ1_charAt_3b067_3 : decode cJ1_charAt_3b067 3 = .ok (.invokestatic 9, 3) := by decide +kernel
theorem dJ1_charAt_3b067_6 : decode cJ1_charAt_3b067 6 = .ok (.aload_n 0, 1) := by decide +kernel
theorem dJ1_charAt_3b067_7 : decode cJ1_charAt_3b067 7 = .ok (.iload_n 1, 1) := by decide +kernel
theorem dJ1_charAt_3b067_8 : decode cJ1_charAt_3b067 8 = .ok (.baload, 1) := by decide +kernel
theorem dJ1_charAt_3b067_9 : decode cJ1_charAt_3b067 9 = .ok (.sipush 255, 3) := by decide +kernel
theorem dJ1_charAt_3b067_12 : decode cJ1_charAt_3b067 12 = .ok (.iand, 1) := by decide +kernel
theorem dJ1_charAt_3b067_13 : decode cJ1_charAt_3b067 13 = .ok (.i2c, 1) := by decide +kernel
theorem dJ1_charAt_3b067_14 : decode cJ1_charAt_3b067 14 = .ok (.ireturn, 1) := by decide +kernel
theorem dJ1_canEncode_fc78d_0 : decode cJ1_canEncode_fc78d 0 = .ok (.iload_n 0, 1) := by decide +kernel
theorem dJ1_canEncode_fc78d_1 : decode cJ1_canEncode_fc78d 1 = .ok (.sipush 255, 3) := by decide +kernel
theorem dJ1_canEncode_fc78d_4 : decode cJ1_canEncode_fc78d 4 = .ok (.if_icmp .gt 7, 3) := by decide +kernel
theorem dJ1_canEncode_fc78d_7 : decode cJ1_canEncode_fc78d 7 = .ok (.iconst 1, 1) := by decide +kernel
theorem dJ1_canEncode_fc78d_8 : decode cJ1_canEncode_fc78d 8 = .ok (.goto 4, 3) := by decide +kernel
theorem dJ1_canEncode_fc78d_11 : decode cJ1_canEncode_fc78d 11 = .ok (.iconst 0, 1) := by decide +kernel
theorem dJ1_canEncode_fc78d_12 : decode cJ1_canEncode_fc78d 12 = .ok (.ireturn, 1) := by decide +kernel
set_option maxRecDepth 20000 in
theorem ggJ1_fillNull_b72d1_J7_fill_eb02e : GoodIn wsJ1_fillNull_b72d1 wsJ7_fill_eb02e := goodIn_r _ [4, 5, 6, 3, 7] (by decide +kernel) (by decide +kernel)
set_option maxRecDepth 20000 in
theorem gJ1_fillNull_b72d1_J7_fill_eb02e : GoodIn wsJ1_fillNull_b72d1 (va_wsS RJ1 236 yJ7_fill_eb02e wsJ7_fill_eb02e) := goodIn_app (goodIn_of _ (by decide +kernel)) ggJ1_fillNull_b72d1_J7_fill_eb02e
theorem dJ1_fillNull_b72d1_0 : decode cJ1_fillNull_b72d1 0 = .ok (.aload_n 0, 1) := by decide +kernel
theorem dJ1_fillNull_b72d1_1 : decode cJ1_fillNull_b72d1 1 = .ok (.iload_n 1, 1) := by decide +kernel
theorem dJ1_fillNull_b72d1_2 : decode cJ1_fillNull_b72d1 2 = .ok (.iload_n 2, 1) := by decide +kernel
theorem dJ1_fillNull_b72d1_3 : decode cJ1_fillNull_b72d1 3 = .ok (.iconst 0, 1) := by decide +kernel
theorem dJ1_fillNull_b72d1_4 : decode cJ1_fillNull_b72d1 4 = .ok (.invokestatic 236, 3) := by decide +kernel
theorem dJ1_fillNull_b72d1_7 : decode cJ1_fillNull_b72d1 7 = .ok (.return_, 1) := by decide +kernel
set_option maxRecDepth 20000 in
theorem ggJ1_inflate_0e8fd_J2_inflate_0e8fd : GoodIn wsJ1_inflate_0e8fd wsJ2_inflate_0e8fd := goodIn_r _ [4, 5, 6, 3, 7, 8, 9, 10, 11, 12, 13, 14, 15, 16, 17, 18, 19, 20, 21, 22, 23, 24, 25] (by decide +kernel) (by decide +kernel)
set_option maxRecDepth 20000 in
theorem gJ1_inflate_0e8fd_J2_inflate_0e8fd : GoodIn wsJ1_inflate_0e8fd (va_wsS RJ1 240 yJ2_inflate_0e8fd wsJ2_inflate_0e8fd) := goodIn_app (goodIn_of _ (by decide +kernel)) ggJ1_inflate_0e8fd_J2_inflate_0e8fd
theorem dJ1_inflate_0e8fd_0 : decode cJ1_inflate_0e8fd 0 = .ok (.aload_n 0, 1) := by decide +kernel
theorem dJ1_inflate_0e8fd_1 : decode cJ1_inflate_0e8fd 1 = .ok (.iload_n 1, 1) := by decide +kernel
theorem dJ1_inflate_0e8fd_2 : decode cJ1_inflate_0e8fd 2 = .ok (.aload_n 2, 1) := by decide +kernel
theorem dJ1_inflate_0e8fd_3 : decode cJ1_inflate_0e8fd 3 = .ok (.iload_n 3, 1) := by decide +kernel
theorem dJ1_inflate_0e8fd_4 : decode cJ1_inflate_0e8fd 4 = .ok (.iload 4, 2) := by decide +kernel
theorem dJ1_inflate_0e8fd_6 : decode cJ1_inflate_0e8fd 6 = .ok (.invokestatic 240, 3) := by decide +kernel
theorem dJ1_inflate_0e8fd_9 : decode cJ1_inflate_0e8fd 9 = .ok (.return_, 1) := by decide +kernel
set_option maxRecDepth 20000 in
theorem ggJ2_newBytesFor_77867_J2_newBytesLength_0f7a4 : GoodIn wsJ2_newBytesFor_77867 wsJ2_newBytesLength_0f7a4 := goodIn_r _ [5, 6] (by decide +kernel) (by decide +kernel)
set_option maxRecDepth 20000 in
theorem gJ2_newBytesFor_77867_J2_newBytesLength_0f7a4 : GoodIn wsJ2_newBytesFor_77867 (va_wsS RJ2 11 yJ2_newBytesLength_0f7a4 wsJ2_newBytesLength_0f7a4) := goodIn_app (goodIn_of _ (by decide +kernel)) ggJ2_newBytesFor_77867_J2_newBytesLength_0f7a4
theorem dJ2_newBytesFor_77867_0 : decode cJ2_newBytesFor_77867 0 = .ok (.iload_n 0, 1) := by decide +kernel
theorem dJ2_newBytesFor_77867_1 : decode cJ2_newBytesFor_77867 1 = .ok (.invokestatic 11, 3) := by decide +kernel
theorem dJ2_newBytesFor_77867_4 : decode cJ2_newBytesFor_77867 4 = .ok (.newarray .byte, 2) := by decide +kernel
theorem dJ2_newBytesFor_77867_6 : decode cJ2_newBytesFor_77867 6 = .ok (.areturn, 1) := by decide +kernel
theorem dJ2_newBytesLength_0f7a4_0 : decode cJ2_newBytesLength_0f7a4 0 = .ok (.iload_n 0, 1) := by decide +kernel
theorem dJ2_newBytesLength_0f7a4_1 : decode cJ2_newBytesLength_0f7a4 1 = .ok (.ifCond .ge 11, 3) := by decide +kernel
theorem dJ2_newBytesLength_0f7a4_4 : decode cJ2_newBytesLength_0f7a4 4 = .ok (.new 17, 3) := by decide +kernel
theorem dJ2_newBytesLength_0f7a4_7 : decode cJ2_newBytesLength_0f7a4 7 = .ok (.dup, 1) := by decide +kernel
theorem dJ2_newBytesLength_0f7a4_8 : decode cJ2_newBytesLength_0f7a4 8 = .ok (.invokespecial 19, 3) := by decide +kernel
theorem dJ2_newBytesLength_0f7a4_11 : decode cJ2_newBytesLength_0f7a4 11 = .ok (.athrow, 1) := by decide +kernel
theorem dJ2_newBytesLength_0f7a4_12 : decode cJ2_newBytesLength_0f7a4 12 = .ok (.iload_n 0, 1) := by decide +kernel
theorem dJ2_newBytesLength_0f7a4_13 : decode cJ2_newBytesLength_0f7a4 13 = .ok (.ldc 20, 2) := by decide +kernel
theorem dJ2_newBytesLength_0f7a4_15 : decode cJ2_newBytesLength_0f7a4 15 = .ok (.if_icmp .lt 40, 3) := by decide +kernel
theorem dJ2_newBytesLength_0f7a4_18 : decode cJ2_newBytesLength_0f7a4 18 = .ok (.new 21, 3) := by decide +kernel
theorem dJ2_newBytesLength_0f7a4_21 : decode cJ2_newBytesLength_0f7a4 21 = .ok (.dup, 1) := by decide +kernel
theorem dJ2_newBytesLength_0f7a4_22 : decode cJ2_newBytesLength_0f7a4 22 = .ok (.new 23, 3) := by decide +kernel
theorem dJ2_newBytesLength_0f7a4_25 : decode cJ2_newBytesLength_0f7a4 25 = .ok (.dup, 1) := by decide +kernel
theorem dJ2_newBytesLength_0f7a4_26 : decode cJ2_newBytesLength_0f7a4 26 = .ok (.invokespecial 25, 3) := by decide +kernel
theorem dJ2_newBytesLength_0f7a4_29 : decode cJ2_newBytesLength_0f7a4 29 = .ok (.ldc 26, 2) := by decide +kernel
theorem dJ2_newBytesLength_0f7a4_31 : decode cJ2_newBytesLength_0f7a4 31 = .ok (.invokevirtual 28, 3) := by decide +kernel
theorem dJ2_newBytesLength_0f7a4_34 : decode cJ2_newBytesLength_0f7a4 34 = .ok (.iload_n 0, 1) := by decide +kernel
theorem dJ2_newBytesLength_0f7a4_35 : decode cJ2_newBytesLength_0f7a4 35 = .ok (.invokevirtual 32, 3) := by decide +kernel
theorem dJ2_newBytesLength_0f7a4_38 : decode cJ2_newBytesLength_0f7a4 38 = .ok (.ldc 35, 2) := by decide +kernel
theorem dJ2_newBytesLength_0f7a4_40 : decode cJ2_newBytesLength_0f7a4 40 = .ok (.invokevirtual 28, 3) := by decide +kernel
theorem dJ2_newBytesLength_0f7a4_43 : decode cJ2_newBytesLength_0f7a4 43 = .ok (.ldc 20, 2) := by decide +kernel
theorem dJ2_newBytesLength_0f7a4_45 : decode cJ2_newBytesLength_0f7a4 45 = .ok (.invokevirtual 32, 3) := by decide +kernel
theorem dJ2_newBytesLength_0f7a4_48 : decode cJ2_newBytesLength_0f7a4 48 = .ok (.invokevirtual 37, 3) := by decide +kernel
theorem dJ2_newBytesLength_0f7a4_51 : decode cJ2_newBytesLength_0f7a4 51 = .ok (.invokespecial 41, 3) := by decide +kernel
theorem dJ2_newBytesLength_0f7a4_54 : decode cJ2_newBytesLength_0f7a4 54 = .ok (.athrow, 1) := by decide +kernel
theorem dJ2_newBytesLength_0f7a4_55 : decode cJ2_newBytesLength_0f7a4 55 = .ok (.iload_n 0, 1) := by decide +kernel
theorem dJ2_newBytesLength_0f7a4_56 : decode cJ2_newBytesLength_0f7a4 56 = .ok (.iconst 1, 1) := by decide +kernel
theorem dJ2_newBytesLength_0f7a4_57 : decode cJ2_newBytesLength_0f7a4 57 = .ok (.ishl, 1) := by decide +kernel
theorem dJ2_newBytesLength_0f7a4_58 : decode cJ2_newBytesLength_0f7a4 58 = .ok (.ireturn, 1) := by decide +kernel
set_option maxRecDepth 20000 in
theorem ggJ2_putChar_b72d1_J2_length_9d52b : GoodIn wsJ2_putChar_b72d1 wsJ2_length_9d52b := goodIn_r _ [7] (by decide +kernel) (by decide +kernel)
set_option maxRecDepth 20000 in
theorem gJ2_putChar_b72d1_J2_length_9d52b : GoodIn wsJ2_putChar_b72d1 (va_wsS RJ2 48 yJ2_length_9d52b wsJ2_length_9d52b) := goodIn_app (goodIn_of _ (by decide +kernel)) ggJ2_putChar_b72d1_J2_length_9d52b
theorem dJ2_putChar_b72d1_0 : decode cJ2_putChar_b72d1 0 = .ok (.getstatic 44, 3) := by decide +kernel
theorem dJ2_putChar_b72d1_3 : decode cJ2_putChar_b72d1 3 = .ok (.ifCond .ne 25, 3) := by decide +kernel
theorem dJ2_putChar_b72d1_6 : decode cJ2_putChar_b72d1 6 = .ok (.iload_n 1, 1) := by decide +kernel
theorem dJ2_putChar_b72d1_7 : decode cJ2_putChar_b72d1 7 = .ok (.ifCond .lt 11, 3) := by decide +kernel
theorem dJ2_putChar_b72d1_10 : decode cJ2_putChar_b72d1 10 = .ok (.iload_n 1, 1) := by decide +kernel
theorem dJ2_putChar_b72d1_11 : decode cJ2_putChar_b72d1 11 = .ok (.aload_n 0, 1) := by decide +kernel
theorem dJ2_putChar_b72d1_12 : decode cJ2_putChar_b72d1 12 = .ok (.invokestatic 48, 3) := by decide +kernel
theorem dJ2_putChar_b72d1_15 : decode cJ2_putChar_b72d1 15 = .ok (.if_icmp .lt 13, 3) := by decide +kernel
theorem dJ2_putChar_b72d1_18 : decode cJ2_putChar_b72d1 18 = .ok (.new 52, 3) := by decide +kernel
theorem dJ2_putChar_b72d1_21 : decode cJ2_putChar_b72d1 21 = .ok (.dup, 1) := by decide +kernel
theorem dJ2_putChar_b72d1_22 : decode cJ2_putChar_b72d1 22 = .ok (.ldc 54, 2) := by decide +kernel
theorem dJ2_putChar_b72d1_24 : decode cJ2_putChar_b72d1 24 = .ok (.invokespecial 56, 3) := by decide +kernel
theorem dJ2_putChar_b72d1_27 : decode cJ2_putChar_b72d1 27 = .ok (.athrow, 1) := by decide +kernel
theorem dJ2_putChar_b72d1_28 : decode cJ2_putChar_b72d1 28 = .ok (.iload_n 1, 1) := by decide +kernel
theorem dJ2_putChar_b72d1_29 : decode cJ2_putChar_b72d1 29 = .ok (.iconst 1, 1) := by decide +kernel
theorem dJ2_putChar_b72d1_30 : decode cJ2_putChar_b72d1 30 = .ok (.ishl, 1) := by decide +kernel
theorem dJ2_putChar_b72d1_31 : decode cJ2_putChar_b72d1 31 = .ok (.istore_n 1, 1) := by decide +kernel
theorem dJ2_putChar_b72d1_32 : decode cJ2_putChar_b72d1 32 = .ok (.aload_n 0, 1) := by decide +kernel
theorem dJ2_putChar_b72d1_33 : decode cJ2_putChar_b72d1 33 = .ok (.iload_n 1, 1) := by decide +kernel
theorem dJ2_putChar_b72d1_34 : decode cJ2_putChar_b72d1 34 = .ok (.iinc 1 1, 3) := by decide +kernel
theorem dJ2_putChar_b72d1_37 : decode cJ2_putChar_b72d1 37 = .ok (.iload_n 2, 1) := by decide +kernel
theorem dJ2_putChar_b72d1_38 : decode cJ2_putChar_b72d1 38 = .ok (.getstatic 59, 3) := by decide +kernel
theorem dJ2_putChar_b72d1_41 : decode cJ2_putChar_b72d1 41 = .ok (.ishr, 1) := by decide +kernel
theorem dJ2_putChar_b72d1_42 : decode cJ2_putChar_b72d1 42 = .ok (.i2b, 1) := by decide +kernel
theorem dJ2_putChar_b72d1_43 : decode cJ2_putChar_b72d1 43 = .ok (.bastore, 1) := by decide +kernel
theorem dJ2_putChar_b72d1_44 : decode cJ2_putChar_b72d1 44 = .ok (.aload_n 0, 1) := by decide +kernel
theorem dJ2_putChar_b72d1_45 : decode cJ2_putChar_b72d1 45 = .ok (.iload_n 1, 1) := by decide +kernel
theorem dJ2_putChar_b72d1_46 : decode cJ2_putChar_b72d1 46 = .ok (.iload_n 2, 1) := by decide +kernel
theorem dJ2_putChar_b72d1_47 : decode cJ2_putChar_b72d1 47 = .ok (.getstatic 63, 3) := by decide +kernel
theorem dJ2_putChar_b72d1_50 : decode cJ2_putChar_b72d1 50 = .ok (.ishr, 1) := by decide +kernel
theorem dJ2_putChar_b72d1_51 : decode cJ2_putChar_b72d1 51 = .ok (.i2b, 1) := by decide +kernel
theorem dJ2_putChar_b72d1_52 : decode cJ2_putChar_b72d1 52 = .ok (.bastore, 1) := by decide +kernel
theorem dJ2_putChar_b72d1_53 : decode cJ2_putChar_b72d1 53 = .ok (.return_, 1) := by decide +kernel
set_option maxRecDepth 20000 in
theorem ggJ2_getChar_3b067_J2_length_9d52b : GoodIn wsJ2_getChar_3b067 wsJ2_length_9d52b := goodIn_r _ [7] (by decide +kernel) (by decide +kernel)
set_option maxRecDepth 20000 in
theorem gJ2_getChar_3b067_J2_length_9d52b : GoodIn wsJ2_getChar_3b067 (va_wsS RJ2 48 yJ2_length_9d52b wsJ2_length_9d52b) := goodIn_app (goodIn_of _ (by decide +kernel)) ggJ2_getChar_3b067_J2_length_9d52b
theorem dJ2_getChar_3b067_0 : decode cJ2_getChar_3b067 0 = .ok (.getstatic 44, 3) := by decide +kernel
theorem dJ2_getChar_3b067_3 : decode cJ2_getChar_3b067 3 = .ok (.ifCond .ne 25, 3) := by decide +kernel
theorem dJ2_getChar_3b067_6 : decode cJ2_getChar_3b067 6 = .ok (.iload_n 1, 1) := by decide +kernel
theorem dJ2_getChar_3b067_7 : decode cJ2_getChar_3b067 7 = .ok (.ifCond .lt 11, 3) := by decide +kernel
theorem dJ2_getChar_3b067_10 : decode cJ2_getChar_3b067 10 = .ok (.iload_n 1, 1) := by decide +kernel
theorem dJ2_getChar_3b067_11 : decode cJ2_getChar_3b067 11 = .ok (.aload_n 0, 1) := by decide +kernel
theorem dJ2_getChar_3b067_12 : decode cJ2_getChar_3b067 12 = .ok (.invokestatic 48, 3) := by decide +kernel
theorem dJ2_getChar_3b067_15 : decode cJ2_getChar_3b067 15 = .ok (.if_icmp .lt 13, 3) := by decide +kernel
theorem dJ2_getChar_3b067_18 : decode cJ2_getChar_3b067 18 = .ok (.new 52, 3) := by decide +kernel
theorem dJ2_getChar_3b067_21 : decode cJ2_getChar_3b067 21 = .ok (.dup, 1) := by decide +kernel
theorem dJ2_getChar_3b067_22 : decode cJ2_getChar_3b067 22 = .ok (.ldc 54, 2) := by decide +kernel
theorem dJ2_getChar_3b067_24 : decode cJ2_getChar_3b067 24 = .ok (.invokespecial 56, 3) := by decide +kernel
theorem dJ2_getChar_3b067_27 : decode cJ2_getChar_3b067 27 = .ok (.athrow, 1) := by decide +kernel
theorem dJ2_getChar_3b067_28 : decode cJ2_getChar_3b067 28 = .ok (.iload_n 1, 1) := by decide +kernel
theorem dJ2_getChar_3b067_29 : decode cJ2_getChar_3b067 29 = .ok (.iconst 1, 1) := by decide +kernel
theorem dJ2_getChar_3b067_30 : decode cJ2_getChar_3b067 30 = .ok (.ishl, 1) := by decide +kernel
theorem dJ2_getChar_3b067_31 : decode cJ2_getChar_3b067 31 = .ok (.istore_n 1, 1) := by decide +kernel
theorem dJ2_getChar_3b067_32 : decode cJ2_getChar_3b067 32 = .ok (.aload_n 0, 1) := by decide +kernel
theorem dJ2_getChar_3b067_33 : decode cJ2_getChar_3b067 33 = .ok (.iload_n 1, 1) := by decide +kernel
theorem dJ2_getChar_3b067_34 : decode cJ2_getChar_3b067 34 = .ok (.iinc 1 1, 3) := by decide +kernel
theorem dJ2_getChar_3b067_37 : decode cJ2_getChar_3b067 37 = .ok (.baload, 1) := by decide +kernel
theorem dJ2_getChar_3b067_38 : decode cJ2_getChar_3b067 38 = .ok (.sipush 255, 3) := by decide +kernel
theorem dJ2_getChar_3b067_41 : decode cJ2_getChar_3b067 41 = .ok (.iand, 1) := by decide +kernel
theorem dJ2_getChar_3b067_42 : decode cJ2_getChar_3b067 42 = .ok (.getstatic 59, 3) := by decide +kernel
theorem dJ2_getChar_3b067_45 : decode cJ2_getChar_3b067 45 = .ok (.ishl, 1) := by decide +kernel
theorem dJ2_getChar_3b067_46 : decode cJ2_getChar_3b067 46 = .ok (.aload_n 0, 1) := by decide +kernel
theorem dJ2_getChar_3b067_47 : decode cJ2_getChar_3b067 47 = .ok (.iload_n 1, 1) := by decide +kernel
theorem dJ2_getChar_3b067_48 : decode cJ2_getChar_3b067 48 = .ok (.baload, 1) := by decide +kernel
theorem dJ2_getChar_3b067_49 : decode cJ2_getChar_3b067 49 = .ok (.sipush 255, 3) := by decide +kernel
theorem dJ2_getChar_3b067_52 : decode cJ2_getChar_3b067 52 = .ok (.iand, 1) := by decide +kernel
theorem dJ2_getChar_3b067_53 : decode cJ2_getChar_3b067 53 = .ok (.getstatic 63, 3) := by decide +kernel
theorem dJ2_getChar_3b067_56 : decode cJ2_getChar_3b067 56 = .ok (.ishl, 1) := by decide +kernel
theorem dJ2_getChar_3b067_57 : decode cJ2_getChar_3b067 57 = .ok (.ior, 1) := by decide +kernel
theorem dJ2_getChar_3b067_58 : decode cJ2_getChar_3b067 58 = .ok (.i2c, 1) := by decide +kernel
theorem dJ2_getChar_3b067_59 : decode cJ2_getChar_3b067 59 = .ok (.ireturn, 1) := by decide +kernel
theorem dJ2_length_9d52b_0 : decode cJ2_length_9d52b 0 = .ok (.aload_n 0, 1) := by decide +kernel
theorem dJ2_length_9d52b_1 : decode cJ2_length_9d52b 1 = .ok (.arraylength, 1) := by decide +kernel
theorem dJ2_length_9d52b_2 : decode cJ2_length_9d52b 2 = .ok (.iconst 1, 1) := by decide +kernel
theorem dJ2_length_9d52b_3 : decode cJ2_length_9d52b 3 = .ok (.ishr, 1) := by decide +kernel
theorem dJ2_length_9d52b_4 : decode cJ2_length_9d52b 4 = .ok (.ireturn, 1) := by decide +kernel
set_option maxRecDepth 20000 in
theorem ggJ2_fillNull_b72d1_J7_fill_eb02e : GoodIn wsJ2_fillNull_b72d1 wsJ7_fill_eb02e := goodIn_r _ [4, 5, 6, 3, 7] (by decide +kernel) (by decide +kernel)
set_option maxRecDepth 20000 in
theorem gJ2_fillNull_b72d1_J7_fill_eb02e : GoodIn wsJ2_fillNull_b72d1 (va_wsS RJ2 380 yJ7_fill_eb02e wsJ7_fill_eb02e) := goodIn_app (goodIn_of _ (by decide +kernel)) ggJ2_fillNull_b72d1_J7_fill_eb02e
theorem dJ2_fillNull_b72d1_0 : decode cJ2_fillNull_b72d1 0 = .ok (.aload_n 0, 1) := by decide +kernel
theorem dJ2_fillNull_b72d1_1 : decode cJ2_fillNull_b72d1 1 = .ok (.iload_n 1, 1) := by decide +kernel
theorem dJ2_fillNull_b72d1_2 : decode cJ2_fillNull_b72d1 2 = .ok (.iconst 1, 1) := by decide +kernel
theorem dJ2_fillNull_b72d1_3 : decode cJ2_fillNull_b72d1 3 = .ok (.ishl, 1) := by decide +kernel
theorem dJ2_fillNull_b72d1_4 : decode cJ2_fillNull_b72d1 4 = .ok (.iload_n 2, 1) := by decide +kernel
theorem dJ2_fillNull_b72d1_5 : decode cJ2_fillNull_b72d1 5 = .ok (.iconst 1, 1) := by decide +kernel
theorem dJ2_fillNull_b72d1_6 : decode cJ2_fillNull_b72d1 6 = .ok (.ishl, 1) := by decide +kernel
theorem dJ2_fillNull_b72d1_7 : decode cJ2_fillNull_b72d1 7 = .ok (.iconst 0, 1) := by decide +kernel
theorem dJ2_fillNull_b72d1_8 : decode cJ2_fillNull_b72d1 8 = .ok (.invokestatic 380, 3) := by decide +kernel
theorem dJ2_fillNull_b72d1_11 : decode cJ2_fillNull_b72d1 11 = .ok (.return_, 1) := by decide +kernel
set_option maxRecDepth 20000 in
theorem ggJ2_putCharSB_b72d1_J2_checkIndex_2214a : GoodIn wsJ2_putCharSB_b72d1 wsJ2_checkIndex_2214a := goodIn_r _ [4, 5, 6, 3, 7, 8, 9, 10, 11, 12, 13, 14, 15, 16] (by decide +kernel) (by decide +kernel)
set_option maxRecDepth 20000 in
theorem gJ2_putCharSB_b72d1_J2_checkIndex_2214a : GoodIn wsJ2_putCharSB_b72d1 (va_wsS RJ2 67 yJ2_checkIndex_2214a wsJ2_checkIndex_2214a) := goodIn_app (goodIn_of _ (by decide +kernel)) ggJ2_putCharSB_b72d1_J2_checkIndex_2214a
set_option maxRecDepth 20000 in
theorem ggJ2_putCharSB_b72d1_J2_putChar_b72d1 : GoodIn wsJ2_putCharSB_b72d1 wsJ2_putChar_b72d1 := goodIn_r _ [19, 20, 21, 22, 5, 6, 3, 7] (by decide +kernel) (by decide +kernel)
set_option maxRecDepth 20000 in
theorem gJ2_putCharSB_b72d1_J2_putChar_b72d1 : GoodIn wsJ2_putCharSB_b72d1 (va_wsS RJ2 111 yJ2_putChar_b72d1 wsJ2_putChar_b72d1) := goodIn_app (goodIn_of _ (by decide +kernel)) ggJ2_putCharSB_b72d1_J2_putChar_b72d1
theorem dJ2_putCharSB_b72d1_0 : decode cJ2_putCharSB_b72d1 0 = .ok (.iload_n 1, 1) := by decide +kernel
theorem dJ2_putCharSB_b72d1_1 : decode cJ2_putCharSB_b72d1 1 = .ok (.aload_n 0, 1) := by decide +kernel
theorem dJ2_putCharSB_b72d1_2 : decode cJ2_putCharSB_b72d1 2 = .ok (.invokestatic 67, 3) := by decide +kernel
theorem dJ2_putCharSB_b72d1_5 : decode cJ2_putCharSB_b72d1 5 = .ok (.aload_n 0, 1) := by decide +kernel
theorem dJ2_putCharSB_b72d1_6 : decode cJ2_putCharSB_b72d1 6 = .ok (.iload_n 1, 1) := by decide +kernel
theorem dJ2_putCharSB_b72d1_7 : decode cJ2_putCharSB_b72d1 7 = .ok (.iload_n 2, 1) := by decide +kernel
theorem dJ2_putCharSB_b72d1_8 : decode cJ2_putCharSB_b72d1 8 = .ok (.invokestatic 111, 3) := by decide +kernel
theorem dJ2_putCharSB_b72d1_11 : decode cJ2_putCharSB_b72d1 11 = .ok (.return_, 1) := by decide +kernel
set_option maxRecDepth 20000 in
theorem ggJ2_getChars_46870_J2_checkBoundsBeginEnd_d044e : GoodIn wsJ2_getChars_46870 wsJ2_checkBoundsBeginEnd_d044e := goodIn_r _ [5, 6, 7, 4, 8, 9, 10, 11, 12, 13, 14, 15, 16, 17] (by decide +kernel) (by decide +kernel)
set_option maxRecDepth 20000 in
theorem gJ2_getChars_46870_J2_checkBoundsBeginEnd_d044e : GoodIn wsJ2_getChars_46870 (va_wsS RJ2 96 yJ2_checkBoundsBeginEnd_d044e wsJ2_checkBoundsBeginEnd_d044e) := goodIn_app (goodIn_of _ (by decide +kernel)) ggJ2_getChars_46870_J2_checkBoundsBeginEnd_d044e
set_option maxRecDepth 20000 in
theorem ggJ2_getChars_46870_J2_getChars_ba4f3 : GoodIn wsJ2_getChars_46870 wsJ2_getChars_ba4f3 := goodIn_r _ [20, 21, 22, 23, 24, 4, 25, 1, 26, 27, 6, 7, 8] (by decide +kernel) (by decide +kernel)
set_option maxRecDepth 20000 in
theorem gJ2_getChars_46870_J2_getChars_ba4f3 : GoodIn wsJ2_getChars_46870 (va_wsS RJ2 393 yJ2_getChars_ba4f3 wsJ2_getChars_ba4f3) := goodIn_app (goodIn_of _ (by decide +kernel)) ggJ2_getChars_46870_J2_getChars_ba4f3
theorem dJ2_getChars_46870_0 : decode cJ2_getChars_46870 0 = .ok (.iload_n 1, 1) := by decide +kernel
theorem dJ2_getChars_46870_1 : decode cJ2_getChars_46870 1 = .ok (.iload_n 2, 1) := by decide +kernel
theorem dJ2_getChars_46870_2 : decode cJ2_getChars_46870 2 = .ok (.aload_n 3, 1) := by decide +kernel
theorem dJ2_getChars_46870_3 : decode cJ2_getChars_46870 3 = .ok (.invokestatic 96, 3) := by decide +kernel
theorem dJ2_getChars_46870_6 : decode cJ2_getChars_46870 6 = .ok (.iload_n 0, 1) := by decide +kernel
theorem dJ2_getChars_46870_7 : decode cJ2_getChars_46870 7 = .ok (.iload_n 2, 1) := by decide +kernel
theorem dJ2_getChars_46870_8 : decode cJ2_getChars_46870 8 = .ok (.aload_n 3, 1) := by decide +kernel
theorem dJ2_getChars_46870_9 : decode cJ2_getChars_46870 9 = .ok (.invokestatic 393, 3) := by decide +kernel
theorem dJ2_getChars_46870_12 : decode cJ2_getChars_46870 12 = .ok (.istore 4, 2) := by decide +kernel
theorem dJ2_getChars_46870_14 : decode cJ2_getChars_46870 14 = .ok (.getstatic 44, 3) := by decide +kernel
theorem dJ2_getChars_46870_17 : decode cJ2_getChars_46870 17 = .ok (.ifCond .ne 17, 3) := by decide +kernel
theorem dJ2_getChars_46870_20 : decode cJ2_getChars_46870 20 = .ok (.iload_n 1, 1) := by decide +kernel
theorem dJ2_getChars_46870_21 : decode cJ2_getChars_46870 21 = .ok (.iload 4, 2) := by decide +kernel
theorem dJ2_getChars_46870_23 : decode cJ2_getChars_46870 23 = .ok (.if_icmp .eq 11, 3) := by decide +kernel
theorem dJ2_getChars_46870_26 : decode cJ2_getChars_46870 26 = .ok (.new 52, 3) := by decide +kernel
theorem dJ2_getChars_46870_29 : decode cJ2_getChars_46870 29 = .ok (.dup, 1) := by decide +kernel
theorem dJ2_getChars_46870_30 : decode cJ2_getChars_46870 30 = .ok (.invokespecial 66, 3) := by decide +kernel
theorem dJ2_getChars_46870_33 : decode cJ2_getChars_46870 33 = .ok (.athrow, 1) := by decide +kernel
theorem dJ2_getChars_46870_34 : decode cJ2_getChars_46870 34 = .ok (.iload 4, 2) := by decide +kernel
theorem dJ2_getChars_46870_36 : decode cJ2_getChars_46870 36 = .ok (.ireturn, 1) := by decide +kernel
set_option maxRecDepth 20000 in
theorem ggJ2_putCharsAt_cd4e5_J2_checkBoundsBeginEnd_d044e : GoodIn wsJ2_putCharsAt_cd4e5 wsJ2_checkBoundsBeginEnd_d044e := goodIn_r _ [5, 6, 7, 4, 8, 9, 10, 11, 12, 13, 14, 15, 16, 17] (by decide +kernel) (by decide +kernel)
set_option maxRecDepth 20000 in
theorem gJ2_putCharsAt_cd4e5_J2_checkBoundsBeginEnd_d044e : GoodIn wsJ2_putCharsAt_cd4e5 (va_wsS RJ2 96 yJ2_checkBoundsBeginEnd_d044e wsJ2_checkBoundsBeginEnd_d044e) := goodIn_app (goodIn_of _ (by decide +kernel)) ggJ2_putCharsAt_cd4e5_J2_checkBoundsBeginEnd_d044e
set_option maxRecDepth 20000 in
theorem ggJ2_putCharsAt_cd4e5_J2_putChar_b72d1 : GoodIn wsJ2_putCharsAt_cd4e5 wsJ2_putChar_b72d1 := goodIn_r _ [20, 1, 21, 22, 6, 7, 4, 8] (by decide +kernel) (by decide +kernel)
set_option maxRecDepth 20000 in
theorem gJ2_putCharsAt_cd4e5_J2_putChar_b72d1 : GoodIn wsJ2_putCharsAt_cd4e5 (va_wsS RJ2 111 yJ2_putChar_b72d1 wsJ2_putChar_b72d1) := goodIn_app (goodIn_of _ (by decide +kernel)) ggJ2_putCharsAt_cd4e5_J2_putChar_b72d1
theorem dJ2_putCharsAt_cd4e5_0 : decode cJ2_putCharsAt_cd4e5 0 = .ok (.iload_n 1, 1) := by decide +kernel
theorem dJ2_putCharsAt_cd4e5_1 : decode cJ2_putCharsAt_cd4e5 1 = .ok (.iconst 4, 1) := by decide +kernel
theorem dJ2_putCharsAt_cd4e5_2 : decode cJ2_putCharsAt_cd4e5 2 = .ok (.iadd, 1) := by decide +kernel
theorem dJ2_putCharsAt_cd4e5_3 : decode cJ2_putCharsAt_cd4e5 3 = .ok (.istore 6, 2) := by decide +kernel
theorem dJ2_putCharsAt_cd4e5_5 : decode cJ2_putCharsAt_cd4e5 5 = .ok (.iload_n 1, 1) := by decide +kernel
theorem dJ2_putCharsAt_cd4e5_6 : decode cJ2_putCharsAt_cd4e5 6 = .ok (.iload 6, 2) := by decide +kernel
theorem dJ2_putCharsAt_cd4e5_8 : decode cJ2_putCharsAt_cd4e5 8 = .ok (.aload_n 0, 1) := by decide +kernel
theorem dJ2_putCharsAt_cd4e5_9 : decode cJ2_putCharsAt_cd4e5 9 = .ok (.invokestatic 96, 3) := by decide +kernel
theorem dJ2_putCharsAt_cd4e5_12 : decode cJ2_putCharsAt_cd4e5 12 = .ok (.aload_n 0, 1) := by decide +kernel
theorem dJ2_putCharsAt_cd4e5_13 : decode cJ2_putCharsAt_cd4e5 13 = .ok (.iload_n 1, 1) := by decide +kernel
theorem dJ2_putCharsAt_cd4e5_14 : decode cJ2_putCharsAt_cd4e5 14 = .ok (.iinc 1 1, 3) := by decide +kernel
theorem dJ2_putCharsAt_cd4e5_17 : decode cJ2_putCharsAt_cd4e5 17 = .ok (.iload_n 2, 1) := by decide +kernel
theorem dJ2_putCharsAt_cd4e5_18 : decode cJ2_putCharsAt_cd4e5 18 = .ok (.invokestatic 111, 3) := by decide +kernel
theorem dJ2_putCharsAt_cd4e5_21 : decode cJ2_putCharsAt_cd4e5 21 = .ok (.aload_n 0, 1) := by decide +kernel
theorem dJ2_putCharsAt_cd4e5_22 : decode cJ2_putCharsAt_cd4e5 22 = .ok (.iload_n 1, 1) := by decide +kernel
theorem dJ2_putCharsAt_cd4e5_23 : decode cJ2_putCharsAt_cd4e5 23 = .ok (.iinc 1 1, 3) := by decide +kernel
theorem dJ2_putCharsAt_cd4e5_26 : decode cJ2_putCharsAt_cd4e5 26 = .ok (.iload_n 3, 1) := by decide +kernel
theorem dJ2_putCharsAt_cd4e5_27 : decode cJ2_putCharsAt_cd4e5 27 = .ok (.invokestatic 111, 3) := by decide +kernel
theorem dJ2_putCharsAt_cd4e5_30 : decode cJ2_putCharsAt_cd4e5 30 = .ok (.aload_n 0, 1) := by decide +kernel
theorem dJ2_putCharsAt_cd4e5_31 : decode cJ2_putCharsAt_cd4e5 31 = .ok (.iload_n 1, 1) := by decide +kernel
theorem dJ2_putCharsAt_cd4e5_32 : decode cJ2_putCharsAt_cd4e5 32 = .ok (.iinc 1 1, 3) := by decide +kernel
theorem dJ2_putCharsAt_cd4e5_35 : decode cJ2_putCharsAt_cd4e5 35 = .ok (.iload 4, 2) := by decide +kernel
theorem dJ2_putCharsAt_cd4e5_37 : decode cJ2_putCharsAt_cd4e5 37 = .ok (.invokestatic 111, 3) := by decide +kernel
theorem dJ2_putCharsAt_cd4e5_40 : decode cJ2_putCharsAt_cd4e5 40 = .ok (.aload_n 0, 1) := by decide +kernel
theorem dJ2_putCharsAt_cd4e5_41 : decode cJ2_putCharsAt_cd4e5 41 = .ok (.iload_n 1, 1) := by decide +kernel
theorem dJ2_putCharsAt_cd4e5_42 : decode cJ2_putCharsAt_cd4e5 42 = .ok (.iinc 1 1, 3) := by decide +kernel
theorem dJ2_putCharsAt_cd4e5_45 : decode cJ2_putCharsAt_cd4e5 45 = .ok (.iload 5, 2) := by decide +kernel
theorem dJ2_putCharsAt_cd4e5_47 : decode cJ2_putCharsAt_cd4e5 47 = .ok (.invokestatic 111, 3) := by decide +kernel
theorem dJ2_putCharsAt_cd4e5_50 : decode cJ2_putCharsAt_cd4e5 50 = .ok (.getstatic 44, 3) := by decide +kernel
theorem dJ2_putCharsAt_cd4e5_53 : decode cJ2_putCharsAt_cd4e5 53 = .ok (.ifCond .ne 17, 3) := by decide +kernel
theorem dJ2_putCharsAt_cd4e5_56 : decode cJ2_putCharsAt_cd4e5 56 = .ok (.iload_n 1, 1) := by decide +kernel
theorem dJ2_putCharsAt_cd4e5_57 : decode cJ2_putCharsAt_cd4e5 57 = .ok (.iload 6, 2) := by decide +kernel
theorem dJ2_putCharsAt_cd4e5_59 : decode cJ2_putCharsAt_cd4e5 59 = .ok (.if_icmp .eq 11, 3) := by decide +kernel
theorem dJ2_putCharsAt_cd4e5_62 : decode cJ2_putCharsAt_cd4e5 62 = .ok (.new 52, 3) := by decide +kernel
theorem dJ2_putCharsAt_cd4e5_65 : decode cJ2_putCharsAt_cd4e5 65 = .ok (.dup, 1) := by decide +kernel
theorem dJ2_putCharsAt_cd4e5_66 : decode cJ2_putCharsAt_cd4e5 66 = .ok (.invokespecial 66, 3) := by decide +kernel
theorem dJ2_putCharsAt_cd4e5_69 : decode cJ2_putCharsAt_cd4e5 69 = .ok (.athrow, 1) := by decide +kernel
theorem dJ2_putCharsAt_cd4e5_70 : decode cJ2_putCharsAt_cd4e5 70 = .ok (.iload 6, 2) := by decide +kernel
theorem dJ2_putCharsAt_cd4e5_72 : decode cJ2_putCharsAt_cd4e5 72 = .ok (.ireturn, 1) := by decide +kernel
set_option maxRecDepth 20000 in
theorem ggJ2_charAt_3b067_J2_checkIndex_2214a : GoodIn wsJ2_charAt_3b067 wsJ2_checkIndex_2214a := goodIn_r _ [4, 5, 6, 3, 7, 8, 9, 10, 11, 12, 13, 14, 15, 16] (by decide +kernel) (by decide +kernel)
set_option maxRecDepth 20000 in
theorem gJ2_charAt_3b067_J2_checkIndex_2214a : GoodIn wsJ2_charAt_3b067 (va_wsS RJ2 67 yJ2_checkIndex_2214a wsJ2_checkIndex_2214a) := goodIn_app (goodIn_of _ (by decide +kernel)) ggJ2_charAt_3b067_J2_checkIndex_2214a
set_option maxRecDepth 20000 in
theorem ggJ2_charAt_3b067_J2_getChar_3b067 : GoodIn wsJ2_charAt_3b067 wsJ2_getChar_3b067 := goodIn_r _ [19, 20, 21, 22, 5, 6, 3, 7] (by decide +kernel) (by decide +kernel)
set_option maxRecDepth 20000 in
theorem gJ2_charAt_3b067_J2_getChar_3b067 : GoodIn wsJ2_charAt_3b067 (va_wsS RJ2 71 yJ2_getChar_3b067 wsJ2_getChar_3b067) := goodIn_app (goodIn_of _ (by decide +kernel)) ggJ2_charAt_3b067_J2_getChar_3b067
theorem dJ2_charAt_3b067_0 : decode cJ2_charAt_3b067 0 = .ok (.iload_n 1, 1) := by decide +kernel
theorem dJ2_charAt_3b067_1 : decode cJ2_charAt_3b067 1 = .ok (.aload_n 0, 1) := by decide +kernel
theorem dJ2_charAt_3b067_2 : decode cJ2_charAt_3b067 2 = .ok (.invokestatic 67, 3) := by decide +kernel
theorem dJ2_charAt_3b067_5 : decode cJ2_charAt_3b067 5 = .ok (.aload_n 0, 1) := by decide +kernel
theorem dJ2_charAt_3b067_6 : decode cJ2_charAt_3b067 6 = .ok (.iload_n 1, 1) := by decide +kernel
theorem dJ2_charAt_3b067_7 : decode cJ2_charAt_3b067 7 = .ok (.invokestatic 71, 3) := by decide +kernel
theorem dJ2_charAt_3b067_10 : decode cJ2_charAt_3b067 10 = .ok (.ireturn, 1) := by decide +kernel
set_option maxRecDepth 20000 in
theorem ggJ2_inflate_0e8fd_J2_checkBoundsOffCount_d044e : GoodIn wsJ2_inflate_0e8fd wsJ2_checkBoundsOffCount_d044e := goodIn_r _ [4, 5, 6, 3, 7, 8, 9, 10, 11, 12, 13, 14, 15, 16] (by decide +kernel) (by decide +kernel)
set_option maxRecDepth 20000 in
theorem gJ2_inflate_0e8fd_J2_checkBoundsOffCount_d044e : GoodIn wsJ2_inflate_0e8fd (va_wsS RJ2 173 yJ2_checkBoundsOffCount_d044e wsJ2_checkBoundsOffCount_d044e) := goodIn_app (goodIn_of _ (by decide +kernel)) ggJ2_inflate_0e8fd_J2_checkBoundsOffCount_d044e
set_option maxRecDepth 20000 in
theorem ggJ2_inflate_0e8fd_J2_putChar_b72d1 : GoodIn wsJ2_inflate_0e8fd wsJ2_putChar_b72d1 := goodIn_r _ [19, 20, 21, 22, 5, 6, 3, 7] (by decide +kernel) (by decide +kernel)
set_option maxRecDepth 20000 in
theorem gJ2_inflate_0e8fd_J2_putChar_b72d1 : GoodIn wsJ2_inflate_0e8fd (va_wsS RJ2 111 yJ2_putChar_b72d1 wsJ2_putChar_b72d1) := goodIn_app (goodIn_of _ (by decide +kernel)) ggJ2_inflate_0e8fd_J2_putChar_b72d1
theorem dJ2_inflate_0e8fd_0 : decode cJ2_inflate_0e8fd 0 = .ok (.iload_n 3, 1) := by decide +kernel
theorem dJ2_inflate_0e8fd_1 : decode cJ2_inflate_0e8fd 1 = .ok (.iload 4, 2) := by decide +kernel
theorem dJ2_inflate_0e8fd_3 : decode cJ2_inflate_0e8fd 3 = .ok (.aload_n 2, 1) := by decide +kernel
theorem dJ2_inflate_0e8fd_4 : decode cJ2_inflate_0e8fd 4 = .ok (.invokestatic 173, 3) := by decide +kernel
theorem dJ2_inflate_0e8fd_7 : decode cJ2_inflate_0e8fd 7 = .ok (.iconst 0, 1) := by decide +kernel
theorem dJ2_inflate_0e8fd_8 : decode cJ2_inflate_0e8fd 8 = .ok (.istore 5, 2) := by decide +kernel
theorem dJ2_inflate_0e8fd_10 : decode cJ2_inflate_0e8fd 10 = .ok (.iload 5, 2) := by decide +kernel
theorem dJ2_inflate_0e8fd_12 : decode cJ2_inflate_0e8fd 12 = .ok (.iload 4, 2) := by decide +kernel
theorem dJ2_inflate_0e8fd_14 : decode cJ2_inflate_0e8fd 14 = .ok (.if_icmp .ge 27, 3) := by decide +kernel
theorem dJ2_inflate_0e8fd_17 : decode cJ2_inflate_0e8fd 17 = .ok (.aload_n 2, 1) := by decide +kernel
theorem dJ2_inflate_0e8fd_18 : decode cJ2_inflate_0e8fd 18 = .ok (.iload_n 3, 1) := by decide +kernel
theorem dJ2_inflate_0e8fd_19 : decode cJ2_inflate_0e8fd 19 = .ok (.iinc 3 1, 3) := by decide +kernel
theorem dJ2_inflate_0e8fd_22 : decode cJ2_inflate_0e8fd 22 = .ok (.aload_n 0, 1) := by decide +kernel
theorem dJ2_inflate_0e8fd_23 : decode cJ2_inflate_0e8fd 23 = .ok (.iload_n 1, 1) := by decide +kernel
theorem dJ2_inflate_0e8fd_24 : decode cJ2_inflate_0e8fd 24 = .ok (.iinc 1 1, 3) := by decide +kernel
theorem dJ2_inflate_0e8fd_27 : decode cJ2_inflate_0e8fd 27 = .ok (.baload, 1) := by decide +kernel
theorem dJ2_inflate_0e8fd_28 : decode cJ2_inflate_0e8fd 28 = .ok (.sipush 255, 3) := by decide +kernel
theorem dJ2_inflate_0e8fd_31 : decode cJ2_inflate_0e8fd 31 = .ok (.iand, 1) := by decide +kernel
theorem dJ2_inflate_0e8fd_32 : decode cJ2_inflate_0e8fd 32 = .ok (.invokestatic 111, 3) := by decide +kernel
theorem dJ2_inflate_0e8fd_35 : decode cJ2_inflate_0e8fd 35 = .ok (.iinc 5 1, 3) := by decide +kernel
theorem dJ2_inflate_0e8fd_38 : decode cJ2_inflate_0e8fd 38 = .ok (.goto (-28), 3) := by decide +kernel
theorem dJ2_inflate_0e8fd_41 : decode cJ2_inflate_0e8fd 41 = .ok (.return_, 1) := by decide +kernel
set_option maxRecDepth 20000 in
theorem ggJ2_getChars_ba4f3_J2_putChar_b72d1 : GoodIn wsJ2_getChars_ba4f3 wsJ2_putChar_b72d1 := goodIn_r _ [6, 7, 8, 9, 10, 11, 5, 12] (by decide +kernel) (by decide +kernel)
set_option maxRecDepth 20000 in
theorem gJ2_getChars_ba4f3_J2_putChar_b72d1 : GoodIn wsJ2_getChars_ba4f3 (va_wsS RJ2 111 yJ2_putChar_b72d1 wsJ2_putChar_b72d1) := goodIn_app (goodIn_of _ (by decide +kernel)) ggJ2_getChars_ba4f3_J2_putChar_b72d1
theorem dJ2_getChars_ba4f3_0 : decode cJ2_getChars_ba4f3 0 = .ok (.iload_n 1, 1) := by decide +kernel
theorem dJ2_getChars_ba4f3_1 : decode cJ2_getChars_ba4f3 1 = .ok (.istore 5, 2) := by decide +kernel
theorem dJ2_getChars_ba4f3_3 : decode cJ2_getChars_ba4f3 3 = .ok (.iload_n 0, 1) := by decide +kernel
theorem dJ2_getChars_ba4f3_4 : decode cJ2_getChars_ba4f3 4 = .ok (.ifCond .ge 7, 3) := by decide +kernel
theorem dJ2_getChars_ba4f3_7 : decode cJ2_getChars_ba4f3 7 = .ok (.iconst 1, 1) := by decide +kernel
theorem dJ2_getChars_ba4f3_8 : decode cJ2_getChars_ba4f3 8 = .ok (.goto 4, 3) := by decide +kernel
theorem dJ2_getChars_ba4f3_11 : decode cJ2_getChars_ba4f3 11 = .ok (.iconst 0, 1) := by decide +kernel
theorem dJ2_getChars_ba4f3_12 : decode cJ2_getChars_ba4f3 12 = .ok (.istore 6, 2) := by decide +kernel
theorem dJ2_getChars_ba4f3_14 : decode cJ2_getChars_ba4f3 14 = .ok (.iload 6, 2) := by decide +kernel
theorem dJ2_getChars_ba4f3_16 : decode cJ2_getChars_ba4f3 16 = .ok (.ifCond .ne 6, 3) := by decide +kernel
theorem dJ2_getChars_ba4f3_19 : decode cJ2_getChars_ba4f3 19 = .ok (.iload_n 0, 1) := by decide +kernel
theorem dJ2_getChars_ba4f3_20 : decode cJ2_getChars_ba4f3 20 = .ok (.ineg, 1) := by decide +kernel
theorem dJ2_getChars_ba4f3_21 : decode cJ2_getChars_ba4f3 21 = .ok (.istore_n 0, 1) := by decide +kernel
theorem dJ2_getChars_ba4f3_22 : decode cJ2_getChars_ba4f3 22 = .ok (.iload_n 0, 1) := by decide +kernel
theorem dJ2_getChars_ba4f3_23 : decode cJ2_getChars_ba4f3 23 = .ok (.bipush (-100), 2) := by decide +kernel
theorem dJ2_getChars_ba4f3_25 : decode cJ2_getChars_ba4f3 25 = .ok (.if_icmp .gt 51, 3) := by decide +kernel
theorem dJ2_getChars_ba4f3_28 : decode cJ2_getChars_ba4f3 28 = .ok (.iload_n 0, 1) := by decide +kernel
theorem dJ2_getChars_ba4f3_29 : decode cJ2_getChars_ba4f3 29 = .ok (.bipush 100, 2) := by decide +kernel
theorem dJ2_getChars_ba4f3_31 : decode cJ2_getChars_ba4f3 31 = .ok (.idiv, 1) := by decide +kernel
theorem dJ2_getChars_ba4f3_32 : decode cJ2_getChars_ba4f3 32 = .ok (.istore_n 3, 1) := by decide +kernel
theorem dJ2_getChars_ba4f3_33 : decode cJ2_getChars_ba4f3 33 = .ok (.iload_n 3, 1) := by decide +kernel
theorem dJ2_getChars_ba4f3_34 : decode cJ2_getChars_ba4f3 34 = .ok (.bipush 100, 2) := by decide +kernel
theorem dJ2_getChars_ba4f3_36 : decode cJ2_getChars_ba4f3 36 = .ok (.imul, 1) := by decide +kernel
theorem dJ2_getChars_ba4f3_37 : decode cJ2_getChars_ba4f3 37 = .ok (.iload_n 0, 1) := by decide +kernel
theorem dJ2_getChars_ba4f3_38 : decode cJ2_getChars_ba4f3 38 = .ok (.isub, 1) := by decide +kernel
theorem dJ2_getChars_ba4f3_39 : decode cJ2_getChars_ba4f3 39 = .ok (.istore 4, 2) := by decide +kernel
theorem dJ2_getChars_ba4f3_41 : decode cJ2_getChars_ba4f3 41 = .ok (.iload_n 3, 1) := by decide +kernel
theorem dJ2_getChars_ba4f3_42 : decode cJ2_getChars_ba4f3 42 = .ok (.istore_n 0, 1) := by decide +kernel
theorem dJ2_getChars_ba4f3_43 : decode cJ2_getChars_ba4f3 43 = .ok (.aload_n 2, 1) := by decide +kernel
theorem dJ2_getChars_ba4f3_44 : decode cJ2_getChars_ba4f3 44 = .ok (.iinc 5 (-1), 3) := by decide +kernel
theorem dJ2_getChars_ba4f3_47 : decode cJ2_getChars_ba4f3 47 = .ok (.iload 5, 2) := by decide +kernel
theorem dJ2_getChars_ba4f3_49 : decode cJ2_getChars_ba4f3 49 = .ok (.getstatic 403, 3) := by decide +kernel
theorem dJ2_getChars_ba4f3_52 : decode cJ2_getChars_ba4f3 52 = .ok (.iload 4, 2) := by decide +kernel
theorem dJ2_getChars_ba4f3_54 : decode cJ2_getChars_ba4f3 54 = .ok (.baload, 1) := by decide +kernel
theorem dJ2_getChars_ba4f3_55 : decode cJ2_getChars_ba4f3 55 = .ok (.invokestatic 111, 3) := by decide +kernel
theorem dJ2_getChars_ba4f3_58 : decode cJ2_getChars_ba4f3 58 = .ok (.aload_n 2, 1) := by decide +kernel
theorem dJ2_getChars_ba4f3_59 : decode cJ2_getChars_ba4f3 59 = .ok (.iinc 5 (-1), 3) := by decide +kernel
theorem dJ2_getChars_ba4f3_62 : decode cJ2_getChars_ba4f3 62 = .ok (.iload 5, 2) := by decide +kernel
theorem dJ2_getChars_ba4f3_64 : decode cJ2_getChars_ba4f3 64 = .ok (.getstatic 407, 3) := by decide +kernel
theorem dJ2_getChars_ba4f3_67 : decode cJ2_getChars_ba4f3 67 = .ok (.iload 4, 2) := by decide +kernel
theorem dJ2_getChars_ba4f3_69 : decode cJ2_getChars_ba4f3 69 = .ok (.baload, 1) := by decide +kernel
theorem dJ2_getChars_ba4f3_70 : decode cJ2_getChars_ba4f3 70 = .ok (.invokestatic 111, 3) := by decide +kernel
theorem dJ2_getChars_ba4f3_73 : decode cJ2_getChars_ba4f3 73 = .ok (.goto (-51), 3) := by decide +kernel
theorem dJ2_getChars_ba4f3_76 : decode cJ2_getChars_ba4f3 76 = .ok (.aload_n 2, 1) := by decide +kernel
theorem dJ2_getChars_ba4f3_77 : decode cJ2_getChars_ba4f3 77 = .ok (.iinc 5 (-1), 3) := by decide +kernel
theorem dJ2_getChars_ba4f3_80 : decode cJ2_getChars_ba4f3 80 = .ok (.iload 5, 2) := by decide +kernel
theorem dJ2_getChars_ba4f3_82 : decode cJ2_getChars_ba4f3 82 = .ok (.getstatic 403, 3) := by decide +kernel
theorem dJ2_getChars_ba4f3_85 : decode cJ2_getChars_ba4f3 85 = .ok (.iload_n 0, 1) := by decide +kernel
theorem dJ2_getChars_ba4f3_86 : decode cJ2_getChars_ba4f3 86 = .ok (.ineg, 1) := by decide +kernel
theorem dJ2_getChars_ba4f3_87 : decode cJ2_getChars_ba4f3 87 = .ok (.baload, 1) := by decide +kernel
theorem dJ2_getChars_ba4f3_88 : decode cJ2_getChars_ba4f3 88 = .ok (.invokestatic 111, 3) := by decide +kernel
theorem dJ2_getChars_ba4f3_91 : decode cJ2_getChars_ba4f3 91 = .ok (.iload_n 0, 1) := by decide +kernel
theorem dJ2_getChars_ba4f3_92 : decode cJ2_getChars_ba4f3 92 = .ok (.bipush (-9), 2) := by decide +kernel
theorem dJ2_getChars_ba4f3_94 : decode cJ2_getChars_ba4f3 94 = .ok (.if_icmp .ge 18, 3) := by decide +kernel
theorem dJ2_getChars_ba4f3_97 : decode cJ2_getChars_ba4f3 97 = .ok (.aload_n 2, 1) := by decide +kernel
theorem dJ2_getChars_ba4f3_98 : decode cJ2_getChars_ba4f3 98 = .ok (.iinc 5 (-1), 3) := by decide +kernel
theorem dJ2_getChars_ba4f3_101 : decode cJ2_getChars_ba4f3 101 = .ok (.iload 5, 2) := by decide +kernel
theorem dJ2_getChars_ba4f3_103 : decode cJ2_getChars_ba4f3 103 = .ok (.getstatic 407, 3) := by decide +kernel
theorem dJ2_getChars_ba4f3_106 : decode cJ2_getChars_ba4f3 106 = .ok (.iload_n 0, 1) := by decide +kernel
theorem dJ2_getChars_ba4f3_107 : decode cJ2_getChars_ba4f3 107 = .ok (.ineg, 1) := by decide +kernel
theorem dJ2_getChars_ba4f3_108 : decode cJ2_getChars_ba4f3 108 = .ok (.baload, 1) := by decide +kernel
theorem dJ2_getChars_ba4f3_109 : decode cJ2_getChars_ba4f3 109 = .ok (.invokestatic 111, 3) := by decide +kernel
theorem dJ2_getChars_ba4f3_112 : decode cJ2_getChars_ba4f3 112 = .ok (.iload 6, 2) := by decide +kernel
theorem dJ2_getChars_ba4f3_114 : decode cJ2_getChars_ba4f3 114 = .ok (.ifCond .eq 14, 3) := by decide +kernel
theorem dJ2_getChars_ba4f3_117 : decode cJ2_getChars_ba4f3 117 = .ok (.aload_n 2, 1) := by decide +kernel
theorem dJ2_getChars_ba4f3_118 : decode cJ2_getChars_ba4f3 118 = .ok (.iinc 5 (-1), 3) := by decide +kernel
theorem dJ2_getChars_ba4f3_121 : decode cJ2_getChars_ba4f3 121 = .ok (.iload 5, 2) := by decide +kernel
theorem dJ2_getChars_ba4f3_123 : decode cJ2_getChars_ba4f3 123 = .ok (.bipush 45, 2) := by decide +kernel
theorem dJ2_getChars_ba4f3_125 : decode cJ2_getChars_ba4f3 125 = .ok (.invokestatic 111, 3) := by decide +kernel
theorem dJ2_getChars_ba4f3_128 : decode cJ2_getChars_ba4f3 128 = .ok (.iload 5, 2) := by decide +kernel
theorem dJ2_getChars_ba4f3_130 : decode cJ2_getChars_ba4f3 130 = .ok (.ireturn, 1) := by decide +kernel
set_option maxRecDepth 20000 in
theorem ggJ2_checkIndex_2214a_J2_length_9d52b : GoodIn wsJ2_checkIndex_2214a wsJ2_length_9d52b := goodIn_r _ [4] (by decide +kernel) (by decide +kernel)
set_option maxRecDepth 20000 in
theorem gJ2_checkIndex_2214a_J2_length_9d52b : GoodIn wsJ2_checkIndex_2214a (va_wsS RJ2 48 yJ2_length_9d52b wsJ2_length_9d52b) := goodIn_app (goodIn_of _ (by decide +kernel)) ggJ2_checkIndex_2214a_J2_length_9d52b
set_option maxRecDepth 20000 in
theorem ggJ2_checkIndex_2214a_J0_checkIndex_df160 : GoodIn wsJ2_checkIndex_2214a wsJ0_checkIndex_df160 := goodIn_r _ [8, 9, 10, 11, 12, 13] (by decide +kernel) (by decide +kernel)
set_option maxRecDepth 20000 in
theorem gJ2_checkIndex_2214a_J0_checkIndex_df160 : GoodIn wsJ2_checkIndex_2214a (va_wsS RJ2 414 yJ0_checkIndex_df160 wsJ0_checkIndex_df160) := goodIn_app (goodIn_of _ (by decide +kernel)) ggJ2_checkIndex_2214a_J0_checkIndex_df160
theorem dJ2_checkIndex_2214a_0 : decode cJ2_checkIndex_2214a 0 = .ok (.iload_n 0, 1) := by decide +kernel
theorem dJ2_checkIndex_2214a_1 : decode cJ2_checkIndex_2214a 1 = .ok (.aload_n 1, 1) := by decide +kernel
theorem dJ2_checkIndex_2214a_2 : decode cJ2_checkIndex_2214a 2 = .ok (.invokestatic 48, 3) := by decide +kernel
theorem dJ2_checkIndex_2214a_5 : decode cJ2_checkIndex_2214a 5 = .ok (.invokestatic 414, 3) := by decide +kernel
theorem dJ2_checkIndex_2214a_8 : decode cJ2_checkIndex_2214a 8 = .ok (.return_, 1) := by decide +kernel
set_option maxRecDepth 20000 in
theorem ggJ2_checkBoundsBeginEnd_d044e_J2_length_9d52b : GoodIn wsJ2_checkBoundsBeginEnd_d044e wsJ2_length_9d52b := goodIn_r _ [4] (by decide +kernel) (by decide +kernel)
set_option maxRecDepth 20000 in
theorem gJ2_checkBoundsBeginEnd_d044e_J2_length_9d52b : GoodIn wsJ2_checkBoundsBeginEnd_d044e (va_wsS RJ2 48 yJ2_length_9d52b wsJ2_length_9d52b) := goodIn_app (goodIn_of _ (by decide +kernel)) ggJ2_checkBoundsBeginEnd_d044e_J2_length_9d52b
set_option maxRecDepth 20000 in
theorem ggJ2_checkBoundsBeginEnd_d044e_J0_checkBoundsBeginEnd_23922 : GoodIn wsJ2_checkBoundsBeginEnd_d044e wsJ0_checkBoundsBeginEnd_23922 := goodIn_r _ [8, 9, 10, 11, 12, 13] (by decide +kernel) (by decide +kernel)
set_option maxRecDepth 20000 in
theorem gJ2_checkBoundsBeginEnd_d044e_J0_checkBoundsBeginEnd_23922 : GoodIn wsJ2_checkBoundsBeginEnd_d044e (va_wsS RJ2 241 yJ0_checkBoundsBeginEnd_23922 wsJ0_checkBoundsBeginEnd_23922) := goodIn_app (goodIn_of _ (by decide +kernel)) ggJ2_checkBoundsBeginEnd_d044e_J0_checkBoundsBeginEnd_23922
theorem dJ2_checkBoundsBeginEnd_d044e_0 : decode cJ2_checkBoundsBeginEnd_d044e 0 = .ok (.iload_n 0, 1) := by decide +kernel
theorem dJ2_checkBoundsBeginEnd_d044e_1 : decode cJ2_checkBoundsBeginEnd_d044e 1 = .ok (.iload_n 1, 1) := by decide +kernel
theorem dJ2_checkBoundsBeginEnd_d044e_2 : decode cJ2_checkBoundsBeginEnd_d044e 2 = .ok (.aload_n 2, 1) := by decide +kernel
theorem dJ2_checkBoundsBeginEnd_d044e_3 : decode cJ2_checkBoundsBeginEnd_d044e 3 = .ok (.invokestatic 48, 3) := by decide +kernel
theorem dJ2_checkBoundsBeginEnd_d044e_6 : decode cJ2_checkBoundsBeginEnd_d044e 6 = .ok (.invokestatic 241, 3) := by decide +kernel
theorem dJ2_checkBoundsBeginEnd_d044e_9 : decode cJ2_checkBoundsBeginEnd_d044e 9 = .ok (.return_, 1) := by decide +kernel
set_option maxRecDepth 20000 in
theorem ggJ2_checkBoundsOffCount_d044e_J2_length_9d52b : GoodIn wsJ2_checkBoundsOffCount_d044e wsJ2_length_9d52b := goodIn_r _ [4] (by decide +kernel) (by decide +kernel)
set_option maxRecDepth 20000 in
theorem gJ2_checkBoundsOffCount_d044e_J2_length_9d52b : GoodIn wsJ2_checkBoundsOffCount_d044e (va_wsS RJ2 48 yJ2_length_9d52b wsJ2_length_9d52b) := goodIn_app (goodIn_of _ (by decide +kernel)) ggJ2_checkBoundsOffCount_d044e_J2_length_9d52b
set_option maxRecDepth 20000 in
theorem ggJ2_checkBoundsOffCount_d044e_J0_checkBoundsOffCount_cabcc : GoodIn wsJ2_checkBoundsOffCount_d044e wsJ0_checkBoundsOffCount_cabcc := goodIn_r _ [8, 9, 10, 11, 12, 13] (by decide +kernel) (by decide +kernel)
set_option maxRecDepth 20000 in
theorem gJ2_checkBoundsOffCount_d044e_J0_checkBoundsOffCount_cabcc : GoodIn wsJ2_checkBoundsOffCount_d044e (va_wsS RJ2 419 yJ0_checkBoundsOffCount_cabcc wsJ0_checkBoundsOffCount_cabcc) := goodIn_app (goodIn_of _ (by decide +kernel)) ggJ2_checkBoundsOffCount_d044e_J0_checkBoundsOffCount_cabcc
theorem dJ2_checkBoundsOffCount_d044e_0 : decode cJ2_checkBoundsOffCount_d044e 0 = .ok (.iload_n 0, 1) := by decide +kernel
theorem dJ2_checkBoundsOffCount_d044e_1 : decode cJ2_checkBoundsOffCount_d044e 1 = .ok (.iload_n 1, 1) := by decide +kernel
theorem dJ2_checkBoundsOffCount_d044e_2 : decode cJ2_checkBoundsOffCount_d044e 2 = .ok (.aload_n 2, 1) := by decide +kernel
theorem dJ2_checkBoundsOffCount_d044e_3 : decode cJ2_checkBoundsOffCount_d044e 3 = .ok (.invokestatic 48, 3) := by decide +kernel
theorem dJ2_checkBoundsOffCount_d044e_6 : decode cJ2_checkBoundsOffCount_d044e 6 = .ok (.invokestatic 419, 3) := by decide +kernel
theorem dJ2_checkBoundsOffCount_d044e_9 : decode cJ2_checkBoundsOffCount_d044e 9 = .ok (.pop, 1) := by decide +kernel
theorem dJ2_checkBoundsOffCount_d044e_10 : decode cJ2_checkBoundsOffCount_d044e 10 = .ok (.return_, 1) := by decide +kernel
theorem dJ7_rangeCheck_23922_0 : decode cJ7_rangeCheck_23922 0 = .ok (.iload_n 1, 1) := by decide +kernel
theorem dJ7_rangeCheck_23922_1 : decode cJ7_rangeCheck_23922 1 = .ok (.iload_n 2, 1) := by decide +kernel
theorem dJ7_rangeCheck_23922_2 : decode cJ7_rangeCheck_23922 2 = .ok (.if_icmp .le 44, 3) := by decide +kernel
theorem dJ7_rangeCheck_23922_5 : decode cJ7_rangeCheck_23922 5 = .ok (.new 43, 3) := by decide +kernel
theorem dJ7_rangeCheck_23922_8 : decode cJ7_rangeCheck_23922 8 = .ok (.dup, 1) := by decide +kernel
theorem dJ7_rangeCheck_23922_9 : decode cJ7_rangeCheck_23922 9 = .ok (.new 45, 3) := by decide +kernel
theorem dJ7_rangeCheck_23922_12 : decode cJ7_rangeCheck_23922 12 = .ok (.dup, 1) := by decide +kernel
theorem dJ7_rangeCheck_23922_13 : decode cJ7_rangeCheck_23922 13 = .ok (.invokespecial 47, 3) := by decide +kernel
theorem dJ7_rangeCheck_23922_16 : decode cJ7_rangeCheck_23922 16 = .ok (.ldc 48, 2) := by decide +kernel
theorem dJ7_rangeCheck_23922_18 : decode cJ7_rangeCheck_23922 18 = .ok (.invokevirtual 50, 3) := by decide +kernel
theorem dJ7_rangeCheck_23922_21 : decode cJ7_rangeCheck_23922 21 = .ok (.iload_n 1, 1) := by decide +kernel
theorem dJ7_rangeCheck_23922_22 : decode cJ7_rangeCheck_23922 22 = .ok (.invokevirtual 54, 3) := by decide +kernel
theorem dJ7_rangeCheck_23922_25 : decode cJ7_rangeCheck_23922 25 = .ok (.ldc 57, 2) := by decide +kernel
theorem dJ7_rangeCheck_23922_27 : decode cJ7_rangeCheck_23922 27 = .ok (.invokevirtual 50, 3) := by decide +kernel
theorem dJ7_rangeCheck_23922_30 : decode cJ7_rangeCheck_23922 30 = .ok (.iload_n 2, 1) := by decide +kernel
theorem dJ7_rangeCheck_23922_31 : decode cJ7_rangeCheck_23922 31 = .ok (.invokevirtual 54, 3) := by decide +kernel
theorem dJ7_rangeCheck_23922_34 : decode cJ7_rangeCheck_23922 34 = .ok (.ldc 59, 2) := by decide +kernel
theorem dJ7_rangeCheck_23922_36 : decode cJ7_rangeCheck_23922 36 = .ok (.invokevirtual 50, 3) := by decide +kernel
theorem dJ7_rangeCheck_23922_39 : decode cJ7_rangeCheck_23922 39 = .ok (.invokevirtual 61, 3) := by decide +kernel
theorem dJ7_rangeCheck_23922_42 : decode cJ7_rangeCheck_23922 42 = .ok (.invokespecial 65, 3) := by decide +kernel
theorem dJ7_rangeCheck_23922_45 : decode cJ7_rangeCheck_23922 45 = .ok (.athrow, 1) := by decide +kernel
theorem dJ7_rangeCheck_23922_46 : decode cJ7_rangeCheck_23922 46 = .ok (.iload_n 1, 1) := by decide +kernel
theorem dJ7_rangeCheck_23922_47 : decode cJ7_rangeCheck_23922 47 = .ok (.ifCond .ge 12, 3) := by decide +kernel
theorem dJ7_rangeCheck_23922_50 : decode cJ7_rangeCheck_23922 50 = .ok (.new 68, 3) := by decide +kernel
theorem dJ7_rangeCheck_23922_53 : decode cJ7_rangeCheck_23922 53 = .ok (.dup, 1) := by decide +kernel
theorem dJ7_rangeCheck_23922_54 : decode cJ7_rangeCheck_23922 54 = .ok (.iload_n 1, 1) := by decide +kernel
theorem dJ7_rangeCheck_23922_55 : decode cJ7_rangeCheck_23922 55 = .ok (.invokespecial 70, 3) := by decide +kernel
theorem dJ7_rangeCheck_23922_58 : decode cJ7_rangeCheck_23922 58 = .ok (.athrow, 1) := by decide +kernel
theorem dJ7_rangeCheck_23922_59 : decode cJ7_rangeCheck_23922 59 = .ok (.iload_n 2, 1) := by decide +kernel
theorem dJ7_rangeCheck_23922_60 : decode cJ7_rangeCheck_23922 60 = .ok (.iload_n 0, 1) := by decide +kernel
theorem dJ7_rangeCheck_23922_61 : decode cJ7_rangeCheck_23922 61 = .ok (.if_icmp .le 12, 3) := by decide +kernel
theorem dJ7_rangeCheck_23922_64 : decode cJ7_rangeCheck_23922 64 = .ok (.new 68, 3) := by decide +kernel
theorem dJ7_rangeCheck_23922_67 : decode cJ7_rangeCheck_23922 67 = .ok (.dup, 1) := by decide +kernel
theorem dJ7_rangeCheck_23922_68 : decode cJ7_rangeCheck_23922 68 = .ok (.iload_n 2, 1) := by decide +kernel
theorem dJ7_rangeCheck_23922_69 : decode cJ7_rangeCheck_23922 69 = .ok (.invokespecial 70, 3) := by decide +kernel
theorem dJ7_rangeCheck_23922_72 : decode cJ7_rangeCheck_23922 72 = .ok (.athrow, 1) := by decide +kernel
theorem dJ7_rangeCheck_23922_73 : decode cJ7_rangeCheck_23922 73 = .ok (.return_, 1) := by decide +kernel
theorem dJ7_fill_53178_0 : decode cJ7_fill_53178 0 = .ok (.iconst 0, 1) := by decide +kernel
theorem dJ7_fill_53178_1 : decode cJ7_fill_53178 1 = .ok (.istore_n 2, 1) := by decide +kernel
theorem dJ7_fill_53178_2 : decode cJ7_fill_53178 2 = .ok (.aload_n 0, 1) := by decide +kernel
theorem dJ7_fill_53178_3 : decode cJ7_fill_53178 3 = .ok (.arraylength, 1) := by decide +kernel
theorem dJ7_fill_53178_4 : decode cJ7_fill_53178 4 = .ok (.istore_n 3, 1) := by decide +kernel
theorem dJ7_fill_53178_5 : decode cJ7_fill_53178 5 = .ok (.iload_n 2, 1) := by decide +kernel
theorem dJ7_fill_53178_6 : decode cJ7_fill_53178 6 = .ok (.iload_n 3, 1) := by decide +kernel
theorem dJ7_fill_53178_7 : decode cJ7_fill_53178 7 = .ok (.if_icmp .ge 13, 3) := by decide +kernel
theorem dJ7_fill_53178_10 : decode cJ7_fill_53178 10 = .ok (.aload_n 0, 1) := by decide +kernel
theorem dJ7_fill_53178_11 : decode cJ7_fill_53178 11 = .ok (.iload_n 2, 1) := by decide +kernel
theorem dJ7_fill_53178_12 : decode cJ7_fill_53178 12 = .ok (.iload_n 1, 1) := by decide +kernel
theorem dJ7_fill_53178_13 : decode cJ7_fill_53178 13 = .ok (.iastore, 1) := by decide +kernel
theorem dJ7_fill_53178_14 : decode cJ7_fill_53178 14 = .ok (.iinc 2 1, 3) := by decide +kernel
theorem dJ7_fill_53178_17 : decode cJ7_fill_53178 17 = .ok (.goto (-12), 3) := by decide +kernel
theorem dJ7_fill_53178_20 : decode cJ7_fill_53178 20 = .ok (.return_, 1) := by decide +kernel
set_option maxRecDepth 20000 in
theorem ggJ7_fill_eb02e_J7_rangeCheck_23922 : GoodIn wsJ7_fill_eb02e wsJ7_rangeCheck_23922 := goodIn_r _ [4] (by decide +kernel) (by decide +kernel)
set_option maxRecDepth 20000 in
theorem gJ7_fill_eb02e_J7_rangeCheck_23922 : GoodIn wsJ7_fill_eb02e (va_wsS RJ7 13 yJ7_rangeCheck_23922 wsJ7_rangeCheck_23922) := goodIn_app (goodIn_of _ (by decide +kernel)) ggJ7_fill_eb02e_J7_rangeCheck_23922
theorem dJ7_fill_eb02e_0 : decode cJ7_fill_eb02e 0 = .ok (.aload_n 0, 1) := by decide +kernel
theorem dJ7_fill_eb02e_1 : decode cJ7_fill_eb02e 1 = .ok (.arraylength, 1) := by decide +kernel
theorem dJ7_fill_eb02e_2 : decode cJ7_fill_eb02e 2 = .ok (.iload_n 1, 1) := by decide +kernel
theorem dJ7_fill_eb02e_3 : decode cJ7_fill_eb02e 3 = .ok (.iload_n 2, 1) := by decide +kernel
theorem dJ7_fill_eb02e_4 : decode cJ7_fill_eb02e 4 = .ok (.invokestatic 13, 3) := by decide +kernel
theorem dJ7_fill_eb02e_7 : decode cJ7_fill_eb02e 7 = .ok (.iload_n 1, 1) := by decide +kernel
theorem dJ7_fill_eb02e_8 : decode cJ7_fill_eb02e 8 = .ok (.istore 4, 2) := by decide +kernel
theorem dJ7_fill_eb02e_10 : decode cJ7_fill_eb02e 10 = .ok (.iload 4, 2) := by decide +kernel
theorem dJ7_fill_eb02e_12 : decode cJ7_fill_eb02e 12 = .ok (.iload_n 2, 1) := by decide +kernel
theorem dJ7_fill_eb02e_13 : decode cJ7_fill_eb02e 13 = .ok (.if_icmp .ge 14, 3) := by decide +kernel
theorem dJ7_fill_eb02e_16 : decode cJ7_fill_eb02e 16 = .ok (.aload_n 0, 1) := by decide +kernel
theorem dJ7_fill_eb02e_17 : decode cJ7_fill_eb02e 17 = .ok (.iload 4, 2) := by decide +kernel
theorem dJ7_fill_eb02e_19 : decode cJ7_fill_eb02e 19 = .ok (.iload_n 3, 1) := by decide +kernel
theorem dJ7_fill_eb02e_20 : decode cJ7_fill_eb02e 20 = .ok (.bastore, 1) := by decide +kernel
theorem dJ7_fill_eb02e_21 : decode cJ7_fill_eb02e 21 = .ok (.iinc 4 1, 3) := by decide +kernel
theorem dJ7_fill_eb02e_24 : decode cJ7_fill_eb02e 24 = .ok (.goto (-14), 3) := by decide +kernel
theorem dJ7_fill_eb02e_27 : decode cJ7_fill_eb02e 27 = .ok (.return_, 1) := by decide +kernel
theorem dJ7_copyOf_9075b_0 : decode cJ7_copyOf_9075b 0 = .ok (.iload_n 1, 1) := by decide +kernel
theorem dJ7_copyOf_9075b_1 : decode cJ7_copyOf_9075b 1 = .ok (.aload_n 0, 1) := by decide +kernel
theorem dJ7_copyOf_9075b_2 : decode cJ7_copyOf_9075b 2 = .ok (.arraylength, 1) := by decide +kernel
theorem dJ7_copyOf_9075b_3 : decode cJ7_copyOf_9075b 3 = .ok (.if_icmp .ne 11, 3) := by decide +kernel
theorem dJ7_copyOf_9075b_6 : decode cJ7_copyOf_9075b 6 = .ok (.aload_n 0, 1) := by decide +kernel
theorem dJ7_copyOf_9075b_7 : decode cJ7_copyOf_9075b 7 = .ok (.invokevirtual 310, 3) := by decide +kernel
theorem dJ7_copyOf_9075b_10 : decode cJ7_copyOf_9075b 10 = .ok (.checkcast 311, 3) := by decide +kernel
theorem dJ7_copyOf_9075b_13 : decode cJ7_copyOf_9075b 13 = .ok (.areturn, 1) := by decide +kernel
theorem dJ7_copyOf_9075b_14 : decode cJ7_copyOf_9075b 14 = .ok (.iload_n 1, 1) := by decide +kernel
theorem dJ7_copyOf_9075b_15 : decode cJ7_copyOf_9075b 15 = .ok (.newarray .byte, 2) := by decide +kernel
theorem dJ7_copyOf_9075b_17 : decode cJ7_copyOf_9075b 17 = .ok (.astore_n 2, 1) := by decide +kernel
theorem dJ7_copyOf_9075b_18 : decode cJ7_copyOf_9075b 18 = .ok (.aload_n 0, 1) := by decide +kernel
theorem dJ7_copyOf_9075b_19 : decode cJ7_copyOf_9075b 19 = .ok (.iconst 0, 1) := by decide +kernel
theorem dJ7_copyOf_9075b_20 : decode cJ7_copyOf_9075b 20 = .ok (.aload_n 2, 1) := by decide +kernel
theorem dJ7_copyOf_9075b_21 : decode cJ7_copyOf_9075b 21 = .ok (.iconst 0, 1) := by decide +kernel
theorem dJ7_copyOf_9075b_22 : decode cJ7_copyOf_9075b 22 = .ok (.aload_n 0, 1) := by decide +kernel
theorem dJ7_copyOf_9075b_23 : decode cJ7_copyOf_9075b 23 = .ok (.arraylength, 1) := by decide +kernel
theorem dJ7_copyOf_9075b_24 : decode cJ7_copyOf_9075b 24 = .ok (.iload_n 1, 1) := by decide +kernel
theorem dJ7_copyOf_9075b_25 : decode cJ7_copyOf_9075b 25 = .ok (.invokestatic 304, 3) := by decide +kernel
theorem dJ7_copyOf_9075b_28 : decode cJ7_copyOf_9075b 28 = .ok (.invokestatic 150, 3) := by decide +kernel
theorem dJ7_copyOf_9075b_31 : decode cJ7_copyOf_9075b 31 = .ok (.aload_n 2, 1) := by decide +kernel
theorem dJ7_copyOf_9075b_32 : decode cJ7_copyOf_9075b 32 = .ok (.areturn, 1) := by decide +kernel
set_option maxRecDepth 20000 in
theorem ggJ8_newLength_cabcc_J8_hugeLength_7cf53 : GoodIn wsJ8_newLength_cabcc wsJ8_hugeLength_7cf53 := goodIn_r _ [9, 5] (by decide +kernel) (by decide +kernel)
set_option maxRecDepth 20000 in
theorem gJ8_newLength_cabcc_J8_hugeLength_7cf53 : GoodIn wsJ8_newLength_cabcc (va_wsS RJ8 201 yJ8_hugeLength_7cf53 wsJ8_hugeLength_7cf53) := goodIn_app (goodIn_of _ (by decide +kernel)) ggJ8_newLength_cabcc_J8_hugeLength_7cf53
theorem dJ8_newLength_cabcc_0 : decode cJ8_newLength_cabcc 0 = .ok (.iload_n 0, 1) := by decide +kernel
theorem dJ8_newLength_cabcc_1 : decode cJ8_newLength_cabcc 1 = .ok (.iload_n 1, 1) := by decide +kernel
theorem dJ8_newLength_cabcc_2 : decode cJ8_newLength_cabcc 2 = .ok (.iload_n 2, 1) := by decide +kernel
theorem dJ8_newLength_cabcc_3 : decode cJ8_newLength_cabcc 3 = .ok (.invokestatic 194, 3) := by decide +kernel
theorem dJ8_newLength_cabcc_6 : decode cJ8_newLength_cabcc 6 = .ok (.iadd, 1) := by decide +kernel
theorem dJ8_newLength_cabcc_7 : decode cJ8_newLength_cabcc 7 = .ok (.istore_n 3, 1) := by decide +kernel
theorem dJ8_newLength_cabcc_8 : decode cJ8_newLength_cabcc 8 = .ok (.iconst 0, 1) := by decide +kernel
theorem dJ8_newLength_cabcc_9 : decode cJ8_newLength_cabcc 9 = .ok (.iload_n 3, 1) := by decide +kernel
theorem dJ8_newLength_cabcc_10 : decode cJ8_newLength_cabcc 10 = .ok (.if_icmp .ge 11, 3) := by decide +kernel
theorem dJ8_newLength_cabcc_13 : decode cJ8_newLength_cabcc 13 = .ok (.iload_n 3, 1) := by decide +kernel
theorem dJ8_newLength_cabcc_14 : decode cJ8_newLength_cabcc 14 = .ok (.ldc 200, 2) := by decide +kernel
theorem dJ8_newLength_cabcc_16 : decode cJ8_newLength_cabcc 16 = .ok (.if_icmp .gt 5, 3) := by decide +kernel
theorem dJ8_newLength_cabcc_19 : decode cJ8_newLength_cabcc 19 = .ok (.iload_n 3, 1) := by decide +kernel
theorem dJ8_newLength_cabcc_20 : decode cJ8_newLength_cabcc 20 = .ok (.ireturn, 1) := by decide +kernel
theorem dJ8_newLength_cabcc_21 : decode cJ8_newLength_cabcc 21 = .ok (.iload_n 0, 1) := by decide +kernel
theorem dJ8_newLength_cabcc_22 : decode cJ8_newLength_cabcc 22 = .ok (.iload_n 1, 1) := by decide +kernel
theorem dJ8_newLength_cabcc_23 : decode cJ8_newLength_cabcc 23 = .ok (.invokestatic 201, 3) := by decide +kernel
theorem dJ8_newLength_cabcc_26 : decode cJ8_newLength_cabcc 26 = .ok (.ireturn, 1) := by decide +kernel
theorem dJ8_hugeLength_7cf53_0 : decode cJ8_hugeLength_7cf53 0 = .ok (.iload_n 0, 1) := by decide +kernel
theorem dJ8_hugeLength_7cf53_1 : decode cJ8_hugeLength_7cf53 1 = .ok (.iload_n 1, 1) := by decide +kernel
theorem dJ8_hugeLength_7cf53_2 : decode cJ8_hugeLength_7cf53 2 = .ok (.iadd, 1) := by decide +kernel
theorem dJ8_hugeLength_7cf53_3 : decode cJ8_hugeLength_7cf53 3 = .ok (.istore_n 2, 1) := by decide +kernel
theorem dJ8_hugeLength_7cf53_4 : decode cJ8_hugeLength_7cf53 4 = .ok (.iload_n 2, 1) := by decide +kernel
theorem dJ8_hugeLength_7cf53_5 : decode cJ8_hugeLength_7cf53 5 = .ok (.ifCond .ge 44, 3) := by decide +kernel
theorem dJ8_hugeLength_7cf53_8 : decode cJ8_hugeLength_7cf53 8 = .ok (.new 204, 3) := by decide +kernel
theorem dJ8_hugeLength_7cf53_11 : decode cJ8_hugeLength_7cf53 11 = .ok (.dup, 1) := by decide +kernel
theorem dJ8_hugeLength_7cf53_12 : decode cJ8_hugeLength_7cf53 12 = .ok (.new 89, 3) := by decide +kernel
theorem dJ8_hugeLength_7cf53_15 : decode cJ8_hugeLength_7cf53 15 = .ok (.dup, 1) := by decide +kernel
theorem dJ8_hugeLength_7cf53_16 : decode cJ8_hugeLength_7cf53 16 = .ok (.invokespecial 91, 3) := by decide +kernel
theorem dJ8_hugeLength_7cf53_19 : decode cJ8_hugeLength_7cf53 19 = .ok (.ldc 206, 2) := by decide +kernel
theorem dJ8_hugeLength_7cf53_21 : decode cJ8_hugeLength_7cf53 21 = .ok (.invokevirtual 94, 3) := by decide +kernel
theorem dJ8_hugeLength_7cf53_24 : decode cJ8_hugeLength_7cf53 24 = .ok (.iload_n 0, 1) := by decide +kernel
theorem dJ8_hugeLength_7cf53_25 : decode cJ8_hugeLength_7cf53 25 = .ok (.invokevirtual 98, 3) := by decide +kernel
theorem dJ8_hugeLength_7cf53_28 : decode cJ8_hugeLength_7cf53 28 = .ok (.ldc 208, 2) := by decide +kernel
theorem dJ8_hugeLength_7cf53_30 : decode cJ8_hugeLength_7cf53 30 = .ok (.invokevirtual 94, 3) := by decide +kernel
theorem dJ8_hugeLength_7cf53_33 : decode cJ8_hugeLength_7cf53 33 = .ok (.iload_n 1, 1) := by decide +kernel
theorem dJ8_hugeLength_7cf53_34 : decode cJ8_hugeLength_7cf53 34 = .ok (.invokevirtual 98, 3) := by decide +kernel
theorem dJ8_hugeLength_7cf53_37 : decode cJ8_hugeLength_7cf53 37 = .ok (.ldc 210, 2) := by decide +kernel
theorem dJ8_hugeLength_7cf53_39 : decode cJ8_hugeLength_7cf53 39 = .ok (.invokevirtual 94, 3) := by decide +kernel
theorem dJ8_hugeLength_7cf53_42 : decode cJ8_hugeLength_7cf53 42 = .ok (.invokevirtual 101, 3) := by decide +kernel
theorem dJ8_hugeLength_7cf53_45 : decode cJ8_hugeLength_7cf53 45 = .ok (.invokespecial 212, 3) := by decide +kernel
theorem dJ8_hugeLength_7cf53_48 : decode cJ8_hugeLength_7cf53 48 = .ok (.athrow, 1) := by decide +kernel
theorem dJ8_hugeLength_7cf53_49 : decode cJ8_hugeLength_7cf53 49 = .ok (.iload_n 2, 1) := by decide +kernel
theorem dJ8_hugeLength_7cf53_50 : decode cJ8_hugeLength_7cf53 50 = .ok (.ldc 200, 2) := by decide +kernel
theorem dJ8_hugeLength_7cf53_52 : decode cJ8_hugeLength_7cf53 52 = .ok (.if_icmp .gt 6, 3) := by decide +kernel
theorem dJ8_hugeLength_7cf53_55 : decode cJ8_hugeLength_7cf53 55 = .ok (.ldc 200, 2) := by decide +kernel
theorem dJ8_hugeLength_7cf53_57 : decode cJ8_hugeLength_7cf53 57 = .ok (.ireturn, 1) := by decide +kernel
theorem dJ8_hugeLength_7cf53_58 : decode cJ8_hugeLength_7cf53 58 = .ok (.iload_n 2, 1) := by decide +kernel
theorem dJ8_hugeLength_7cf53_59 : decode cJ8_hugeLength_7cf53 59 = .ok (.ireturn, 1) := by decide +kernel
theorem dJ3_checkIndex_8e157_0 : decode cJ3_checkIndex_8e157 0 = .ok (.iload_n 0, 1) := by decide +kernel
theorem dJ3_checkIndex_8e157_1 : decode cJ3_checkIndex_8e157 1 = .ok (.ifCond .lt 8, 3) := by decide +kernel
theorem dJ3_checkIndex_8e157_4 : decode cJ3_checkIndex_8e157 4 = .ok (.iload_n 0, 1) := by decide +kernel
theorem dJ3_checkIndex_8e157_5 : decode cJ3_checkIndex_8e157 5 = .ok (.iload_n 1, 1) := by decide +kernel
theorem dJ3_checkIndex_8e157_6 : decode cJ3_checkIndex_8e157 6 = .ok (.if_icmp .lt 10, 3) := by decide +kernel
theorem dJ3_checkIndex_8e157_9 : decode cJ3_checkIndex_8e157 9 = .ok (.aload_n 2, 1) := by decide +kernel
theorem dJ3_checkIndex_8e157_10 : decode cJ3_checkIndex_8e157 10 = .ok (.iload_n 0, 1) := by decide +kernel
theorem dJ3_checkIndex_8e157_11 : decode cJ3_checkIndex_8e157 11 = .ok (.iload_n 1, 1) := by decide +kernel
theorem dJ3_checkIndex_8e157_12 : decode cJ3_checkIndex_8e157 12 = .ok (.invokestatic 95, 3) := by decide +kernel
theorem dJ3_checkIndex_8e157_15 : decode cJ3_checkIndex_8e157 15 = .ok (.athrow, 1) := by decide +kernel
theorem dJ3_checkIndex_8e157_16 : decode cJ3_checkIndex_8e157 16 = .ok (.iload_n 0, 1) := by decide +kernel
theorem dJ3_checkIndex_8e157_17 : decode cJ3_checkIndex_8e157 17 = .ok (.ireturn, 1) := by decide +kernel
theorem dJ3_checkFromToIndex_8c36e_0 : decode cJ3_checkFromToIndex_8c36e 0 = .ok (.iload_n 0, 1) := by decide +kernel
theorem dJ3_checkFromToIndex_8c36e_1 : decode cJ3_checkFromToIndex_8c36e 1 = .ok (.ifCond .lt 13, 3) := by decide +kernel
theorem dJ3_checkFromToIndex_8c36e_4 : decode cJ3_checkFromToIndex_8c36e 4 = .ok (.iload_n 0, 1) := by decide +kernel
theorem dJ3_checkFromToIndex_8c36e_5 : decode cJ3_checkFromToIndex_8c36e 5 = .ok (.iload_n 1, 1) := by decide +kernel
theorem dJ3_checkFromToIndex_8c36e_6 : decode cJ3_checkFromToIndex_8c36e 6 = .ok (.if_icmp .gt 8, 3) := by decide +kernel
theorem dJ3_checkFromToIndex_8c36e_9 : decode cJ3_checkFromToIndex_8c36e 9 = .ok (.iload_n 1, 1) := by decide +kernel
theorem dJ3_checkFromToIndex_8c36e_10 : decode cJ3_checkFromToIndex_8c36e 10 = .ok (.iload_n 2, 1) := by decide +kernel
theorem dJ3_checkFromToIndex_8c36e_11 : decode cJ3_checkFromToIndex_8c36e 11 = .ok (.if_icmp .le 11, 3) := by decide +kernel
theorem dJ3_checkFromToIndex_8c36e_14 : decode cJ3_checkFromToIndex_8c36e 14 = .ok (.aload_n 3, 1) := by decide +kernel
theorem dJ3_checkFromToIndex_8c36e_15 : decode cJ3_checkFromToIndex_8c36e 15 = .ok (.iload_n 0, 1) := by decide +kernel
theorem dJ3_checkFromToIndex_8c36e_16 : decode cJ3_checkFromToIndex_8c36e 16 = .ok (.iload_n 1, 1) := by decide +kernel
theorem dJ3_checkFromToIndex_8c36e_17 : decode cJ3_checkFromToIndex_8c36e 17 = .ok (.iload_n 2, 1) := by decide +kernel
theorem dJ3_checkFromToIndex_8c36e_18 : decode cJ3_checkFromToIndex_8c36e 18 = .ok (.invokestatic 99, 3) := by decide +kernel
theorem dJ3_checkFromToIndex_8c36e_21 : decode cJ3_checkFromToIndex_8c36e 21 = .ok (.athrow, 1) := by decide +kernel
theorem dJ3_checkFromToIndex_8c36e_22 : decode cJ3_checkFromToIndex_8c36e 22 = .ok (.iload_n 0, 1) := by decide +kernel
theorem dJ3_checkFromToIndex_8c36e_23 : decode cJ3_checkFromToIndex_8c36e 23 = .ok (.ireturn, 1) := by decide +kernel
theorem dJ3_checkFromIndexSize_8c36e_0 : decode cJ3_checkFromIndexSize_8c36e 0 = .ok (.iload_n 2, 1) := by decide +kernel
theorem dJ3_checkFromIndexSize_8c36e_1 : decode cJ3_checkFromIndexSize_8c36e 1 = .ok (.iload_n 0, 1) := by decide +kernel
theorem dJ3_checkFromIndexSize_8c36e_2 : decode cJ3_checkFromIndexSize_8c36e 2 = .ok (.ior, 1) := by decide +kernel
theorem dJ3_checkFromIndexSize_8c36e_3 : decode cJ3_checkFromIndexSize_8c36e 3 = .ok (.iload_n 1, 1) := by decide +kernel
theorem dJ3_checkFromIndexSize_8c36e_4 : decode cJ3_checkFromIndexSize_8c36e 4 = .ok (.ior, 1) := by decide +kernel
theorem dJ3_checkFromIndexSize_8c36e_5 : decode cJ3_checkFromIndexSize_8c36e 5 = .ok (.ifCond .lt 10, 3) := by decide +kernel
theorem dJ3_checkFromIndexSize_8c36e_8 : decode cJ3_checkFromIndexSize_8c36e 8 = .ok (.iload_n 1, 1) := by decide +kernel
theorem dJ3_checkFromIndexSize_8c36e_9 : decode cJ3_checkFromIndexSize_8c36e 9 = .ok (.iload_n 2, 1) := by decide +kernel
theorem dJ3_checkFromIndexSize_8c36e_10 : decode cJ3_checkFromIndexSize_8c36e 10 = .ok (.iload_n 0, 1) := by decide +kernel
theorem dJ3_checkFromIndexSize_8c36e_11 : decode cJ3_checkFromIndexSize_8c36e 11 = .ok (.isub, 1) := by decide +kernel
theorem dJ3_checkFromIndexSize_8c36e_12 : decode cJ3_checkFromIndexSize_8c36e 12 = .ok (.if_icmp .le 11, 3) := by decide +kernel
theorem dJ3_checkFromIndexSize_8c36e_15 : decode cJ3_checkFromIndexSize_8c36e 15 = .ok (.aload_n 3, 1) := by decide +kernel
theorem dJ3_checkFromIndexSize_8c36e_16 : decode cJ3_checkFromIndexSize_8c36e 16 = .ok (.iload_n 0, 1) := by decide +kernel
theorem dJ3_checkFromIndexSize_8c36e_17 : decode cJ3_checkFromIndexSize_8c36e 17 = .ok (.iload_n 1, 1) := by decide +kernel
theorem dJ3_checkFromIndexSize_8c36e_18 : decode cJ3_checkFromIndexSize_8c36e 18 = .ok (.iload_n 2, 1) := by decide +kernel
theorem dJ3_checkFromIndexSize_8c36e_19 : decode cJ3_checkFromIndexSize_8c36e 19 = .ok (.invokestatic 103, 3) := by decide +kernel
theorem dJ3_checkFromIndexSize_8c36e_22 : decode cJ3_checkFromIndexSize_8c36e 22 = .ok (.athrow, 1) := by decide +kernel
theorem dJ3_checkFromIndexSize_8c36e_23 : decode cJ3_checkFromIndexSize_8c36e 23 = .ok (.iload_n 0, 1) := by decide +kernel
theorem dJ3_checkFromIndexSize_8c36e_24 : decode cJ3_checkFromIndexSize_8c36e 24 = .ok (.ireturn, 1) := by decide +kernel
set_option maxRecDepth 20000 in
theorem ggL_wrong_X11_wrong : GoodIn wsL_wrong wsX11_wrong := goodIn_ca (goodIn_r _ [6, 7, 8, 9, 10, 11, 12, 13, 5, 14, 15, 16, 17, 18, 19, 20, 21, 22, 23, 24, 25, 26, 27, 28, 29, 30, 31, 32, 33, 34, 35, 36, 37, 38, 39, 40, 41, 42, 43, 44, 45, 46, 47, 48, 49, 50, 51, 52, 53, 54, 55, 56, 57, 58, 59, 60, 61, 62, 63, 64, 65, 66, 67, 68, 69, 70, 71, 72, 73, 74, 75, 76, 77, 78] (by decide +kernel) (by decide +kernel)) (goodIn_sub (fun _ h => List.mem_cons_of_mem _ (List.mem_append_right _ h)) (by decide +kernel))
set_option maxRecDepth 20000 in
theorem gL_wrong_X11_wrong : GoodIn wsL_wrong (wsV RL 7 RX11 yX11_wrong wsX11_wrong) := goodIn_app (goodIn_of _ (by decide +kernel)) ggL_wrong_X11_wrong
theorem dL_wrong_0 : decode cL_wrong 0 = .ok (.aload_n 2, 1) := by decide +kernel
theorem dL_wrong_1 : decode cL_wrong 1 = .ok (.iconst 0, 1) := by decide +kernel
theorem dL_wrong_2 : decode cL_wrong 2 = .ok (.aload_n 0, 1) := by decide +kernel
theorem dL_wrong_3 : decode cL_wrong 3 = .ok (.iload_n 1, 1) := by decide +kernel
theorem dL_wrong_4 : decode cL_wrong 4 = .ok (.invokevirtual 7, 3) := by decide +kernel
theorem dL_wrong_7 : decode cL_wrong 7 = .ok (.i2l, 1) := by decide +kernel
theorem dL_wrong_8 : decode cL_wrong 8 = .ok (.lastore, 1) := by decide +kernel
theorem dL_wrong_9 : decode cL_wrong 9 = .ok (.goto 6, 3) := by decide +kernel
theorem dL_wrong_12 : decode cL_wrong 12 = .ok (.astore_n 3, 1) := by decide +kernel
theorem dL_wrong_13 : decode cL_wrong 13 = .ok (.iconst 1, 1) := by decide +kernel
theorem dL_wrong_14 : decode cL_wrong 14 = .ok (.ireturn, 1) := by decide +kernel
theorem dL_wrong_15 : decode cL_wrong 15 = .ok (.iconst 0, 1) := by decide +kernel
theorem dL_wrong_16 : decode cL_wrong 16 = .ok (.ireturn, 1) := by decide +kernel
set_option maxRecDepth 20000 in
theorem ggL_master_X11_master : GoodIn wsL_master wsX11_master := goodIn_ca (goodIn_r _ [6, 7, 8, 9, 10, 11, 12, 13, 14, 15, 16, 17, 18, 19, 20, 5, 21, 22, 23, 24, 25, 26, 27, 28, 29, 30, 31, 32, 33, 34, 35, 36, 37, 38, 39, 40, 41, 42, 43, 44, 45, 46, 47, 48, 49, 50, 51, 52, 53, 54, 55, 56, 57, 58, 59, 60, 61, 62, 63, 64, 65, 66, 67, 68, 69, 70, 71, 72, 73, 74, 75, 76, 77, 78] (by decide +kernel) (by decide +kernel)) (goodIn_sub (fun _ h => List.mem_cons_of_mem _ (List.mem_append_right _ h)) (by decide +kernel))
set_option maxRecDepth 20000 in
theorem gL_master_X11_master : GoodIn wsL_master (wsV RL 15 RX11 yX11_master wsX11_master) := goodIn_app (goodIn_of _ (by decide +kernel)) ggL_master_X11_master
theorem dL_master_0 : decode cL_master 0 = .ok (.aload_n 3, 1) := by decide +kernel
theorem dL_master_1 : decode cL_master 1 = .ok (.iconst 0, 1) := by decide +kernel
theorem dL_master_2 : decode cL_master 2 = .ok (.aload_n 0, 1) := by decide +kernel
theorem dL_master_3 : decode cL_master 3 = .ok (.iload_n 1, 1) := by decide +kernel
theorem dL_master_4 : decode cL_master 4 = .ok (.iload_n 2, 1) := by decide +kernel
theorem dL_master_5 : decode cL_master 5 = .ok (.invokevirtual 15, 3) := by decide +kernel
theorem dL_master_8 : decode cL_master 8 = .ok (.i2l, 1) := by decide +kernel
theorem dL_master_9 : decode cL_master 9 = .ok (.lastore, 1) := by decide +kernel
theorem dL_master_10 : decode cL_master 10 = .ok (.goto 7, 3) := by decide +kernel
theorem dL_master_13 : decode cL_master 13 = .ok (.astore 4, 2) := by decide +kernel
theorem dL_master_15 : decode cL_master 15 = .ok (.iconst 1, 1) := by decide +kernel
theorem dL_master_16 : decode cL_master 16 = .ok (.ireturn, 1) := by decide +kernel
theorem dL_master_17 : decode cL_master 17 = .ok (.iconst 0, 1) := by decide +kernel
theorem dL_master_18 : decode cL_master 18 = .ok (.ireturn, 1) := by decide +kernel
set_option maxRecDepth 20000 in
theorem ggL_mean_X11_mean : GoodIn wsL_mean wsX11_mean := goodIn_ca (goodIn_r _ [6, 7, 8, 9, 10, 11, 12, 13, 14, 15, 16, 17, 18, 19, 20, 21, 22, 23, 24, 5, 25, 26, 27, 28, 29, 30, 31, 32, 33, 34, 35, 36, 37, 38, 39, 40, 41, 42, 43, 44, 45, 46, 47, 48, 49, 50, 51, 52, 53, 54, 55, 56, 57, 58, 59, 60, 61, 62, 63, 64, 65, 66, 67, 68, 69, 70, 71, 72, 73, 74, 75, 76, 77, 78, 79, 80, 81, 82, 83, 84, 85, 86, 87, 88, 89, 90] (by decide +kernel) (by decide +kernel)) (goodIn_sub (fun _ h => List.mem_cons_of_mem _ (List.mem_append_right _ h)) (by decide +kernel))
set_option maxRecDepth 20000 in
theorem gL_mean_X11_mean : GoodIn wsL_mean (wsV RL 19 RX11 yX11_mean wsX11_mean) := goodIn_app (goodIn_of _ (by decide +kernel)) ggL_mean_X11_mean
theorem dL_mean_0 : decode cL_mean 0 = .ok (.aload_n 2, 1) := by decide +kernel
theorem dL_mean_1 : decode cL_mean 1 = .ok (.iconst 0, 1) := by decide +kernel
theorem dL_mean_2 : decode cL_mean 2 = .ok (.aload_n 0, 1) := by decide +kernel
theorem dL_mean_3 : decode cL_mean 3 = .ok (.iload_n 1, 1) := by decide +kernel
theorem dL_mean_4 : decode cL_mean 4 = .ok (.invokevirtual 19, 3) := by decide +kernel
theorem dL_mean_7 : decode cL_mean 7 = .ok (.i2l, 1) := by decide +kernel
theorem dL_mean_8 : decode cL_mean 8 = .ok (.lastore, 1) := by decide +kernel
theorem dL_mean_9 : decode cL_mean 9 = .ok (.goto 6, 3) := by decide +kernel
theorem dL_mean_12 : decode cL_mean 12 = .ok (.astore_n 3, 1) := by decide +kernel
theorem dL_mean_13 : decode cL_mean 13 = .ok (.iconst 1, 1) := by decide +kernel
theorem dL_mean_14 : decode cL_mean 14 = .ok (.ireturn, 1) := by decide +kernel
theorem dL_mean_15 : decode cL_mean 15 = .ok (.iconst 0, 1) := by decide +kernel
theorem dL_mean_16 : decode cL_mean 16 = .ok (.ireturn, 1) := by decide +kernel
