theorem dX12_judge_190 : decode cX12_judge 190 = .ok (.iload_n 3, 1) := by decide +kernel
theorem dX12_judge_191 : decode cX12_judge 191 = .ok (.ireturn, 1) := by decide +kernel
set_option maxRecDepth 20000 in
theorem ggX12_doubt_X12_isQuarter : GoodIn wsX12_doubt wsX12_isQuarter := goodIn_r _ [6] (by decide +kernel) (by decide +kernel)
set_option maxRecDepth 20000 in
theorem gX12_doubt_X12_isQuarter : GoodIn wsX12_doubt (va_wsS RX12 157 yX12_isQuarter wsX12_isQuarter) := goodIn_app (goodIn_of _ (by decide +kernel)) ggX12_doubt_X12_isQuarter
set_option maxRecDepth 20000 in
theorem ggX12_doubt_X12_gather : GoodIn wsX12_doubt wsX12_gather := goodIn_r _ [10, 2, 11, 12, 13, 14, 15, 16, 17, 18, 19, 20, 5, 21, 22, 23, 24, 25, 26, 27, 28, 29, 30, 31, 32, 33, 34, 35, 36, 37, 38, 39, 40, 41, 42, 43, 44, 45, 46, 47, 48, 53, 54, 55, 56, 57, 58, 59, 60, 61, 62, 63, 64, 65, 66, 67, 68, 69, 70, 71, 72, 73, 74, 75, 76, 77, 78, 79, 80, 81, 82, 83, 84, 85, 86, 87, 88, 89, 90, 91, 92, 93, 94, 95, 96, 97, 98, 99, 100, 101, 102, 103, 104, 105, 106, 107, 108, 109, 110, 111, 112, 113, 114] (by decide +kernel) (by decide +kernel)
set_option maxRecDepth 20000 in
theorem gX12_doubt_X12_gather : GoodIn wsX12_doubt (wsV RX12 314 RX12 yX12_gather wsX12_gather) := goodIn_app (goodIn_of _ (by decide +kernel)) ggX12_doubt_X12_gather
set_option maxRecDepth 20000 in
theorem ggX12_doubt_X12_sure : GoodIn wsX12_doubt wsX12_sure := goodIn_r _ [52, 2, 16, 14, 13, 53, 54, 55, 56, 57, 58, 59, 60, 61, 62, 63, 64, 65, 66, 67, 68, 69, 70, 71, 72, 73, 74, 75, 76, 77, 78, 79, 80, 81, 82, 83, 84, 85, 86, 87, 88, 89, 90, 91, 92, 93, 94, 95, 96, 97, 98, 99, 100, 101, 102, 103, 104, 105, 106, 107, 108, 109, 110, 111, 112, 113, 114] (by decide +kernel) (by decide +kernel)
set_option maxRecDepth 20000 in
theorem gX12_doubt_X12_sure : GoodIn wsX12_doubt (wsV RX12 317 RX12 yX12_sure wsX12_sure) := goodIn_app (goodIn_of _ (by decide +kernel)) ggX12_doubt_X12_sure
theorem dX12_doubt_0 : decode cX12_doubt 0 = .ok (.aload_n 0, 1) := by decide +kernel
theorem dX12_doubt_1 : decode cX12_doubt 1 = .ok (.iconst 0, 1) := by decide +kernel
theorem dX12_doubt_2 : decode cX12_doubt 2 = .ok (.putfield 133, 3) := by decide +kernel
theorem dX12_doubt_5 : decode cX12_doubt 5 = .ok (.iload_n 1, 1) := by decide +kernel
theorem dX12_doubt_6 : decode cX12_doubt 6 = .ok (.invokestatic 157, 3) := by decide +kernel
theorem dX12_doubt_9 : decode cX12_doubt 9 = .ok (.ifCond .ne 5, 3) := by decide +kernel
theorem dX12_doubt_12 : decode cX12_doubt 12 = .ok (.iconst (-1), 1) := by decide +kernel
theorem dX12_doubt_13 : decode cX12_doubt 13 = .ok (.ireturn, 1) := by decide +kernel
theorem dX12_doubt_14 : decode cX12_doubt 14 = .ok (.aload_n 0, 1) := by decide +kernel
theorem dX12_doubt_15 : decode cX12_doubt 15 = .ok (.iload_n 1, 1) := by decide +kernel
theorem dX12_doubt_16 : decode cX12_doubt 16 = .ok (.iload_n 2, 1) := by decide +kernel
theorem dX12_doubt_17 : decode cX12_doubt 17 = .ok (.invokevirtual 314, 3) := by decide +kernel
theorem dX12_doubt_20 : decode cX12_doubt 20 = .ok (.aload_n 0, 1) := by decide +kernel
theorem dX12_doubt_21 : decode cX12_doubt 21 = .ok (.getfield 311, 3) := by decide +kernel
theorem dX12_doubt_24 : decode cX12_doubt 24 = .ok (.ifCond .ne 7, 3) := by decide +kernel
theorem dX12_doubt_27 : decode cX12_doubt 27 = .ok (.iconst (-1), 1) := by decide +kernel
theorem dX12_doubt_28 : decode cX12_doubt 28 = .ok (.goto 15, 3) := by decide +kernel
theorem dX12_doubt_31 : decode cX12_doubt 31 = .ok (.aload_n 0, 1) := by decide +kernel
theorem dX12_doubt_32 : decode cX12_doubt 32 = .ok (.invokevirtual 317, 3) := by decide +kernel
theorem dX12_doubt_35 : decode cX12_doubt 35 = .ok (.ifCond .lt 7, 3) := by decide +kernel
theorem dX12_doubt_38 : decode cX12_doubt 38 = .ok (.iconst 0, 1) := by decide +kernel
theorem dX12_doubt_39 : decode cX12_doubt 39 = .ok (.goto 4, 3) := by decide +kernel
theorem dX12_doubt_42 : decode cX12_doubt 42 = .ok (.iconst 1, 1) := by decide +kernel
theorem dX12_doubt_43 : decode cX12_doubt 43 = .ok (.ireturn, 1) := by decide +kernel
set_option maxRecDepth 20000 in
theorem ggX12_lots_X12_taken : GoodIn wsX12_lots wsX12_taken := goodIn_r _ [13, 14, 2, 15, 21, 22, 23, 24, 25, 26, 27, 28, 29, 30, 31, 32, 33, 34, 35, 36, 37, 38, 39, 40, 41, 42, 43, 44, 45, 46, 47, 48, 49, 50, 51, 52, 53, 54, 55, 56, 57, 58, 59, 60, 61, 62, 63, 64, 65, 66, 67, 68, 69, 70, 71, 72, 73, 74, 75, 76, 77, 78, 79, 80, 81, 82] (by decide +kernel) (by decide +kernel)
set_option maxRecDepth 20000 in
theorem gX12_lots_X12_taken : GoodIn wsX12_lots (wsV RX12 165 RX12 yX12_taken wsX12_taken) := goodIn_app (goodIn_of _ (by decide +kernel)) ggX12_lots_X12_taken
set_option maxRecDepth 20000 in
theorem ggX12_lots_X12_isPerson : GoodIn wsX12_lots wsX12_isPerson := goodIn_r _ [19, 20, 21, 22, 23, 24, 25, 26, 27, 28, 29, 30, 31, 32, 33, 34, 35, 36, 37, 38, 39, 40, 41, 42, 43, 44, 45, 46, 47, 48, 49, 50, 51, 52, 53, 54, 55, 56, 57, 58, 59, 60, 61, 62, 63, 64, 65, 66, 67, 68, 69, 70, 71, 72, 73, 74, 75, 76, 77, 78, 79, 80, 81, 82] (by decide +kernel) (by decide +kernel)
set_option maxRecDepth 20000 in
theorem gX12_lots_X12_isPerson : GoodIn wsX12_lots (wsV RX12 197 RX12 yX12_isPerson wsX12_isPerson) := goodIn_app (goodIn_of _ (by decide +kernel)) ggX12_lots_X12_isPerson
theorem dX12_lots_0 : decode cX12_lots 0 = .ok (.aload_n 0, 1) := by decide +kernel
theorem dX12_lots_1 : decode cX12_lots 1 = .ok (.iconst 0, 1) := by decide +kernel
theorem dX12_lots_2 : decode cX12_lots 2 = .ok (.putfield 133, 3) := by decide +kernel
theorem dX12_lots_5 : decode cX12_lots 5 = .ok (.aload_n 0, 1) := by decide +kernel
theorem dX12_lots_6 : decode cX12_lots 6 = .ok (.invokevirtual 165, 3) := by decide +kernel
theorem dX12_lots_9 : decode cX12_lots 9 = .ok (.iconst 0, 1) := by decide +kernel
theorem dX12_lots_10 : decode cX12_lots 10 = .ok (.istore_n 1, 1) := by decide +kernel
theorem dX12_lots_11 : decode cX12_lots 11 = .ok (.iconst 0, 1) := by decide +kernel
theorem dX12_lots_12 : decode cX12_lots 12 = .ok (.istore_n 2, 1) := by decide +kernel
theorem dX12_lots_13 : decode cX12_lots 13 = .ok (.iload_n 2, 1) := by decide +kernel
theorem dX12_lots_14 : decode cX12_lots 14 = .ok (.aload_n 0, 1) := by decide +kernel
theorem dX12_lots_15 : decode cX12_lots 15 = .ok (.getfield 144, 3) := by decide +kernel
theorem dX12_lots_18 : decode cX12_lots 18 = .ok (.if_icmp .ge 49, 3) := by decide +kernel
theorem dX12_lots_21 : decode cX12_lots 21 = .ok (.aload_n 0, 1) := by decide +kernel
theorem dX12_lots_22 : decode cX12_lots 22 = .ok (.aload_n 0, 1) := by decide +kernel
theorem dX12_lots_23 : decode cX12_lots 23 = .ok (.getfield 7, 3) := by decide +kernel
theorem dX12_lots_26 : decode cX12_lots 26 = .ok (.iload_n 2, 1) := by decide +kernel
theorem dX12_lots_27 : decode cX12_lots 27 = .ok (.baload, 1) := by decide +kernel
theorem dX12_lots_28 : decode cX12_lots 28 = .ok (.invokevirtual 197, 3) := by decide +kernel
theorem dX12_lots_31 : decode cX12_lots 31 = .ok (.ifCond .eq 17, 3) := by decide +kernel
theorem dX12_lots_34 : decode cX12_lots 34 = .ok (.iload_n 1, 1) := by decide +kernel
theorem dX12_lots_35 : decode cX12_lots 35 = .ok (.aload_n 0, 1) := by decide +kernel
theorem dX12_lots_36 : decode cX12_lots 36 = .ok (.getfield 7, 3) := by decide +kernel
theorem dX12_lots_39 : decode cX12_lots 39 = .ok (.iload_n 2, 1) := by decide +kernel
theorem dX12_lots_40 : decode cX12_lots 40 = .ok (.baload, 1) := by decide +kernel
theorem dX12_lots_41 : decode cX12_lots 41 = .ok (.ishr, 1) := by decide +kernel
theorem dX12_lots_42 : decode cX12_lots 42 = .ok (.iconst 1, 1) := by decide +kernel
theorem dX12_lots_43 : decode cX12_lots 43 = .ok (.iand, 1) := by decide +kernel
theorem dX12_lots_44 : decode cX12_lots 44 = .ok (.iconst 1, 1) := by decide +kernel
theorem dX12_lots_45 : decode cX12_lots 45 = .ok (.if_icmp .ne 5, 3) := by decide +kernel
theorem dX12_lots_48 : decode cX12_lots 48 = .ok (.iconst (-1), 1) := by decide +kernel
theorem dX12_lots_49 : decode cX12_lots 49 = .ok (.ireturn, 1) := by decide +kernel
theorem dX12_lots_50 : decode cX12_lots 50 = .ok (.iload_n 1, 1) := by decide +kernel
theorem dX12_lots_51 : decode cX12_lots 51 = .ok (.iconst 1, 1) := by decide +kernel
theorem dX12_lots_52 : decode cX12_lots 52 = .ok (.aload_n 0, 1) := by decide +kernel
theorem dX12_lots_53 : decode cX12_lots 53 = .ok (.getfield 7, 3) := by decide +kernel
theorem dX12_lots_56 : decode cX12_lots 56 = .ok (.iload_n 2, 1) := by decide +kernel
theorem dX12_lots_57 : decode cX12_lots 57 = .ok (.baload, 1) := by decide +kernel
theorem dX12_lots_58 : decode cX12_lots 58 = .ok (.ishl, 1) := by decide +kernel
theorem dX12_lots_59 : decode cX12_lots 59 = .ok (.ior, 1) := by decide +kernel
theorem dX12_lots_60 : decode cX12_lots 60 = .ok (.istore_n 1, 1) := by decide +kernel
theorem dX12_lots_61 : decode cX12_lots 61 = .ok (.iinc 2 1, 3) := by decide +kernel
theorem dX12_lots_64 : decode cX12_lots 64 = .ok (.goto (-51), 3) := by decide +kernel
theorem dX12_lots_67 : decode cX12_lots 67 = .ok (.iconst 0, 1) := by decide +kernel
theorem dX12_lots_68 : decode cX12_lots 68 = .ok (.istore_n 2, 1) := by decide +kernel
theorem dX12_lots_69 : decode cX12_lots 69 = .ok (.iload_n 2, 1) := by decide +kernel
theorem dX12_lots_70 : decode cX12_lots 70 = .ok (.bipush 30, 2) := by decide +kernel
theorem dX12_lots_72 : decode cX12_lots 72 = .ok (.if_icmp .ge 16, 3) := by decide +kernel
theorem dX12_lots_75 : decode cX12_lots 75 = .ok (.aload_n 0, 1) := by decide +kernel
theorem dX12_lots_76 : decode cX12_lots 76 = .ok (.getfield 100, 3) := by decide +kernel
theorem dX12_lots_79 : decode cX12_lots 79 = .ok (.iload_n 2, 1) := by decide +kernel
theorem dX12_lots_80 : decode cX12_lots 80 = .ok (.iconst (-1), 1) := by decide +kernel
theorem dX12_lots_81 : decode cX12_lots 81 = .ok (.iastore, 1) := by decide +kernel
theorem dX12_lots_82 : decode cX12_lots 82 = .ok (.iinc 2 1, 3) := by decide +kernel
theorem dX12_lots_85 : decode cX12_lots 85 = .ok (.goto (-16), 3) := by decide +kernel
theorem dX12_lots_88 : decode cX12_lots 88 = .ok (.aload_n 0, 1) := by decide +kernel
theorem dX12_lots_89 : decode cX12_lots 89 = .ok (.iconst 1, 1) := by decide +kernel
theorem dX12_lots_90 : decode cX12_lots 90 = .ok (.putfield 320, 3) := by decide +kernel
theorem dX12_lots_93 : decode cX12_lots 93 = .ok (.lconst 0, 1) := by decide +kernel
theorem dX12_lots_94 : decode cX12_lots 94 = .ok (.lstore_n 2, 1) := by decide +kernel
theorem dX12_lots_95 : decode cX12_lots 95 = .ok (.iconst 0, 1) := by decide +kernel
theorem dX12_lots_96 : decode cX12_lots 96 = .ok (.istore 4, 2) := by decide +kernel
theorem dX12_lots_98 : decode cX12_lots 98 = .ok (.iconst 0, 1) := by decide +kernel
theorem dX12_lots_99 : decode cX12_lots 99 = .ok (.istore 5, 2) := by decide +kernel
theorem dX12_lots_101 : decode cX12_lots 101 = .ok (.iload 5, 2) := by decide +kernel
theorem dX12_lots_103 : decode cX12_lots 103 = .ok (.aload_n 0, 1) := by decide +kernel
theorem dX12_lots_104 : decode cX12_lots 104 = .ok (.getfield 144, 3) := by decide +kernel
theorem dX12_lots_107 : decode cX12_lots 107 = .ok (.if_icmp .ge 154, 3) := by decide +kernel
theorem dX12_lots_110 : decode cX12_lots 110 = .ok (.aload_n 0, 1) := by decide +kernel
theorem dX12_lots_111 : decode cX12_lots 111 = .ok (.getfield 7, 3) := by decide +kernel
theorem dX12_lots_114 : decode cX12_lots 114 = .ok (.iload 5, 2) := by decide +kernel
theorem dX12_lots_116 : decode cX12_lots 116 = .ok (.baload, 1) := by decide +kernel
theorem dX12_lots_117 : decode cX12_lots 117 = .ok (.istore 6, 2) := by decide +kernel
theorem dX12_lots_119 : decode cX12_lots 119 = .ok (.iconst (-1), 1) := by decide +kernel
theorem dX12_lots_120 : decode cX12_lots 120 = .ok (.istore 7, 2) := by decide +kernel
theorem dX12_lots_122 : decode cX12_lots 122 = .ok (.iconst 0, 1) := by decide +kernel
theorem dX12_lots_123 : decode cX12_lots 123 = .ok (.istore 8, 2) := by decide +kernel
theorem dX12_lots_125 : decode cX12_lots 125 = .ok (.iload 8, 2) := by decide +kernel
theorem dX12_lots_127 : decode cX12_lots 127 = .ok (.aload_n 0, 1) := by decide +kernel
theorem dX12_lots_128 : decode cX12_lots 128 = .ok (.getfield 50, 3) := by decide +kernel
theorem dX12_lots_131 : decode cX12_lots 131 = .ok (.iload 6, 2) := by decide +kernel
theorem dX12_lots_133 : decode cX12_lots 133 = .ok (.iaload, 1) := by decide +kernel
theorem dX12_lots_134 : decode cX12_lots 134 = .ok (.if_icmp .ge 85, 3) := by decide +kernel
theorem dX12_lots_137 : decode cX12_lots 137 = .ok (.aload_n 0, 1) := by decide +kernel
theorem dX12_lots_138 : decode cX12_lots 138 = .ok (.getfield 47, 3) := by decide +kernel
theorem dX12_lots_141 : decode cX12_lots 141 = .ok (.bipush 12, 2) := by decide +kernel
theorem dX12_lots_143 : decode cX12_lots 143 = .ok (.iload 6, 2) := by decide +kernel
theorem dX12_lots_145 : decode cX12_lots 145 = .ok (.imul, 1) := by decide +kernel
theorem dX12_lots_146 : decode cX12_lots 146 = .ok (.iload 8, 2) := by decide +kernel
theorem dX12_lots_148 : decode cX12_lots 148 = .ok (.iadd, 1) := by decide +kernel
theorem dX12_lots_149 : decode cX12_lots 149 = .ok (.iaload, 1) := by decide +kernel
theorem dX12_lots_150 : decode cX12_lots 150 = .ok (.istore 9, 2) := by decide +kernel
theorem dX12_lots_152 : decode cX12_lots 152 = .ok (.lload_n 2, 1) := by decide +kernel
theorem dX12_lots_153 : decode cX12_lots 153 = .ok (.iload 9, 2) := by decide +kernel
theorem dX12_lots_155 : decode cX12_lots 155 = .ok (.lshr, 1) := by decide +kernel
theorem dX12_lots_156 : decode cX12_lots 156 = .ok (.lconst 1, 1) := by decide +kernel
theorem dX12_lots_157 : decode cX12_lots 157 = .ok (.land, 1) := by decide +kernel
theorem dX12_lots_158 : decode cX12_lots 158 = .ok (.lconst 0, 1) := by decide +kernel
theorem dX12_lots_159 : decode cX12_lots 159 = .ok (.lcmp, 1) := by decide +kernel
theorem dX12_lots_160 : decode cX12_lots 160 = .ok (.ifCond .ne 53, 3) := by decide +kernel
theorem dX12_lots_163 : decode cX12_lots 163 = .ok (.iload 7, 2) := by decide +kernel
theorem dX12_lots_165 : decode cX12_lots 165 = .ok (.ifCond .lt 44, 3) := by decide +kernel
theorem dX12_lots_168 : decode cX12_lots 168 = .ok (.aload_n 0, 1) := by decide +kernel
theorem dX12_lots_169 : decode cX12_lots 169 = .ok (.getfield 13, 3) := by decide +kernel
theorem dX12_lots_172 : decode cX12_lots 172 = .ok (.iload 9, 2) := by decide +kernel
theorem dX12_lots_174 : decode cX12_lots 174 = .ok (.iaload, 1) := by decide +kernel
theorem dX12_lots_175 : decode cX12_lots 175 = .ok (.aload_n 0, 1) := by decide +kernel
theorem dX12_lots_176 : decode cX12_lots 176 = .ok (.getfield 13, 3) := by decide +kernel
theorem dX12_lots_179 : decode cX12_lots 179 = .ok (.iload 7, 2) := by decide +kernel
theorem dX12_lots_181 : decode cX12_lots 181 = .ok (.iaload, 1) := by decide +kernel
theorem dX12_lots_182 : decode cX12_lots 182 = .ok (.if_icmp .gt 27, 3) := by decide +kernel
theorem dX12_lots_185 : decode cX12_lots 185 = .ok (.aload_n 0, 1) := by decide +kernel
theorem dX12_lots_186 : decode cX12_lots 186 = .ok (.getfield 13, 3) := by decide +kernel
theorem dX12_lots_189 : decode cX12_lots 189 = .ok (.iload 9, 2) := by decide +kernel
theorem dX12_lots_191 : decode cX12_lots 191 = .ok (.iaload, 1) := by decide +kernel
theorem dX12_lots_192 : decode cX12_lots 192 = .ok (.aload_n 0, 1) := by decide +kernel
theorem dX12_lots_193 : decode cX12_lots 193 = .ok (.getfield 13, 3) := by decide +kernel
theorem dX12_lots_196 : decode cX12_lots 196 = .ok (.iload 7, 2) := by decide +kernel
theorem dX12_lots_198 : decode cX12_lots 198 = .ok (.iaload, 1) := by decide +kernel
theorem dX12_lots_199 : decode cX12_lots 199 = .ok (.if_icmp .ne 14, 3) := by decide +kernel
theorem dX12_lots_202 : decode cX12_lots 202 = .ok (.iload 9, 2) := by decide +kernel
theorem dX12_lots_204 : decode cX12_lots 204 = .ok (.iload 7, 2) := by decide +kernel
theorem dX12_lots_206 : decode cX12_lots 206 = .ok (.if_icmp .ge 7, 3) := by decide +kernel
theorem dX12_lots_209 : decode cX12_lots 209 = .ok (.iload 9, 2) := by decide +kernel
theorem dX12_lots_211 : decode cX12_lots 211 = .ok (.istore 7, 2) := by decide +kernel
theorem dX12_lots_213 : decode cX12_lots 213 = .ok (.iinc 8 1, 3) := by decide +kernel
theorem dX12_lots_216 : decode cX12_lots 216 = .ok (.goto (-91), 3) := by decide +kernel
theorem dX12_lots_219 : decode cX12_lots 219 = .ok (.aload_n 0, 1) := by decide +kernel
theorem dX12_lots_220 : decode cX12_lots 220 = .ok (.getfield 100, 3) := by decide +kernel
theorem dX12_lots_223 : decode cX12_lots 223 = .ok (.iload 6, 2) := by decide +kernel
theorem dX12_lots_225 : decode cX12_lots 225 = .ok (.iload 7, 2) := by decide +kernel
theorem dX12_lots_227 : decode cX12_lots 227 = .ok (.iastore, 1) := by decide +kernel
theorem dX12_lots_228 : decode cX12_lots 228 = .ok (.iload 7, 2) := by decide +kernel
theorem dX12_lots_230 : decode cX12_lots 230 = .ok (.ifCond .ge 6, 3) := by decide +kernel
theorem dX12_lots_233 : decode cX12_lots 233 = .ok (.goto 22, 3) := by decide +kernel
theorem dX12_lots_236 : decode cX12_lots 236 = .ok (.lload_n 2, 1) := by decide +kernel
theorem dX12_lots_237 : decode cX12_lots 237 = .ok (.lconst 1, 1) := by decide +kernel
theorem dX12_lots_238 : decode cX12_lots 238 = .ok (.iload 7, 2) := by decide +kernel
theorem dX12_lots_240 : decode cX12_lots 240 = .ok (.lshl, 1) := by decide +kernel
theorem dX12_lots_241 : decode cX12_lots 241 = .ok (.lor, 1) := by decide +kernel
theorem dX12_lots_242 : decode cX12_lots 242 = .ok (.lstore_n 2, 1) := by decide +kernel
theorem dX12_lots_243 : decode cX12_lots 243 = .ok (.iload 4, 2) := by decide +kernel
theorem dX12_lots_245 : decode cX12_lots 245 = .ok (.aload_n 0, 1) := by decide +kernel
theorem dX12_lots_246 : decode cX12_lots 246 = .ok (.getfield 13, 3) := by decide +kernel
theorem dX12_lots_249 : decode cX12_lots 249 = .ok (.iload 7, 2) := by decide +kernel
theorem dX12_lots_251 : decode cX12_lots 251 = .ok (.iaload, 1) := by decide +kernel
theorem dX12_lots_252 : decode cX12_lots 252 = .ok (.iadd, 1) := by decide +kernel
theorem dX12_lots_253 : decode cX12_lots 253 = .ok (.istore 4, 2) := by decide +kernel
theorem dX12_lots_255 : decode cX12_lots 255 = .ok (.iinc 5 1, 3) := by decide +kernel
theorem dX12_lots_258 : decode cX12_lots 258 = .ok (.goto (-157), 3) := by decide +kernel
theorem dX12_lots_261 : decode cX12_lots 261 = .ok (.iload 4, 2) := by decide +kernel
theorem dX12_lots_263 : decode cX12_lots 263 = .ok (.ireturn, 1) := by decide +kernel
set_option maxRecDepth 20000 in
theorem ggX12_drawn_X12_isPerson : GoodIn wsX12_drawn wsX12_isPerson := goodIn_r _ [8, 9, 10, 11, 12, 13, 14, 15, 16, 17, 18, 19, 20, 21, 22, 23, 24, 25, 26, 27, 28, 29, 30, 31, 32, 33, 34, 35, 36, 37, 38, 39, 40, 41, 42, 43, 44, 45, 46, 47, 48, 49, 50, 51, 52, 53, 54, 55, 56, 57, 58, 59, 60, 61, 62, 63, 64, 65, 66, 67, 68, 69, 70, 71] (by decide +kernel) (by decide +kernel)
set_option maxRecDepth 20000 in
theorem gX12_drawn_X12_isPerson : GoodIn wsX12_drawn (wsV RX12 197 RX12 yX12_isPerson wsX12_isPerson) := goodIn_app (goodIn_of _ (by decide +kernel)) ggX12_drawn_X12_isPerson
theorem dX12_drawn_0 : decode cX12_drawn 0 = .ok (.aload_n 0, 1) := by decide +kernel
theorem dX12_drawn_1 : decode cX12_drawn 1 = .ok (.iconst 0, 1) := by decide +kernel
theorem dX12_drawn_2 : decode cX12_drawn 2 = .ok (.putfield 133, 3) := by decide +kernel
theorem dX12_drawn_5 : decode cX12_drawn 5 = .ok (.aload_n 0, 1) := by decide +kernel
theorem dX12_drawn_6 : decode cX12_drawn 6 = .ok (.iload_n 1, 1) := by decide +kernel
theorem dX12_drawn_7 : decode cX12_drawn 7 = .ok (.invokevirtual 197, 3) := by decide +kernel
theorem dX12_drawn_10 : decode cX12_drawn 10 = .ok (.ifCond .eq 19, 3) := by decide +kernel
theorem dX12_drawn_13 : decode cX12_drawn 13 = .ok (.aload_n 0, 1) := by decide +kernel
theorem dX12_drawn_14 : decode cX12_drawn 14 = .ok (.getfield 320, 3) := by decide +kernel
theorem dX12_drawn_17 : decode cX12_drawn 17 = .ok (.ifCond .eq 12, 3) := by decide +kernel
theorem dX12_drawn_20 : decode cX12_drawn 20 = .ok (.aload_n 0, 1) := by decide +kernel
theorem dX12_drawn_21 : decode cX12_drawn 21 = .ok (.getfield 100, 3) := by decide +kernel
theorem dX12_drawn_24 : decode cX12_drawn 24 = .ok (.iload_n 1, 1) := by decide +kernel
theorem dX12_drawn_25 : decode cX12_drawn 25 = .ok (.iaload, 1) := by decide +kernel
theorem dX12_drawn_26 : decode cX12_drawn 26 = .ok (.goto 4, 3) := by decide +kernel
theorem dX12_drawn_29 : decode cX12_drawn 29 = .ok (.iconst (-1), 1) := by decide +kernel
theorem dX12_drawn_30 : decode cX12_drawn 30 = .ok (.ireturn, 1) := by decide +kernel
set_option maxRecDepth 20000 in
theorem ggX12_bid_X12_taken : GoodIn wsX12_bid wsX12_taken := goodIn_r _ [10, 11, 2, 12, 18, 19, 20, 21, 22, 23, 24, 25, 26, 27, 28, 29, 30, 31, 32, 33, 34, 35, 36, 37, 38, 39, 40, 41, 42, 43, 44, 45, 46, 47, 48, 49, 50, 51, 52, 53, 54, 55, 56, 57, 58, 59, 60, 61, 62, 63, 64, 65, 66, 67, 68, 69, 70, 71, 72, 73, 74, 75, 76, 77, 78, 79] (by decide +kernel) (by decide +kernel)
set_option maxRecDepth 20000 in
theorem gX12_bid_X12_taken : GoodIn wsX12_bid (wsV RX12 165 RX12 yX12_taken wsX12_taken) := goodIn_app (goodIn_of _ (by decide +kernel)) ggX12_bid_X12_taken
set_option maxRecDepth 20000 in
theorem ggX12_bid_X12_isPerson : GoodIn wsX12_bid wsX12_isPerson := goodIn_r _ [16, 17, 18, 19, 20, 21, 22, 23, 24, 25, 26, 27, 28, 29, 30, 31, 32, 33, 34, 35, 36, 37, 38, 39, 40, 41, 42, 43, 44, 45, 46, 47, 48, 49, 50, 51, 52, 53, 54, 55, 56, 57, 58, 59, 60, 61, 62, 63, 64, 65, 66, 67, 68, 69, 70, 71, 72, 73, 74, 75, 76, 77, 78, 79] (by decide +kernel) (by decide +kernel)
set_option maxRecDepth 20000 in
theorem gX12_bid_X12_isPerson : GoodIn wsX12_bid (wsV RX12 197 RX12 yX12_isPerson wsX12_isPerson) := goodIn_app (goodIn_of _ (by decide +kernel)) ggX12_bid_X12_isPerson
theorem dX12_bid_0 : decode cX12_bid 0 = .ok (.aload_n 0, 1) := by decide +kernel
theorem dX12_bid_1 : decode cX12_bid 1 = .ok (.iconst 0, 1) := by decide +kernel
theorem dX12_bid_2 : decode cX12_bid 2 = .ok (.putfield 133, 3) := by decide +kernel
theorem dX12_bid_5 : decode cX12_bid 5 = .ok (.aload_n 0, 1) := by decide +kernel
theorem dX12_bid_6 : decode cX12_bid 6 = .ok (.invokevirtual 165, 3) := by decide +kernel
theorem dX12_bid_9 : decode cX12_bid 9 = .ok (.aload_n 0, 1) := by decide +kernel
theorem dX12_bid_10 : decode cX12_bid 10 = .ok (.iload_n 1, 1) := by decide +kernel
theorem dX12_bid_11 : decode cX12_bid 11 = .ok (.invokevirtual 197, 3) := by decide +kernel
theorem dX12_bid_14 : decode cX12_bid 14 = .ok (.ifCond .eq 16, 3) := by decide +kernel
theorem dX12_bid_17 : decode cX12_bid 17 = .ok (.aload_n 0, 1) := by decide +kernel
theorem dX12_bid_18 : decode cX12_bid 18 = .ok (.getfield 144, 3) := by decide +kernel
theorem dX12_bid_21 : decode cX12_bid 21 = .ok (.aload_n 0, 1) := by decide +kernel
theorem dX12_bid_22 : decode cX12_bid 22 = .ok (.getfield 50, 3) := by decide +kernel
theorem dX12_bid_25 : decode cX12_bid 25 = .ok (.iload_n 1, 1) := by decide +kernel
theorem dX12_bid_26 : decode cX12_bid 26 = .ok (.iaload, 1) := by decide +kernel
theorem dX12_bid_27 : decode cX12_bid 27 = .ok (.if_icmp .eq 5, 3) := by decide +kernel
theorem dX12_bid_30 : decode cX12_bid 30 = .ok (.iconst 0, 1) := by decide +kernel
theorem dX12_bid_31 : decode cX12_bid 31 = .ok (.ireturn, 1) := by decide +kernel
theorem dX12_bid_32 : decode cX12_bid 32 = .ok (.iconst 0, 1) := by decide +kernel
theorem dX12_bid_33 : decode cX12_bid 33 = .ok (.istore_n 2, 1) := by decide +kernel
theorem dX12_bid_34 : decode cX12_bid 34 = .ok (.iload_n 2, 1) := by decide +kernel
theorem dX12_bid_35 : decode cX12_bid 35 = .ok (.aload_n 0, 1) := by decide +kernel
theorem dX12_bid_36 : decode cX12_bid 36 = .ok (.getfield 144, 3) := by decide +kernel
theorem dX12_bid_39 : decode cX12_bid 39 = .ok (.if_icmp .ge 30, 3) := by decide +kernel
theorem dX12_bid_42 : decode cX12_bid 42 = .ok (.aload_n 0, 1) := by decide +kernel
theorem dX12_bid_43 : decode cX12_bid 43 = .ok (.getfield 130, 3) := by decide +kernel
theorem dX12_bid_46 : decode cX12_bid 46 = .ok (.bipush 12, 2) := by decide +kernel
theorem dX12_bid_48 : decode cX12_bid 48 = .ok (.iload_n 1, 1) := by decide +kernel
theorem dX12_bid_49 : decode cX12_bid 49 = .ok (.imul, 1) := by decide +kernel
theorem dX12_bid_50 : decode cX12_bid 50 = .ok (.iload_n 2, 1) := by decide +kernel
theorem dX12_bid_51 : decode cX12_bid 51 = .ok (.iadd, 1) := by decide +kernel
theorem dX12_bid_52 : decode cX12_bid 52 = .ok (.aload_n 0, 1) := by decide +kernel
theorem dX12_bid_53 : decode cX12_bid 53 = .ok (.getfield 7, 3) := by decide +kernel
theorem dX12_bid_56 : decode cX12_bid 56 = .ok (.iload_n 2, 1) := by decide +kernel
theorem dX12_bid_57 : decode cX12_bid 57 = .ok (.baload, 1) := by decide +kernel
theorem dX12_bid_58 : decode cX12_bid 58 = .ok (.sipush 255, 3) := by decide +kernel
theorem dX12_bid_61 : decode cX12_bid 61 = .ok (.iand, 1) := by decide +kernel
theorem dX12_bid_62 : decode cX12_bid 62 = .ok (.iastore, 1) := by decide +kernel
theorem dX12_bid_63 : decode cX12_bid 63 = .ok (.iinc 2 1, 3) := by decide +kernel
theorem dX12_bid_66 : decode cX12_bid 66 = .ok (.goto (-32), 3) := by decide +kernel
theorem dX12_bid_69 : decode cX12_bid 69 = .ok (.iconst 1, 1) := by decide +kernel
theorem dX12_bid_70 : decode cX12_bid 70 = .ok (.ireturn, 1) := by decide +kernel
set_option maxRecDepth 20000 in
theorem ggX12_solve_X12_enter : GoodIn wsX12_solve wsX12_enter := goodIn_r _ [9, 10, 11, 12, 3, 4, 1, 2, 13, 14, 15, 16, 17, 18, 19, 20, 21, 22, 23, 24, 25, 26, 27, 28, 29, 30, 31, 32, 33, 34, 35, 36, 37, 38, 39, 40, 41, 42, 43, 44, 45, 46, 47, 48, 49, 50, 51, 52, 53, 54, 55, 56, 57, 58, 59, 60, 61, 62, 63, 64, 65, 66, 67, 68, 69, 70, 71, 72, 73, 74, 75] (by decide +kernel) (by decide +kernel)
set_option maxRecDepth 20000 in
theorem gX12_solve_X12_enter : GoodIn wsX12_solve (wsV RX12 323 RX12 yX12_enter wsX12_enter) := goodIn_app (goodIn_of _ (by decide +kernel)) ggX12_solve_X12_enter
theorem dX12_solve_0 : decode cX12_solve 0 = .ok (.iconst 0, 1) := by decide +kernel
theorem dX12_solve_1 : decode cX12_solve 1 = .ok (.istore_n 2, 1) := by decide +kernel
theorem dX12_solve_2 : decode cX12_solve 2 = .ok (.iload_n 2, 1) := by decide +kernel
theorem dX12_solve_3 : decode cX12_solve 3 = .ok (.bipush 9, 2) := by decide +kernel
theorem dX12_solve_5 : decode cX12_solve 5 = .ok (.if_icmp .ge 16, 3) := by decide +kernel
theorem dX12_solve_8 : decode cX12_solve 8 = .ok (.aload_n 0, 1) := by decide +kernel
theorem dX12_solve_9 : decode cX12_solve 9 = .ok (.getfield 109, 3) := by decide +kernel
theorem dX12_solve_12 : decode cX12_solve 12 = .ok (.iload_n 2, 1) := by decide +kernel
theorem dX12_solve_13 : decode cX12_solve 13 = .ok (.iconst 0, 1) := by decide +kernel
theorem dX12_solve_14 : decode cX12_solve 14 = .ok (.iastore, 1) := by decide +kernel
theorem dX12_solve_15 : decode cX12_solve 15 = .ok (.iinc 2 1, 3) := by decide +kernel
theorem dX12_solve_18 : decode cX12_solve 18 = .ok (.goto (-16), 3) := by decide +kernel
theorem dX12_solve_21 : decode cX12_solve 21 = .ok (.iconst 0, 1) := by decide +kernel
theorem dX12_solve_22 : decode cX12_solve 22 = .ok (.istore_n 2, 1) := by decide +kernel
theorem dX12_solve_23 : decode cX12_solve 23 = .ok (.iload_n 2, 1) := by decide +kernel
theorem dX12_solve_24 : decode cX12_solve 24 = .ok (.bipush 72, 2) := by decide +kernel
theorem dX12_solve_26 : decode cX12_solve 26 = .ok (.if_icmp .gt 23, 3) := by decide +kernel
theorem dX12_solve_29 : decode cX12_solve 29 = .ok (.aload_n 0, 1) := by decide +kernel
theorem dX12_solve_30 : decode cX12_solve 30 = .ok (.getfield 112, 3) := by decide +kernel
theorem dX12_solve_33 : decode cX12_solve 33 = .ok (.iload_n 2, 1) := by decide +kernel
theorem dX12_solve_34 : decode cX12_solve 34 = .ok (.iconst 0, 1) := by decide +kernel
theorem dX12_solve_35 : decode cX12_solve 35 = .ok (.iastore, 1) := by decide +kernel
theorem dX12_solve_36 : decode cX12_solve 36 = .ok (.aload_n 0, 1) := by decide +kernel
theorem dX12_solve_37 : decode cX12_solve 37 = .ok (.getfield 115, 3) := by decide +kernel
theorem dX12_solve_40 : decode cX12_solve 40 = .ok (.iload_n 2, 1) := by decide +kernel
theorem dX12_solve_41 : decode cX12_solve 41 = .ok (.iconst 0, 1) := by decide +kernel
theorem dX12_solve_42 : decode cX12_solve 42 = .ok (.iastore, 1) := by decide +kernel
theorem dX12_solve_43 : decode cX12_solve 43 = .ok (.iinc 2 1, 3) := by decide +kernel
theorem dX12_solve_46 : decode cX12_solve 46 = .ok (.goto (-23), 3) := by decide +kernel
theorem dX12_solve_49 : decode cX12_solve 49 = .ok (.iconst 1, 1) := by decide +kernel
theorem dX12_solve_50 : decode cX12_solve 50 = .ok (.istore_n 2, 1) := by decide +kernel
theorem dX12_solve_51 : decode cX12_solve 51 = .ok (.iload_n 2, 1) := by decide +kernel
theorem dX12_solve_52 : decode cX12_solve 52 = .ok (.iload_n 1, 1) := by decide +kernel
theorem dX12_solve_53 : decode cX12_solve 53 = .ok (.if_icmp .gt 14, 3) := by decide +kernel
theorem dX12_solve_56 : decode cX12_solve 56 = .ok (.aload_n 0, 1) := by decide +kernel
theorem dX12_solve_57 : decode cX12_solve 57 = .ok (.iload_n 2, 1) := by decide +kernel
theorem dX12_solve_58 : decode cX12_solve 58 = .ok (.invokevirtual 323, 3) := by decide +kernel
theorem dX12_solve_61 : decode cX12_solve 61 = .ok (.iinc 2 1, 3) := by decide +kernel
theorem dX12_solve_64 : decode cX12_solve 64 = .ok (.goto (-13), 3) := by decide +kernel
theorem dX12_solve_67 : decode cX12_solve 67 = .ok (.iconst 0, 1) := by decide +kernel
theorem dX12_solve_68 : decode cX12_solve 68 = .ok (.istore_n 2, 1) := by decide +kernel
theorem dX12_solve_69 : decode cX12_solve 69 = .ok (.iconst 1, 1) := by decide +kernel
theorem dX12_solve_70 : decode cX12_solve 70 = .ok (.istore_n 3, 1) := by decide +kernel
theorem dX12_solve_71 : decode cX12_solve 71 = .ok (.iload_n 3, 1) := by decide +kernel
theorem dX12_solve_72 : decode cX12_solve 72 = .ok (.bipush 72, 2) := by decide +kernel
theorem dX12_solve_74 : decode cX12_solve 74 = .ok (.if_icmp .gt 41, 3) := by decide +kernel
theorem dX12_solve_77 : decode cX12_solve 77 = .ok (.aload_n 0, 1) := by decide +kernel
theorem dX12_solve_78 : decode cX12_solve 78 = .ok (.getfield 115, 3) := by decide +kernel
theorem dX12_solve_81 : decode cX12_solve 81 = .ok (.iload_n 3, 1) := by decide +kernel
theorem dX12_solve_82 : decode cX12_solve 82 = .ok (.iaload, 1) := by decide +kernel
theorem dX12_solve_83 : decode cX12_solve 83 = .ok (.ifCond .le 26, 3) := by decide +kernel
theorem dX12_solve_86 : decode cX12_solve 86 = .ok (.iload_n 2, 1) := by decide +kernel
theorem dX12_solve_87 : decode cX12_solve 87 = .ok (.aload_n 0, 1) := by decide +kernel
theorem dX12_solve_88 : decode cX12_solve 88 = .ok (.getfield 103, 3) := by decide +kernel
theorem dX12_solve_91 : decode cX12_solve 91 = .ok (.bipush 72, 2) := by decide +kernel
theorem dX12_solve_93 : decode cX12_solve 93 = .ok (.aload_n 0, 1) := by decide +kernel
theorem dX12_solve_94 : decode cX12_solve 94 = .ok (.getfield 115, 3) := by decide +kernel
theorem dX12_solve_97 : decode cX12_solve 97 = .ok (.iload_n 3, 1) := by decide +kernel
theorem dX12_solve_98 : decode cX12_solve 98 = .ok (.iaload, 1) := by decide +kernel
theorem dX12_solve_99 : decode cX12_solve 99 = .ok (.iconst 1, 1) := by decide +kernel
theorem dX12_solve_100 : decode cX12_solve 100 = .ok (.isub, 1) := by decide +kernel
theorem dX12_solve_101 : decode cX12_solve 101 = .ok (.imul, 1) := by decide +kernel
theorem dX12_solve_102 : decode cX12_solve 102 = .ok (.iload_n 3, 1) := by decide +kernel
theorem dX12_solve_103 : decode cX12_solve 103 = .ok (.iadd, 1) := by decide +kernel
theorem dX12_solve_104 : decode cX12_solve 104 = .ok (.iconst 1, 1) := by decide +kernel
theorem dX12_solve_105 : decode cX12_solve 105 = .ok (.isub, 1) := by decide +kernel
theorem dX12_solve_106 : decode cX12_solve 106 = .ok (.iaload, 1) := by decide +kernel
theorem dX12_solve_107 : decode cX12_solve 107 = .ok (.iadd, 1) := by decide +kernel
theorem dX12_solve_108 : decode cX12_solve 108 = .ok (.istore_n 2, 1) := by decide +kernel
theorem dX12_solve_109 : decode cX12_solve 109 = .ok (.iinc 3 1, 3) := by decide +kernel
theorem dX12_solve_112 : decode cX12_solve 112 = .ok (.goto (-41), 3) := by decide +kernel
theorem dX12_solve_115 : decode cX12_solve 115 = .ok (.iload_n 2, 1) := by decide +kernel
theorem dX12_solve_116 : decode cX12_solve 116 = .ok (.ireturn, 1) := by decide +kernel
theorem dX12_enter_0 : decode cX12_enter 0 = .ok (.iconst 0, 1) := by decide +kernel
theorem dX12_enter_1 : decode cX12_enter 1 = .ok (.istore_n 2, 1) := by decide +kernel
theorem dX12_enter_2 : decode cX12_enter 2 = .ok (.iload_n 2, 1) := by decide +kernel
theorem dX12_enter_3 : decode cX12_enter 3 = .ok (.bipush 72, 2) := by decide +kernel
theorem dX12_enter_5 : decode cX12_enter 5 = .ok (.if_icmp .gt 25, 3) := by decide +kernel
theorem dX12_enter_8 : decode cX12_enter 8 = .ok (.aload_n 0, 1) := by decide +kernel
theorem dX12_enter_9 : decode cX12_enter 9 = .ok (.getfield 121, 3) := by decide +kernel
theorem dX12_enter_12 : decode cX12_enter 12 = .ok (.iload_n 2, 1) := by decide +kernel
theorem dX12_enter_13 : decode cX12_enter 13 = .ok (.ldc_w 326, 3) := by decide +kernel
theorem dX12_enter_16 : decode cX12_enter 16 = .ok (.iastore, 1) := by decide +kernel
theorem dX12_enter_17 : decode cX12_enter 17 = .ok (.aload_n 0, 1) := by decide +kernel
theorem dX12_enter_18 : decode cX12_enter 18 = .ok (.getfield 127, 3) := by decide +kernel
theorem dX12_enter_21 : decode cX12_enter 21 = .ok (.iload_n 2, 1) := by decide +kernel
theorem dX12_enter_22 : decode cX12_enter 22 = .ok (.iconst 0, 1) := by decide +kernel
theorem dX12_enter_23 : decode cX12_enter 23 = .ok (.bastore, 1) := by decide +kernel
theorem dX12_enter_24 : decode cX12_enter 24 = .ok (.iinc 2 1, 3) := by decide +kernel
theorem dX12_enter_27 : decode cX12_enter 27 = .ok (.goto (-25), 3) := by decide +kernel
theorem dX12_enter_30 : decode cX12_enter 30 = .ok (.aload_n 0, 1) := by decide +kernel
theorem dX12_enter_31 : decode cX12_enter 31 = .ok (.getfield 115, 3) := by decide +kernel
theorem dX12_enter_34 : decode cX12_enter 34 = .ok (.iconst 0, 1) := by decide +kernel
theorem dX12_enter_35 : decode cX12_enter 35 = .ok (.iload_n 1, 1) := by decide +kernel
theorem dX12_enter_36 : decode cX12_enter 36 = .ok (.iastore, 1) := by decide +kernel
theorem dX12_enter_37 : decode cX12_enter 37 = .ok (.iconst 0, 1) := by decide +kernel
theorem dX12_enter_38 : decode cX12_enter 38 = .ok (.istore_n 2, 1) := by decide +kernel
theorem dX12_enter_39 : decode cX12_enter 39 = .ok (.aload_n 0, 1) := by decide +kernel
theorem dX12_enter_40 : decode cX12_enter 40 = .ok (.getfield 115, 3) := by decide +kernel
theorem dX12_enter_43 : decode cX12_enter 43 = .ok (.iload_n 2, 1) := by decide +kernel
theorem dX12_enter_44 : decode cX12_enter 44 = .ok (.iaload, 1) := by decide +kernel
theorem dX12_enter_45 : decode cX12_enter 45 = .ok (.ifCond .eq 222, 3) := by decide +kernel
theorem dX12_enter_48 : decode cX12_enter 48 = .ok (.aload_n 0, 1) := by decide +kernel
theorem dX12_enter_49 : decode cX12_enter 49 = .ok (.getfield 127, 3) := by decide +kernel
theorem dX12_enter_52 : decode cX12_enter 52 = .ok (.iload_n 2, 1) := by decide +kernel
theorem dX12_enter_53 : decode cX12_enter 53 = .ok (.iconst 1, 1) := by decide +kernel
theorem dX12_enter_54 : decode cX12_enter 54 = .ok (.bastore, 1) := by decide +kernel
theorem dX12_enter_55 : decode cX12_enter 55 = .ok (.aload_n 0, 1) := by decide +kernel
theorem dX12_enter_56 : decode cX12_enter 56 = .ok (.getfield 115, 3) := by decide +kernel
theorem dX12_enter_59 : decode cX12_enter 59 = .ok (.iload_n 2, 1) := by decide +kernel
theorem dX12_enter_60 : decode cX12_enter 60 = .ok (.iaload, 1) := by decide +kernel
theorem dX12_enter_61 : decode cX12_enter 61 = .ok (.istore_n 3, 1) := by decide +kernel
theorem dX12_enter_62 : decode cX12_enter 62 = .ok (.iconst 0, 1) := by decide +kernel
theorem dX12_enter_63 : decode cX12_enter 63 = .ok (.istore 4, 2) := by decide +kernel
theorem dX12_enter_65 : decode cX12_enter 65 = .ok (.iconst 1, 1) := by decide +kernel
theorem dX12_enter_66 : decode cX12_enter 66 = .ok (.istore 5, 2) := by decide +kernel
theorem dX12_enter_68 : decode cX12_enter 68 = .ok (.iload 5, 2) := by decide +kernel
theorem dX12_enter_70 : decode cX12_enter 70 = .ok (.bipush 72, 2) := by decide +kernel
theorem dX12_enter_72 : decode cX12_enter 72 = .ok (.if_icmp .gt 110, 3) := by decide +kernel
theorem dX12_enter_75 : decode cX12_enter 75 = .ok (.aload_n 0, 1) := by decide +kernel
theorem dX12_enter_76 : decode cX12_enter 76 = .ok (.getfield 127, 3) := by decide +kernel
theorem dX12_enter_79 : decode cX12_enter 79 = .ok (.iload 5, 2) := by decide +kernel
theorem dX12_enter_81 : decode cX12_enter 81 = .ok (.baload, 1) := by decide +kernel
theorem dX12_enter_82 : decode cX12_enter 82 = .ok (.ifCond .eq 6, 3) := by decide +kernel
theorem dX12_enter_85 : decode cX12_enter 85 = .ok (.goto 91, 3) := by decide +kernel
theorem dX12_enter_88 : decode cX12_enter 88 = .ok (.aload_n 0, 1) := by decide +kernel
theorem dX12_enter_89 : decode cX12_enter 89 = .ok (.getfield 103, 3) := by decide +kernel
theorem dX12_enter_92 : decode cX12_enter 92 = .ok (.bipush 72, 2) := by decide +kernel
theorem dX12_enter_94 : decode cX12_enter 94 = .ok (.iload_n 3, 1) := by decide +kernel
theorem dX12_enter_95 : decode cX12_enter 95 = .ok (.iconst 1, 1) := by decide +kernel
theorem dX12_enter_96 : decode cX12_enter 96 = .ok (.isub, 1) := by decide +kernel
theorem dX12_enter_97 : decode cX12_enter 97 = .ok (.imul, 1) := by decide +kernel
theorem dX12_enter_98 : decode cX12_enter 98 = .ok (.iload 5, 2) := by decide +kernel
theorem dX12_enter_100 : decode cX12_enter 100 = .ok (.iadd, 1) := by decide +kernel
theorem dX12_enter_101 : decode cX12_enter 101 = .ok (.iconst 1, 1) := by decide +kernel
theorem dX12_enter_102 : decode cX12_enter 102 = .ok (.isub, 1) := by decide +kernel
theorem dX12_enter_103 : decode cX12_enter 103 = .ok (.iaload, 1) := by decide +kernel
theorem dX12_enter_104 : decode cX12_enter 104 = .ok (.aload_n 0, 1) := by decide +kernel
theorem dX12_enter_105 : decode cX12_enter 105 = .ok (.getfield 109, 3) := by decide +kernel
theorem dX12_enter_108 : decode cX12_enter 108 = .ok (.iload_n 3, 1) := by decide +kernel
theorem dX12_enter_109 : decode cX12_enter 109 = .ok (.iaload, 1) := by decide +kernel
theorem dX12_enter_110 : decode cX12_enter 110 = .ok (.isub, 1) := by decide +kernel
theorem dX12_enter_111 : decode cX12_enter 111 = .ok (.aload_n 0, 1) := by decide +kernel
theorem dX12_enter_112 : decode cX12_enter 112 = .ok (.getfield 112, 3) := by decide +kernel
theorem dX12_enter_115 : decode cX12_enter 115 = .ok (.iload 5, 2) := by decide +kernel
theorem dX12_enter_117 : decode cX12_enter 117 = .ok (.iaload, 1) := by decide +kernel
theorem dX12_enter_118 : decode cX12_enter 118 = .ok (.isub, 1) := by decide +kernel
theorem dX12_enter_119 : decode cX12_enter 119 = .ok (.istore 6, 2) := by decide +kernel
theorem dX12_enter_121 : decode cX12_enter 121 = .ok (.iload 6, 2) := by decide +kernel
theorem dX12_enter_123 : decode cX12_enter 123 = .ok (.aload_n 0, 1) := by decide +kernel
theorem dX12_enter_124 : decode cX12_enter 124 = .ok (.getfield 121, 3) := by decide +kernel
theorem dX12_enter_127 : decode cX12_enter 127 = .ok (.iload 5, 2) := by decide +kernel
theorem dX12_enter_129 : decode cX12_enter 129 = .ok (.iaload, 1) := by decide +kernel
theorem dX12_enter_130 : decode cX12_enter 130 = .ok (.if_icmp .ge 20, 3) := by decide +kernel
theorem dX12_enter_133 : decode cX12_enter 133 = .ok (.aload_n 0, 1) := by decide +kernel
theorem dX12_enter_134 : decode cX12_enter 134 = .ok (.getfield 121, 3) := by decide +kernel
theorem dX12_enter_137 : decode cX12_enter 137 = .ok (.iload 5, 2) := by decide +kernel
theorem dX12_enter_139 : decode cX12_enter 139 = .ok (.iload 6, 2) := by decide +kernel
theorem dX12_enter_141 : decode cX12_enter 141 = .ok (.iastore, 1) := by decide +kernel
theorem dX12_enter_142 : decode cX12_enter 142 = .ok (.aload_n 0, 1) := by decide +kernel
theorem dX12_enter_143 : decode cX12_enter 143 = .ok (.getfield 118, 3) := by decide +kernel
theorem dX12_enter_146 : decode cX12_enter 146 = .ok (.iload 5, 2) := by decide +kernel
theorem dX12_enter_148 : decode cX12_enter 148 = .ok (.iload_n 2, 1) := by decide +kernel
theorem dX12_enter_149 : decode cX12_enter 149 = .ok (.iastore, 1) := by decide +kernel
theorem dX12_enter_150 : decode cX12_enter 150 = .ok (.iload 4, 2) := by decide +kernel
theorem dX12_enter_152 : decode cX12_enter 152 = .ok (.ifCond .eq 20, 3) := by decide +kernel
theorem dX12_enter_155 : decode cX12_enter 155 = .ok (.aload_n 0, 1) := by decide +kernel
theorem dX12_enter_156 : decode cX12_enter 156 = .ok (.getfield 121, 3) := by decide +kernel
theorem dX12_enter_159 : decode cX12_enter 159 = .ok (.iload 5, 2) := by decide +kernel
theorem dX12_enter_161 : decode cX12_enter 161 = .ok (.iaload, 1) := by decide +kernel
theorem dX12_enter_162 : decode cX12_enter 162 = .ok (.aload_n 0, 1) := by decide +kernel
theorem dX12_enter_163 : decode cX12_enter 163 = .ok (.getfield 121, 3) := by decide +kernel
theorem dX12_enter_166 : decode cX12_enter 166 = .ok (.iload 4, 2) := by decide +kernel
theorem dX12_enter_168 : decode cX12_enter 168 = .ok (.iaload, 1) := by decide +kernel
theorem dX12_enter_169 : decode cX12_enter 169 = .ok (.if_icmp .ge 7, 3) := by decide +kernel
theorem dX12_enter_172 : decode cX12_enter 172 = .ok (.iload 5, 2) := by decide +kernel
theorem dX12_enter_174 : decode cX12_enter 174 = .ok (.istore 4, 2) := by decide +kernel
theorem dX12_enter_176 : decode cX12_enter 176 = .ok (.iinc 5 1, 3) := by decide +kernel
theorem dX12_enter_179 : decode cX12_enter 179 = .ok (.goto (-111), 3) := by decide +kernel
theorem dX12_enter_182 : decode cX12_enter 182 = .ok (.aload_n 0, 1) := by decide +kernel
theorem dX12_enter_183 : decode cX12_enter 183 = .ok (.getfield 121, 3) := by decide +kernel
theorem dX12_enter_186 : decode cX12_enter 186 = .ok (.iload 4, 2) := by decide +kernel
theorem dX12_enter_188 : decode cX12_enter 188 = .ok (.iaload, 1) := by decide +kernel
theorem dX12_enter_189 : decode cX12_enter 189 = .ok (.istore 5, 2) := by decide +kernel
theorem dX12_enter_191 : decode cX12_enter 191 = .ok (.iconst 0, 1) := by decide +kernel
theorem dX12_enter_192 : decode cX12_enter 192 = .ok (.istore 6, 2) := by decide +kernel
theorem dX12_enter_194 : decode cX12_enter 194 = .ok (.iload 6, 2) := by decide +kernel
theorem dX12_enter_196 : decode cX12_enter 196 = .ok (.bipush 72, 2) := by decide +kernel
theorem dX12_enter_198 : decode cX12_enter 198 = .ok (.if_icmp .gt 63, 3) := by decide +kernel
theorem dX12_enter_201 : decode cX12_enter 201 = .ok (.aload_n 0, 1) := by decide +kernel
theorem dX12_enter_202 : decode cX12_enter 202 = .ok (.getfield 127, 3) := by decide +kernel
theorem dX12_enter_205 : decode cX12_enter 205 = .ok (.iload 6, 2) := by decide +kernel
theorem dX12_enter_207 : decode cX12_enter 207 = .ok (.baload, 1) := by decide +kernel
theorem dX12_enter_208 : decode cX12_enter 208 = .ok (.ifCond .eq 35, 3) := by decide +kernel
theorem dX12_enter_211 : decode cX12_enter 211 = .ok (.aload_n 0, 1) := by decide +kernel
theorem dX12_enter_212 : decode cX12_enter 212 = .ok (.getfield 109, 3) := by decide +kernel
theorem dX12_enter_215 : decode cX12_enter 215 = .ok (.aload_n 0, 1) := by decide +kernel
theorem dX12_enter_216 : decode cX12_enter 216 = .ok (.getfield 115, 3) := by decide +kernel
theorem dX12_enter_219 : decode cX12_enter 219 = .ok (.iload 6, 2) := by decide +kernel
theorem dX12_enter_221 : decode cX12_enter 221 = .ok (.iaload, 1) := by decide +kernel
theorem dX12_enter_222 : decode cX12_enter 222 = .ok (.dup2, 1) := by decide +kernel
theorem dX12_enter_223 : decode cX12_enter 223 = .ok (.iaload, 1) := by decide +kernel
theorem dX12_enter_224 : decode cX12_enter 224 = .ok (.iload 5, 2) := by decide +kernel
theorem dX12_enter_226 : decode cX12_enter 226 = .ok (.iadd, 1) := by decide +kernel
theorem dX12_enter_227 : decode cX12_enter 227 = .ok (.iastore, 1) := by decide +kernel
theorem dX12_enter_228 : decode cX12_enter 228 = .ok (.aload_n 0, 1) := by decide +kernel
theorem dX12_enter_229 : decode cX12_enter 229 = .ok (.getfield 112, 3) := by decide +kernel
theorem dX12_enter_232 : decode cX12_enter 232 = .ok (.iload 6, 2) := by decide +kernel
theorem dX12_enter_234 : decode cX12_enter 234 = .ok (.dup2, 1) := by decide +kernel
theorem dX12_enter_235 : decode cX12_enter 235 = .ok (.iaload, 1) := by decide +kernel
theorem dX12_enter_236 : decode cX12_enter 236 = .ok (.iload 5, 2) := by decide +kernel
theorem dX12_enter_238 : decode cX12_enter 238 = .ok (.isub, 1) := by decide +kernel
theorem dX12_enter_239 : decode cX12_enter 239 = .ok (.iastore, 1) := by decide +kernel
theorem dX12_enter_240 : decode cX12_enter 240 = .ok (.goto 15, 3) := by decide +kernel
theorem dX12_enter_243 : decode cX12_enter 243 = .ok (.aload_n 0, 1) := by decide +kernel
theorem dX12_enter_244 : decode cX12_enter 244 = .ok (.getfield 121, 3) := by decide +kernel
theorem dX12_enter_247 : decode cX12_enter 247 = .ok (.iload 6, 2) := by decide +kernel
theorem dX12_enter_249 : decode cX12_enter 249 = .ok (.dup2, 1) := by decide +kernel
theorem dX12_enter_250 : decode cX12_enter 250 = .ok (.iaload, 1) := by decide +kernel
theorem dX12_enter_251 : decode cX12_enter 251 = .ok (.iload 5, 2) := by decide +kernel
theorem dX12_enter_253 : decode cX12_enter 253 = .ok (.isub, 1) := by decide +kernel
theorem dX12_enter_254 : decode cX12_enter 254 = .ok (.iastore, 1) := by decide +kernel
theorem dX12_enter_255 : decode cX12_enter 255 = .ok (.iinc 6 1, 3) := by decide +kernel
theorem dX12_enter_258 : decode cX12_enter 258 = .ok (.goto (-64), 3) := by decide +kernel
theorem dX12_enter_261 : decode cX12_enter 261 = .ok (.iload 4, 2) := by decide +kernel
theorem dX12_enter_263 : decode cX12_enter 263 = .ok (.istore_n 2, 1) := by decide +kernel
theorem dX12_enter_264 : decode cX12_enter 264 = .ok (.goto (-225), 3) := by decide +kernel
theorem dX12_enter_267 : decode cX12_enter 267 = .ok (.iload_n 2, 1) := by decide +kernel
theorem dX12_enter_268 : decode cX12_enter 268 = .ok (.ifCond .eq 30, 3) := by decide +kernel
theorem dX12_enter_271 : decode cX12_enter 271 = .ok (.aload_n 0, 1) := by decide +kernel
theorem dX12_enter_272 : decode cX12_enter 272 = .ok (.getfield 115, 3) := by decide +kernel
theorem dX12_enter_275 : decode cX12_enter 275 = .ok (.iload_n 2, 1) := by decide +kernel
theorem dX12_enter_276 : decode cX12_enter 276 = .ok (.aload_n 0, 1) := by decide +kernel
theorem dX12_enter_277 : decode cX12_enter 277 = .ok (.getfield 115, 3) := by decide +kernel
theorem dX12_enter_280 : decode cX12_enter 280 = .ok (.aload_n 0, 1) := by decide +kernel
theorem dX12_enter_281 : decode cX12_enter 281 = .ok (.getfield 118, 3) := by decide +kernel
theorem dX12_enter_284 : decode cX12_enter 284 = .ok (.iload_n 2, 1) := by decide +kernel
theorem dX12_enter_285 : decode cX12_enter 285 = .ok (.iaload, 1) := by decide +kernel
theorem dX12_enter_286 : decode cX12_enter 286 = .ok (.iaload, 1) := by decide +kernel
theorem dX12_enter_287 : decode cX12_enter 287 = .ok (.iastore, 1) := by decide +kernel
theorem dX12_enter_288 : decode cX12_enter 288 = .ok (.aload_n 0, 1) := by decide +kernel
theorem dX12_enter_289 : decode cX12_enter 289 = .ok (.getfield 118, 3) := by decide +kernel
theorem dX12_enter_292 : decode cX12_enter 292 = .ok (.iload_n 2, 1) := by decide +kernel
theorem dX12_enter_293 : decode cX12_enter 293 = .ok (.iaload, 1) := by decide +kernel
theorem dX12_enter_294 : decode cX12_enter 294 = .ok (.istore_n 2, 1) := by decide +kernel
theorem dX12_enter_295 : decode cX12_enter 295 = .ok (.goto (-28), 3) := by decide +kernel
theorem dX12_enter_298 : decode cX12_enter 298 = .ok (.return_, 1) := by decide +kernel
set_option maxRecDepth 20000 in
theorem ggX12_sell_X12_solve : GoodIn wsX12_sell wsX12_solve := goodIn_r _ [13, 14, 15, 16, 3, 17, 18, 19, 12, 20, 21, 22, 23, 24, 30, 31, 32, 33, 34, 35, 36, 37, 38, 39, 40, 41, 42, 43, 44, 45, 46, 47, 48, 49, 50, 51, 52, 53, 54, 55, 56, 57, 58, 59, 60, 61, 62, 63, 64, 65, 66, 67, 68, 69, 70, 71, 72, 73, 74, 75, 76, 77, 78, 79, 80, 81, 82, 83, 84, 85, 86, 87, 88, 89, 90, 91] (by decide +kernel) (by decide +kernel)
set_option maxRecDepth 20000 in
theorem gX12_sell_X12_solve : GoodIn wsX12_sell (wsV RX12 328 RX12 yX12_solve wsX12_solve) := goodIn_app (goodIn_of _ (by decide +kernel)) ggX12_sell_X12_solve
set_option maxRecDepth 20000 in
theorem ggX12_sell_X12_holds : GoodIn wsX12_sell wsX12_holds := goodIn_r _ [28, 3, 4, 29, 9, 10, 11, 12, 13, 14, 15, 16, 17, 18, 19, 20, 21, 22, 23, 24, 30, 31, 32, 33, 34, 35, 36, 37, 38, 39, 40, 41, 42, 43, 44, 45, 46, 47, 48, 49, 50, 51, 52, 53, 54, 55, 56, 57, 58, 59, 60, 61, 62, 63, 64, 65, 66, 67, 68, 69, 70, 71, 72, 73, 74, 75, 76, 77, 78, 79, 80, 81, 82, 83, 84, 85, 86, 87, 88, 89, 90, 91] (by decide +kernel) (by decide +kernel)
set_option maxRecDepth 20000 in
theorem gX12_sell_X12_holds : GoodIn wsX12_sell (wsV RX12 331 RX12 yX12_holds wsX12_holds) := goodIn_app (goodIn_of _ (by decide +kernel)) ggX12_sell_X12_holds
theorem dX12_sell_0 : decode cX12_sell 0 = .ok (.aload_n 0, 1) := by decide +kernel
theorem dX12_sell_1 : decode cX12_sell 1 = .ok (.iconst 0, 1) := by decide +kernel
theorem dX12_sell_2 : decode cX12_sell 2 = .ok (.putfield 133, 3) := by decide +kernel
theorem dX12_sell_5 : decode cX12_sell 5 = .ok (.aload_n 0, 1) := by decide +kernel
theorem dX12_sell_6 : decode cX12_sell 6 = .ok (.getfield 150, 3) := by decide +kernel
theorem dX12_sell_9 : decode cX12_sell 9 = .ok (.bipush 8, 2) := by decide +kernel
theorem dX12_sell_11 : decode cX12_sell 11 = .ok (.if_icmp .ge 10, 3) := by decide +kernel
theorem dX12_sell_14 : decode cX12_sell 14 = .ok (.aload_n 0, 1) := by decide +kernel
theorem dX12_sell_15 : decode cX12_sell 15 = .ok (.getfield 150, 3) := by decide +kernel
theorem dX12_sell_18 : decode cX12_sell 18 = .ok (.goto 5, 3) := by decide +kernel
theorem dX12_sell_21 : decode cX12_sell 21 = .ok (.bipush 8, 2) := by decide +kernel
theorem dX12_sell_23 : decode cX12_sell 23 = .ok (.istore_n 1, 1) := by decide +kernel
theorem dX12_sell_24 : decode cX12_sell 24 = .ok (.iconst 0, 1) := by decide +kernel
theorem dX12_sell_25 : decode cX12_sell 25 = .ok (.istore_n 2, 1) := by decide +kernel
theorem dX12_sell_26 : decode cX12_sell 26 = .ok (.iload_n 2, 1) := by decide +kernel
theorem dX12_sell_27 : decode cX12_sell 27 = .ok (.iload_n 1, 1) := by decide +kernel
theorem dX12_sell_28 : decode cX12_sell 28 = .ok (.if_icmp .ge 117, 3) := by decide +kernel
theorem dX12_sell_31 : decode cX12_sell 31 = .ok (.iconst 0, 1) := by decide +kernel
theorem dX12_sell_32 : decode cX12_sell 32 = .ok (.istore_n 3, 1) := by decide +kernel
theorem dX12_sell_33 : decode cX12_sell 33 = .ok (.iload_n 3, 1) := by decide +kernel
theorem dX12_sell_34 : decode cX12_sell 34 = .ok (.bipush 72, 2) := by decide +kernel
theorem dX12_sell_36 : decode cX12_sell 36 = .ok (.if_icmp .ge 35, 3) := by decide +kernel
theorem dX12_sell_39 : decode cX12_sell 39 = .ok (.aload_n 0, 1) := by decide +kernel
theorem dX12_sell_40 : decode cX12_sell 40 = .ok (.getfield 103, 3) := by decide +kernel
theorem dX12_sell_43 : decode cX12_sell 43 = .ok (.bipush 72, 2) := by decide +kernel
theorem dX12_sell_45 : decode cX12_sell 45 = .ok (.iload_n 2, 1) := by decide +kernel
theorem dX12_sell_46 : decode cX12_sell 46 = .ok (.imul, 1) := by decide +kernel
theorem dX12_sell_47 : decode cX12_sell 47 = .ok (.iload_n 3, 1) := by decide +kernel
theorem dX12_sell_48 : decode cX12_sell 48 = .ok (.iadd, 1) := by decide +kernel
theorem dX12_sell_49 : decode cX12_sell 49 = .ok (.iload_n 3, 1) := by decide +kernel
theorem dX12_sell_50 : decode cX12_sell 50 = .ok (.bipush 64, 2) := by decide +kernel
theorem dX12_sell_52 : decode cX12_sell 52 = .ok (.if_icmp .ge 9, 3) := by decide +kernel
theorem dX12_sell_55 : decode cX12_sell 55 = .ok (.ldc_w 327, 3) := by decide +kernel
theorem dX12_sell_58 : decode cX12_sell 58 = .ok (.goto 6, 3) := by decide +kernel
theorem dX12_sell_61 : decode cX12_sell 61 = .ok (.sipush 255, 3) := by decide +kernel
theorem dX12_sell_64 : decode cX12_sell 64 = .ok (.iastore, 1) := by decide +kernel
theorem dX12_sell_65 : decode cX12_sell 65 = .ok (.iinc 3 1, 3) := by decide +kernel
theorem dX12_sell_68 : decode cX12_sell 68 = .ok (.goto (-35), 3) := by decide +kernel
theorem dX12_sell_71 : decode cX12_sell 71 = .ok (.iconst 0, 1) := by decide +kernel
theorem dX12_sell_72 : decode cX12_sell 72 = .ok (.istore_n 3, 1) := by decide +kernel
theorem dX12_sell_73 : decode cX12_sell 73 = .ok (.iload_n 3, 1) := by decide +kernel
theorem dX12_sell_74 : decode cX12_sell 74 = .ok (.aload_n 0, 1) := by decide +kernel
theorem dX12_sell_75 : decode cX12_sell 75 = .ok (.getfield 50, 3) := by decide +kernel
theorem dX12_sell_78 : decode cX12_sell 78 = .ok (.iload_n 2, 1) := by decide +kernel
theorem dX12_sell_79 : decode cX12_sell 79 = .ok (.iaload, 1) := by decide +kernel
theorem dX12_sell_80 : decode cX12_sell 80 = .ok (.if_icmp .ge 59, 3) := by decide +kernel
theorem dX12_sell_83 : decode cX12_sell 83 = .ok (.aload_n 0, 1) := by decide +kernel
theorem dX12_sell_84 : decode cX12_sell 84 = .ok (.getfield 130, 3) := by decide +kernel
theorem dX12_sell_87 : decode cX12_sell 87 = .ok (.bipush 12, 2) := by decide +kernel
theorem dX12_sell_89 : decode cX12_sell 89 = .ok (.iload_n 2, 1) := by decide +kernel
theorem dX12_sell_90 : decode cX12_sell 90 = .ok (.imul, 1) := by decide +kernel
theorem dX12_sell_91 : decode cX12_sell 91 = .ok (.iload_n 3, 1) := by decide +kernel
theorem dX12_sell_92 : decode cX12_sell 92 = .ok (.iadd, 1) := by decide +kernel
theorem dX12_sell_93 : decode cX12_sell 93 = .ok (.iaload, 1) := by decide +kernel
theorem dX12_sell_94 : decode cX12_sell 94 = .ok (.ifCond .le 39, 3) := by decide +kernel
theorem dX12_sell_97 : decode cX12_sell 97 = .ok (.aload_n 0, 1) := by decide +kernel
theorem dX12_sell_98 : decode cX12_sell 98 = .ok (.getfield 103, 3) := by decide +kernel
theorem dX12_sell_101 : decode cX12_sell 101 = .ok (.bipush 72, 2) := by decide +kernel
theorem dX12_sell_103 : decode cX12_sell 103 = .ok (.iload_n 2, 1) := by decide +kernel
theorem dX12_sell_104 : decode cX12_sell 104 = .ok (.imul, 1) := by decide +kernel
theorem dX12_sell_105 : decode cX12_sell 105 = .ok (.aload_n 0, 1) := by decide +kernel
theorem dX12_sell_106 : decode cX12_sell 106 = .ok (.getfield 47, 3) := by decide +kernel
theorem dX12_sell_109 : decode cX12_sell 109 = .ok (.bipush 12, 2) := by decide +kernel
theorem dX12_sell_111 : decode cX12_sell 111 = .ok (.iload_n 2, 1) := by decide +kernel
theorem dX12_sell_112 : decode cX12_sell 112 = .ok (.imul, 1) := by decide +kernel
theorem dX12_sell_113 : decode cX12_sell 113 = .ok (.iload_n 3, 1) := by decide +kernel
theorem dX12_sell_114 : decode cX12_sell 114 = .ok (.iadd, 1) := by decide +kernel
theorem dX12_sell_115 : decode cX12_sell 115 = .ok (.iaload, 1) := by decide +kernel
theorem dX12_sell_116 : decode cX12_sell 116 = .ok (.iadd, 1) := by decide +kernel
theorem dX12_sell_117 : decode cX12_sell 117 = .ok (.sipush 255, 3) := by decide +kernel
theorem dX12_sell_120 : decode cX12_sell 120 = .ok (.aload_n 0, 1) := by decide +kernel
theorem dX12_sell_121 : decode cX12_sell 121 = .ok (.getfield 130, 3) := by decide +kernel
theorem dX12_sell_124 : decode cX12_sell 124 = .ok (.bipush 12, 2) := by decide +kernel
theorem dX12_sell_126 : decode cX12_sell 126 = .ok (.iload_n 2, 1) := by decide +kernel
theorem dX12_sell_127 : decode cX12_sell 127 = .ok (.imul, 1) := by decide +kernel
theorem dX12_sell_128 : decode cX12_sell 128 = .ok (.iload_n 3, 1) := by decide +kernel
theorem dX12_sell_129 : decode cX12_sell 129 = .ok (.iadd, 1) := by decide +kernel
theorem dX12_sell_130 : decode cX12_sell 130 = .ok (.iaload, 1) := by decide +kernel
theorem dX12_sell_131 : decode cX12_sell 131 = .ok (.isub, 1) := by decide +kernel
theorem dX12_sell_132 : decode cX12_sell 132 = .ok (.iastore, 1) := by decide +kernel
theorem dX12_sell_133 : decode cX12_sell 133 = .ok (.iinc 3 1, 3) := by decide +kernel
theorem dX12_sell_136 : decode cX12_sell 136 = .ok (.goto (-63), 3) := by decide +kernel
theorem dX12_sell_139 : decode cX12_sell 139 = .ok (.iinc 2 1, 3) := by decide +kernel
theorem dX12_sell_142 : decode cX12_sell 142 = .ok (.goto (-116), 3) := by decide +kernel
theorem dX12_sell_145 : decode cX12_sell 145 = .ok (.aload_n 0, 1) := by decide +kernel
theorem dX12_sell_146 : decode cX12_sell 146 = .ok (.iload_n 1, 1) := by decide +kernel
theorem dX12_sell_147 : decode cX12_sell 147 = .ok (.invokevirtual 328, 3) := by decide +kernel
theorem dX12_sell_150 : decode cX12_sell 150 = .ok (.istore_n 2, 1) := by decide +kernel
theorem dX12_sell_151 : decode cX12_sell 151 = .ok (.iconst 0, 1) := by decide +kernel
theorem dX12_sell_152 : decode cX12_sell 152 = .ok (.istore_n 3, 1) := by decide +kernel
theorem dX12_sell_153 : decode cX12_sell 153 = .ok (.iload_n 3, 1) := by decide +kernel
theorem dX12_sell_154 : decode cX12_sell 154 = .ok (.iload_n 1, 1) := by decide +kernel
theorem dX12_sell_155 : decode cX12_sell 155 = .ok (.if_icmp .ge 49, 3) := by decide +kernel
theorem dX12_sell_158 : decode cX12_sell 158 = .ok (.iconst 0, 1) := by decide +kernel
theorem dX12_sell_159 : decode cX12_sell 159 = .ok (.istore 4, 2) := by decide +kernel
theorem dX12_sell_161 : decode cX12_sell 161 = .ok (.aload_n 0, 1) := by decide +kernel
theorem dX12_sell_162 : decode cX12_sell 162 = .ok (.iload_n 3, 1) := by decide +kernel
theorem dX12_sell_163 : decode cX12_sell 163 = .ok (.iload 4, 2) := by decide +kernel
theorem dX12_sell_165 : decode cX12_sell 165 = .ok (.iload_n 1, 1) := by decide +kernel
theorem dX12_sell_166 : decode cX12_sell 166 = .ok (.iload_n 2, 1) := by decide +kernel
theorem dX12_sell_167 : decode cX12_sell 167 = .ok (.invokevirtual 331, 3) := by decide +kernel
theorem dX12_sell_170 : decode cX12_sell 170 = .ok (.ifCond .ne 9, 3) := by decide +kernel
theorem dX12_sell_173 : decode cX12_sell 173 = .ok (.iinc 4 1, 3) := by decide +kernel
theorem dX12_sell_176 : decode cX12_sell 176 = .ok (.goto (-15), 3) := by decide +kernel
theorem dX12_sell_179 : decode cX12_sell 179 = .ok (.aload_n 0, 1) := by decide +kernel
theorem dX12_sell_180 : decode cX12_sell 180 = .ok (.getfield 124, 3) := by decide +kernel
theorem dX12_sell_183 : decode cX12_sell 183 = .ok (.iload_n 3, 1) := by decide +kernel
theorem dX12_sell_184 : decode cX12_sell 184 = .ok (.iload 4, 2) := by decide +kernel
theorem dX12_sell_186 : decode cX12_sell 186 = .ok (.bipush 64, 2) := by decide +kernel
theorem dX12_sell_188 : decode cX12_sell 188 = .ok (.if_icmp .ge 8, 3) := by decide +kernel
theorem dX12_sell_191 : decode cX12_sell 191 = .ok (.iload 4, 2) := by decide +kernel
theorem dX12_sell_193 : decode cX12_sell 193 = .ok (.goto 4, 3) := by decide +kernel
theorem dX12_sell_196 : decode cX12_sell 196 = .ok (.iconst (-1), 1) := by decide +kernel
theorem dX12_sell_197 : decode cX12_sell 197 = .ok (.iastore, 1) := by decide +kernel
theorem dX12_sell_198 : decode cX12_sell 198 = .ok (.iinc 3 1, 3) := by decide +kernel
theorem dX12_sell_201 : decode cX12_sell 201 = .ok (.goto (-48), 3) := by decide +kernel
theorem dX12_sell_204 : decode cX12_sell 204 = .ok (.sipush 255, 3) := by decide +kernel
theorem dX12_sell_207 : decode cX12_sell 207 = .ok (.iload_n 1, 1) := by decide +kernel
theorem dX12_sell_208 : decode cX12_sell 208 = .ok (.imul, 1) := by decide +kernel
theorem dX12_sell_209 : decode cX12_sell 209 = .ok (.iload_n 2, 1) := by decide +kernel
theorem dX12_sell_210 : decode cX12_sell 210 = .ok (.isub, 1) := by decide +kernel
theorem dX12_sell_211 : decode cX12_sell 211 = .ok (.ireturn, 1) := by decide +kernel
set_option maxRecDepth 20000 in
theorem ggX12_holds_X12_solve : GoodIn wsX12_holds wsX12_solve := goodIn_r _ [8, 9, 10, 11, 1, 12, 13, 14, 7, 15, 16, 17, 18, 19, 20, 21, 22, 23, 24, 25, 26, 27, 28, 29, 30, 31, 32, 33, 34, 35, 36, 37, 38, 39, 40, 41, 42, 43, 44, 45, 46, 47, 48, 49, 50, 51, 52, 53, 54, 55, 56, 57, 58, 59, 60, 61, 62, 63, 64, 65, 66, 67, 68, 69, 70, 71, 72, 73, 74, 75, 76, 77, 78, 79, 80, 81] (by decide +kernel) (by decide +kernel)
set_option maxRecDepth 20000 in
theorem gX12_holds_X12_solve : GoodIn wsX12_holds (wsV RX12 328 RX12 yX12_solve wsX12_solve) := goodIn_app (goodIn_of _ (by decide +kernel)) ggX12_holds_X12_solve
theorem dX12_holds_0 : decode cX12_holds 0 = .ok (.aload_n 0, 1) := by decide +kernel
theorem dX12_holds_1 : decode cX12_holds 1 = .ok (.getfield 103, 3) := by decide +kernel
theorem dX12_holds_4 : decode cX12_holds 4 = .ok (.bipush 72, 2) := by decide +kernel
theorem dX12_holds_6 : decode cX12_holds 6 = .ok (.iload_n 1, 1) := by decide +kernel
theorem dX12_holds_7 : decode cX12_holds 7 = .ok (.imul, 1) := by decide +kernel
theorem dX12_holds_8 : decode cX12_holds 8 = .ok (.iload_n 2, 1) := by decide +kernel
theorem dX12_holds_9 : decode cX12_holds 9 = .ok (.iadd, 1) := by decide +kernel
theorem dX12_holds_10 : decode cX12_holds 10 = .ok (.iaload, 1) := by decide +kernel
theorem dX12_holds_11 : decode cX12_holds 11 = .ok (.ldc_w 327, 3) := by decide +kernel
theorem dX12_holds_14 : decode cX12_holds 14 = .ok (.if_icmp .ne 5, 3) := by decide +kernel
theorem dX12_holds_17 : decode cX12_holds 17 = .ok (.iconst 0, 1) := by decide +kernel
theorem dX12_holds_18 : decode cX12_holds 18 = .ok (.ireturn, 1) := by decide +kernel
theorem dX12_holds_19 : decode cX12_holds 19 = .ok (.iconst 0, 1) := by decide +kernel
theorem dX12_holds_20 : decode cX12_holds 20 = .ok (.istore 5, 2) := by decide +kernel
theorem dX12_holds_22 : decode cX12_holds 22 = .ok (.iload 5, 2) := by decide +kernel
theorem dX12_holds_24 : decode cX12_holds 24 = .ok (.bipush 72, 2) := by decide +kernel
theorem dX12_holds_26 : decode cX12_holds 26 = .ok (.if_icmp .ge 49, 3) := by decide +kernel
theorem dX12_holds_29 : decode cX12_holds 29 = .ok (.aload_n 0, 1) := by decide +kernel
theorem dX12_holds_30 : decode cX12_holds 30 = .ok (.getfield 106, 3) := by decide +kernel
theorem dX12_holds_33 : decode cX12_holds 33 = .ok (.iload 5, 2) := by decide +kernel
theorem dX12_holds_35 : decode cX12_holds 35 = .ok (.aload_n 0, 1) := by decide +kernel
theorem dX12_holds_36 : decode cX12_holds 36 = .ok (.getfield 103, 3) := by decide +kernel
theorem dX12_holds_39 : decode cX12_holds 39 = .ok (.bipush 72, 2) := by decide +kernel
theorem dX12_holds_41 : decode cX12_holds 41 = .ok (.iload_n 1, 1) := by decide +kernel
theorem dX12_holds_42 : decode cX12_holds 42 = .ok (.imul, 1) := by decide +kernel
theorem dX12_holds_43 : decode cX12_holds 43 = .ok (.iload 5, 2) := by decide +kernel
theorem dX12_holds_45 : decode cX12_holds 45 = .ok (.iadd, 1) := by decide +kernel
theorem dX12_holds_46 : decode cX12_holds 46 = .ok (.iaload, 1) := by decide +kernel
theorem dX12_holds_47 : decode cX12_holds 47 = .ok (.iastore, 1) := by decide +kernel
theorem dX12_holds_48 : decode cX12_holds 48 = .ok (.iload 5, 2) := by decide +kernel
theorem dX12_holds_50 : decode cX12_holds 50 = .ok (.iload_n 2, 1) := by decide +kernel
theorem dX12_holds_51 : decode cX12_holds 51 = .ok (.if_icmp .eq 18, 3) := by decide +kernel
theorem dX12_holds_54 : decode cX12_holds 54 = .ok (.aload_n 0, 1) := by decide +kernel
theorem dX12_holds_55 : decode cX12_holds 55 = .ok (.getfield 103, 3) := by decide +kernel
theorem dX12_holds_58 : decode cX12_holds 58 = .ok (.bipush 72, 2) := by decide +kernel
theorem dX12_holds_60 : decode cX12_holds 60 = .ok (.iload_n 1, 1) := by decide +kernel
theorem dX12_holds_61 : decode cX12_holds 61 = .ok (.imul, 1) := by decide +kernel
theorem dX12_holds_62 : decode cX12_holds 62 = .ok (.iload 5, 2) := by decide +kernel
theorem dX12_holds_64 : decode cX12_holds 64 = .ok (.iadd, 1) := by decide +kernel
theorem dX12_holds_65 : decode cX12_holds 65 = .ok (.ldc_w 327, 3) := by decide +kernel
theorem dX12_holds_68 : decode cX12_holds 68 = .ok (.iastore, 1) := by decide +kernel
theorem dX12_holds_69 : decode cX12_holds 69 = .ok (.iinc 5 1, 3) := by decide +kernel
theorem dX12_holds_72 : decode cX12_holds 72 = .ok (.goto (-50), 3) := by decide +kernel
theorem dX12_holds_75 : decode cX12_holds 75 = .ok (.aload_n 0, 1) := by decide +kernel
theorem dX12_holds_76 : decode cX12_holds 76 = .ok (.iload_n 3, 1) := by decide +kernel
theorem dX12_holds_77 : decode cX12_holds 77 = .ok (.invokevirtual 328, 3) := by decide +kernel
theorem dX12_holds_80 : decode cX12_holds 80 = .ok (.iload 4, 2) := by decide +kernel
theorem dX12_holds_82 : decode cX12_holds 82 = .ok (.if_icmp .ne 5, 3) := by decide +kernel
theorem dX12_holds_85 : decode cX12_holds 85 = .ok (.iconst 1, 1) := by decide +kernel
theorem dX12_holds_86 : decode cX12_holds 86 = .ok (.ireturn, 1) := by decide +kernel
theorem dX12_holds_87 : decode cX12_holds 87 = .ok (.iconst 0, 1) := by decide +kernel
theorem dX12_holds_88 : decode cX12_holds 88 = .ok (.istore 5, 2) := by decide +kernel
theorem dX12_holds_90 : decode cX12_holds 90 = .ok (.iload 5, 2) := by decide +kernel
theorem dX12_holds_92 : decode cX12_holds 92 = .ok (.bipush 72, 2) := by decide +kernel
theorem dX12_holds_94 : decode cX12_holds 94 = .ok (.if_icmp .ge 28, 3) := by decide +kernel
theorem dX12_holds_97 : decode cX12_holds 97 = .ok (.aload_n 0, 1) := by decide +kernel
theorem dX12_holds_98 : decode cX12_holds 98 = .ok (.getfield 103, 3) := by decide +kernel
theorem dX12_holds_101 : decode cX12_holds 101 = .ok (.bipush 72, 2) := by decide +kernel
theorem dX12_holds_103 : decode cX12_holds 103 = .ok (.iload_n 1, 1) := by decide +kernel
theorem dX12_holds_104 : decode cX12_holds 104 = .ok (.imul, 1) := by decide +kernel
theorem dX12_holds_105 : decode cX12_holds 105 = .ok (.iload 5, 2) := by decide +kernel
theorem dX12_holds_107 : decode cX12_holds 107 = .ok (.iadd, 1) := by decide +kernel
theorem dX12_holds_108 : decode cX12_holds 108 = .ok (.aload_n 0, 1) := by decide +kernel
theorem dX12_holds_109 : decode cX12_holds 109 = .ok (.getfield 106, 3) := by decide +kernel
theorem dX12_holds_112 : decode cX12_holds 112 = .ok (.iload 5, 2) := by decide +kernel
theorem dX12_holds_114 : decode cX12_holds 114 = .ok (.iaload, 1) := by decide +kernel
theorem dX12_holds_115 : decode cX12_holds 115 = .ok (.iastore, 1) := by decide +kernel
theorem dX12_holds_116 : decode cX12_holds 116 = .ok (.iinc 5 1, 3) := by decide +kernel
theorem dX12_holds_119 : decode cX12_holds 119 = .ok (.goto (-29), 3) := by decide +kernel
theorem dX12_holds_122 : decode cX12_holds 122 = .ok (.iconst 0, 1) := by decide +kernel
theorem dX12_holds_123 : decode cX12_holds 123 = .ok (.ireturn, 1) := by decide +kernel
set_option maxRecDepth 20000 in
theorem ggX12_bought_X12_isPerson : GoodIn wsX12_bought wsX12_isPerson := goodIn_r _ [7, 8, 9, 10, 11, 12, 13, 14, 15, 16, 17, 18, 19, 20, 21, 22, 23, 24, 25, 26, 27, 28, 29, 30, 31, 32, 33, 34, 35, 36, 37, 38, 39, 40, 41, 42, 43, 44, 45, 46, 47, 48, 49, 50, 51, 52, 53, 54, 55, 56, 57, 58, 59, 60, 61, 62, 63, 64, 65, 66, 67, 68, 69, 70] (by decide +kernel) (by decide +kernel)
set_option maxRecDepth 20000 in
theorem gX12_bought_X12_isPerson : GoodIn wsX12_bought (wsV RX12 197 RX12 yX12_isPerson wsX12_isPerson) := goodIn_app (goodIn_of _ (by decide +kernel)) ggX12_bought_X12_isPerson
theorem dX12_bought_0 : decode cX12_bought 0 = .ok (.aload_n 0, 1) := by decide +kernel
theorem dX12_bought_1 : decode cX12_bought 1 = .ok (.iconst 0, 1) := by decide +kernel
theorem dX12_bought_2 : decode cX12_bought 2 = .ok (.putfield 133, 3) := by decide +kernel
theorem dX12_bought_5 : decode cX12_bought 5 = .ok (.aload_n 0, 1) := by decide +kernel
theorem dX12_bought_6 : decode cX12_bought 6 = .ok (.iload_n 1, 1) := by decide +kernel
theorem dX12_bought_7 : decode cX12_bought 7 = .ok (.invokevirtual 197, 3) := by decide +kernel
theorem dX12_bought_10 : decode cX12_bought 10 = .ok (.ifCond .eq 18, 3) := by decide +kernel
theorem dX12_bought_13 : decode cX12_bought 13 = .ok (.iload_n 1, 1) := by decide +kernel
theorem dX12_bought_14 : decode cX12_bought 14 = .ok (.bipush 8, 2) := by decide +kernel
theorem dX12_bought_16 : decode cX12_bought 16 = .ok (.if_icmp .ge 12, 3) := by decide +kernel
theorem dX12_bought_19 : decode cX12_bought 19 = .ok (.aload_n 0, 1) := by decide +kernel
theorem dX12_bought_20 : decode cX12_bought 20 = .ok (.getfield 124, 3) := by decide +kernel
theorem dX12_bought_23 : decode cX12_bought 23 = .ok (.iload_n 1, 1) := by decide +kernel
theorem dX12_bought_24 : decode cX12_bought 24 = .ok (.iaload, 1) := by decide +kernel
theorem dX12_bought_25 : decode cX12_bought 25 = .ok (.goto 4, 3) := by decide +kernel
theorem dX12_bought_28 : decode cX12_bought 28 = .ok (.iconst (-1), 1) := by decide +kernel
theorem dX12_bought_29 : decode cX12_bought 29 = .ok (.ireturn, 1) := by decide +kernel
theorem dX12_count_0 : decode cX12_count 0 = .ok (.aload_n 0, 1) := by decide +kernel
theorem dX12_count_1 : decode cX12_count 1 = .ok (.iconst 0, 1) := by decide +kernel
theorem dX12_count_2 : decode cX12_count 2 = .ok (.putfield 133, 3) := by decide +kernel
theorem dX12_count_5 : decode cX12_count 5 = .ok (.iconst 0, 1) := by decide +kernel
theorem dX12_count_6 : decode cX12_count 6 = .ok (.istore_n 2, 1) := by decide +kernel
theorem dX12_count_7 : decode cX12_count 7 = .ok (.iload_n 1, 1) := by decide +kernel
theorem dX12_count_8 : decode cX12_count 8 = .ok (.tableswitch 123 0 7 #[48, 53, 58, 98, 103, 108, 113, 118], 48) := by decide +kernel
theorem dX12_count_56 : decode cX12_count 56 = .ok (.aload_n 0, 1) := by decide +kernel
theorem dX12_count_57 : decode cX12_count 57 = .ok (.getfield 176, 3) := by decide +kernel
theorem dX12_count_60 : decode cX12_count 60 = .ok (.ireturn, 1) := by decide +kernel
theorem dX12_count_61 : decode cX12_count 61 = .ok (.aload_n 0, 1) := by decide +kernel
theorem dX12_count_62 : decode cX12_count 62 = .ok (.getfield 150, 3) := by decide +kernel
theorem dX12_count_65 : decode cX12_count 65 = .ok (.ireturn, 1) := by decide +kernel
theorem dX12_count_66 : decode cX12_count 66 = .ok (.iconst 0, 1) := by decide +kernel
theorem dX12_count_67 : decode cX12_count 67 = .ok (.istore_n 3, 1) := by decide +kernel
theorem dX12_count_68 : decode cX12_count 68 = .ok (.iload_n 3, 1) := by decide +kernel
theorem dX12_count_69 : decode cX12_count 69 = .ok (.bipush 64, 2) := by decide +kernel
theorem dX12_count_71 : decode cX12_count 71 = .ok (.if_icmp .ge 33, 3) := by decide +kernel
theorem dX12_count_74 : decode cX12_count 74 = .ok (.iload_n 2, 1) := by decide +kernel
theorem dX12_count_75 : decode cX12_count 75 = .ok (.aload_n 0, 1) := by decide +kernel
theorem dX12_count_76 : decode cX12_count 76 = .ok (.getfield 153, 3) := by decide +kernel
theorem dX12_count_79 : decode cX12_count 79 = .ok (.ifCond .eq 16, 3) := by decide +kernel
theorem dX12_count_82 : decode cX12_count 82 = .ok (.aload_n 0, 1) := by decide +kernel
theorem dX12_count_83 : decode cX12_count 83 = .ok (.getfield 20, 3) := by decide +kernel
theorem dX12_count_86 : decode cX12_count 86 = .ok (.iload_n 3, 1) := by decide +kernel
theorem dX12_count_87 : decode cX12_count 87 = .ok (.iaload, 1) := by decide +kernel
theorem dX12_count_88 : decode cX12_count 88 = .ok (.ifCond .lt 7, 3) := by decide +kernel
theorem dX12_count_91 : decode cX12_count 91 = .ok (.iconst 1, 1) := by decide +kernel
theorem dX12_count_92 : decode cX12_count 92 = .ok (.goto 4, 3) := by decide +kernel
theorem dX12_count_95 : decode cX12_count 95 = .ok (.iconst 0, 1) := by decide +kernel
