theorem dX12_rule_166 : decode cX12_rule 166 = .ok (.invokevirtual 252, 3) := by decide +kernel
theorem dX12_rule_169 : decode cX12_rule 169 = .ok (.ifCond .eq 7, 3) := by decide +kernel
theorem dX12_rule_172 : decode cX12_rule 172 = .ok (.iconst 0, 1) := by decide +kernel
theorem dX12_rule_173 : decode cX12_rule 173 = .ok (.goto 32, 3) := by decide +kernel
theorem dX12_rule_176 : decode cX12_rule 176 = .ok (.aload_n 0, 1) := by decide +kernel
theorem dX12_rule_177 : decode cX12_rule 177 = .ok (.ldc2_w 273, 3) := by decide +kernel
theorem dX12_rule_180 : decode cX12_rule 180 = .ok (.invokevirtual 252, 3) := by decide +kernel
theorem dX12_rule_183 : decode cX12_rule 183 = .ok (.ifCond .eq 7, 3) := by decide +kernel
theorem dX12_rule_186 : decode cX12_rule 186 = .ok (.iconst 1, 1) := by decide +kernel
theorem dX12_rule_187 : decode cX12_rule 187 = .ok (.goto 18, 3) := by decide +kernel
theorem dX12_rule_190 : decode cX12_rule 190 = .ok (.aload_n 0, 1) := by decide +kernel
theorem dX12_rule_191 : decode cX12_rule 191 = .ok (.ldc2_w 275, 3) := by decide +kernel
theorem dX12_rule_194 : decode cX12_rule 194 = .ok (.invokevirtual 252, 3) := by decide +kernel
theorem dX12_rule_197 : decode cX12_rule 197 = .ok (.ifCond .eq 7, 3) := by decide +kernel
theorem dX12_rule_200 : decode cX12_rule 200 = .ok (.iconst 2, 1) := by decide +kernel
theorem dX12_rule_201 : decode cX12_rule 201 = .ok (.goto 4, 3) := by decide +kernel
theorem dX12_rule_204 : decode cX12_rule 204 = .ok (.iconst (-1), 1) := by decide +kernel
theorem dX12_rule_205 : decode cX12_rule 205 = .ok (.istore_n 2, 1) := by decide +kernel
theorem dX12_rule_206 : decode cX12_rule 206 = .ok (.iload_n 2, 1) := by decide +kernel
theorem dX12_rule_207 : decode cX12_rule 207 = .ok (.ifCond .ge 65, 3) := by decide +kernel
theorem dX12_rule_210 : decode cX12_rule 210 = .ok (.aload_n 0, 1) := by decide +kernel
theorem dX12_rule_211 : decode cX12_rule 211 = .ok (.invokevirtual 264, 3) := by decide +kernel
theorem dX12_rule_214 : decode cX12_rule 214 = .ok (.ireturn, 1) := by decide +kernel
theorem dX12_rule_215 : decode cX12_rule 215 = .ok (.aload_n 0, 1) := by decide +kernel
theorem dX12_rule_216 : decode cX12_rule 216 = .ok (.getfield 214, 3) := by decide +kernel
theorem dX12_rule_219 : decode cX12_rule 219 = .ok (.iconst 2, 1) := by decide +kernel
theorem dX12_rule_220 : decode cX12_rule 220 = .ok (.if_icmp .eq 8, 3) := by decide +kernel
theorem dX12_rule_223 : decode cX12_rule 223 = .ok (.aload_n 0, 1) := by decide +kernel
theorem dX12_rule_224 : decode cX12_rule 224 = .ok (.invokevirtual 264, 3) := by decide +kernel
theorem dX12_rule_227 : decode cX12_rule 227 = .ok (.ireturn, 1) := by decide +kernel
theorem dX12_rule_228 : decode cX12_rule 228 = .ok (.aload_n 0, 1) := by decide +kernel
theorem dX12_rule_229 : decode cX12_rule 229 = .ok (.getfield 227, 3) := by decide +kernel
theorem dX12_rule_232 : decode cX12_rule 232 = .ok (.iload_n 1, 1) := by decide +kernel
theorem dX12_rule_233 : decode cX12_rule 233 = .ok (.ifCond .ne 8, 3) := by decide +kernel
theorem dX12_rule_236 : decode cX12_rule 236 = .ok (.bipush 120, 2) := by decide +kernel
theorem dX12_rule_238 : decode cX12_rule 238 = .ok (.goto 16, 3) := by decide +kernel
theorem dX12_rule_241 : decode cX12_rule 241 = .ok (.iload_n 1, 1) := by decide +kernel
theorem dX12_rule_242 : decode cX12_rule 242 = .ok (.iconst 2, 1) := by decide +kernel
theorem dX12_rule_243 : decode cX12_rule 243 = .ok (.if_icmp .ne 8, 3) := by decide +kernel
theorem dX12_rule_246 : decode cX12_rule 246 = .ok (.bipush 9, 2) := by decide +kernel
theorem dX12_rule_248 : decode cX12_rule 248 = .ok (.goto 6, 3) := by decide +kernel
theorem dX12_rule_251 : decode cX12_rule 251 = .ok (.sipush 999, 3) := by decide +kernel
theorem dX12_rule_254 : decode cX12_rule 254 = .ok (.if_icmp .le 13, 3) := by decide +kernel
theorem dX12_rule_257 : decode cX12_rule 257 = .ok (.aload_n 0, 1) := by decide +kernel
theorem dX12_rule_258 : decode cX12_rule 258 = .ok (.iconst 3, 1) := by decide +kernel
theorem dX12_rule_259 : decode cX12_rule 259 = .ok (.aload_n 0, 1) := by decide +kernel
theorem dX12_rule_260 : decode cX12_rule 260 = .ok (.getfield 211, 3) := by decide +kernel
theorem dX12_rule_263 : decode cX12_rule 263 = .ok (.invokevirtual 236, 3) := by decide +kernel
theorem dX12_rule_266 : decode cX12_rule 266 = .ok (.ireturn, 1) := by decide +kernel
theorem dX12_rule_267 : decode cX12_rule 267 = .ok (.aload_n 0, 1) := by decide +kernel
theorem dX12_rule_268 : decode cX12_rule 268 = .ok (.getfield 227, 3) := by decide +kernel
theorem dX12_rule_271 : decode cX12_rule 271 = .ok (.istore_n 2, 1) := by decide +kernel
theorem dX12_rule_272 : decode cX12_rule 272 = .ok (.aload_n 0, 1) := by decide +kernel
theorem dX12_rule_273 : decode cX12_rule 273 = .ok (.getfield 64, 3) := by decide +kernel
theorem dX12_rule_276 : decode cX12_rule 276 = .ok (.iload_n 1, 1) := by decide +kernel
theorem dX12_rule_277 : decode cX12_rule 277 = .ok (.iload_n 2, 1) := by decide +kernel
theorem dX12_rule_278 : decode cX12_rule 278 = .ok (.iastore, 1) := by decide +kernel
theorem dX12_rule_279 : decode cX12_rule 279 = .ok (.aload_n 0, 1) := by decide +kernel
theorem dX12_rule_280 : decode cX12_rule 280 = .ok (.invokevirtual 240, 3) := by decide +kernel
theorem dX12_rule_283 : decode cX12_rule 283 = .ok (.aload_n 0, 1) := by decide +kernel
theorem dX12_rule_284 : decode cX12_rule 284 = .ok (.getfield 214, 3) := by decide +kernel
theorem dX12_rule_287 : decode cX12_rule 287 = .ok (.iconst 3, 1) := by decide +kernel
theorem dX12_rule_288 : decode cX12_rule 288 = .ok (.if_icmp .eq 8, 3) := by decide +kernel
theorem dX12_rule_291 : decode cX12_rule 291 = .ok (.aload_n 0, 1) := by decide +kernel
theorem dX12_rule_292 : decode cX12_rule 292 = .ok (.invokevirtual 264, 3) := by decide +kernel
theorem dX12_rule_295 : decode cX12_rule 295 = .ok (.ireturn, 1) := by decide +kernel
theorem dX12_rule_296 : decode cX12_rule 296 = .ok (.aload_n 0, 1) := by decide +kernel
theorem dX12_rule_297 : decode cX12_rule 297 = .ok (.invokevirtual 240, 3) := by decide +kernel
theorem dX12_rule_300 : decode cX12_rule 300 = .ok (.iconst 1, 1) := by decide +kernel
theorem dX12_rule_301 : decode cX12_rule 301 = .ok (.ireturn, 1) := by decide +kernel
theorem dX12_fault_0 : decode cX12_fault 0 = .ok (.aload_n 0, 1) := by decide +kernel
theorem dX12_fault_1 : decode cX12_fault 1 = .ok (.iconst 0, 1) := by decide +kernel
theorem dX12_fault_2 : decode cX12_fault 2 = .ok (.putfield 133, 3) := by decide +kernel
theorem dX12_fault_5 : decode cX12_fault 5 = .ok (.aload_n 0, 1) := by decide +kernel
theorem dX12_fault_6 : decode cX12_fault 6 = .ok (.getfield 230, 3) := by decide +kernel
theorem dX12_fault_9 : decode cX12_fault 9 = .ok (.ireturn, 1) := by decide +kernel
theorem dX12_wait_0 : decode cX12_wait 0 = .ok (.aload_n 0, 1) := by decide +kernel
theorem dX12_wait_1 : decode cX12_wait 1 = .ok (.iconst 0, 1) := by decide +kernel
theorem dX12_wait_2 : decode cX12_wait 2 = .ok (.putfield 133, 3) := by decide +kernel
theorem dX12_wait_5 : decode cX12_wait 5 = .ok (.iload_n 1, 1) := by decide +kernel
theorem dX12_wait_6 : decode cX12_wait 6 = .ok (.ifCond .lt 22, 3) := by decide +kernel
theorem dX12_wait_9 : decode cX12_wait 9 = .ok (.iload_n 1, 1) := by decide +kernel
theorem dX12_wait_10 : decode cX12_wait 10 = .ok (.sipush 999, 3) := by decide +kernel
theorem dX12_wait_13 : decode cX12_wait 13 = .ok (.if_icmp .gt 15, 3) := by decide +kernel
theorem dX12_wait_16 : decode cX12_wait 16 = .ok (.aload_n 0, 1) := by decide +kernel
theorem dX12_wait_17 : decode cX12_wait 17 = .ok (.getfield 277, 3) := by decide +kernel
theorem dX12_wait_20 : decode cX12_wait 20 = .ok (.iload_n 1, 1) := by decide +kernel
theorem dX12_wait_21 : decode cX12_wait 21 = .ok (.iadd, 1) := by decide +kernel
theorem dX12_wait_22 : decode cX12_wait 22 = .ok (.sipush 999, 3) := by decide +kernel
theorem dX12_wait_25 : decode cX12_wait 25 = .ok (.if_icmp .le 5, 3) := by decide +kernel
theorem dX12_wait_28 : decode cX12_wait 28 = .ok (.iconst 0, 1) := by decide +kernel
theorem dX12_wait_29 : decode cX12_wait 29 = .ok (.ireturn, 1) := by decide +kernel
theorem dX12_wait_30 : decode cX12_wait 30 = .ok (.aload_n 0, 1) := by decide +kernel
theorem dX12_wait_31 : decode cX12_wait 31 = .ok (.dup, 1) := by decide +kernel
theorem dX12_wait_32 : decode cX12_wait 32 = .ok (.getfield 277, 3) := by decide +kernel
theorem dX12_wait_35 : decode cX12_wait 35 = .ok (.iload_n 1, 1) := by decide +kernel
theorem dX12_wait_36 : decode cX12_wait 36 = .ok (.iadd, 1) := by decide +kernel
theorem dX12_wait_37 : decode cX12_wait 37 = .ok (.putfield 277, 3) := by decide +kernel
theorem dX12_wait_40 : decode cX12_wait 40 = .ok (.iconst 1, 1) := by decide +kernel
theorem dX12_wait_41 : decode cX12_wait 41 = .ok (.ireturn, 1) := by decide +kernel
theorem dX12_isClaim_0 : decode cX12_isClaim 0 = .ok (.iload_n 1, 1) := by decide +kernel
theorem dX12_isClaim_1 : decode cX12_isClaim 1 = .ok (.ifCond .lt 15, 3) := by decide +kernel
theorem dX12_isClaim_4 : decode cX12_isClaim 4 = .ok (.iload_n 1, 1) := by decide +kernel
theorem dX12_isClaim_5 : decode cX12_isClaim 5 = .ok (.aload_n 0, 1) := by decide +kernel
theorem dX12_isClaim_6 : decode cX12_isClaim 6 = .ok (.getfield 280, 3) := by decide +kernel
theorem dX12_isClaim_9 : decode cX12_isClaim 9 = .ok (.if_icmp .ge 7, 3) := by decide +kernel
theorem dX12_isClaim_12 : decode cX12_isClaim 12 = .ok (.iconst 1, 1) := by decide +kernel
theorem dX12_isClaim_13 : decode cX12_isClaim 13 = .ok (.goto 4, 3) := by decide +kernel
theorem dX12_isClaim_16 : decode cX12_isClaim 16 = .ok (.iconst 0, 1) := by decide +kernel
theorem dX12_isClaim_17 : decode cX12_isClaim 17 = .ok (.ireturn, 1) := by decide +kernel
set_option maxRecDepth 20000 in
theorem ggX12_file_X12_isPerson : GoodIn wsX12_file wsX12_isPerson := goodIn_r _ [11, 12, 16, 17, 18, 19, 20, 21, 22, 23, 24, 25, 26, 27, 28, 29, 30, 31, 32, 33, 34, 35, 36, 37, 38, 39, 40, 41, 42, 43, 44, 45, 46, 47, 48, 49, 50, 51, 52, 53, 54, 55, 56, 57, 58, 59, 60, 61, 62, 63, 64, 65, 66, 67, 68, 69, 70, 71, 72, 73, 74, 75, 76, 77] (by decide +kernel) (by decide +kernel)
set_option maxRecDepth 20000 in
theorem gX12_file_X12_isPerson : GoodIn wsX12_file (wsV RX12 197 RX12 yX12_isPerson wsX12_isPerson) := goodIn_app (goodIn_of _ (by decide +kernel)) ggX12_file_X12_isPerson
set_option maxRecDepth 20000 in
theorem ggX12_file_X12_isQuarter : GoodIn wsX12_file wsX12_isQuarter := goodIn_r _ [15] (by decide +kernel) (by decide +kernel)
set_option maxRecDepth 20000 in
theorem gX12_file_X12_isQuarter : GoodIn wsX12_file (va_wsS RX12 157 yX12_isQuarter wsX12_isQuarter) := goodIn_app (goodIn_of _ (by decide +kernel)) ggX12_file_X12_isQuarter
theorem dX12_file_0 : decode cX12_file 0 = .ok (.aload_n 0, 1) := by decide +kernel
theorem dX12_file_1 : decode cX12_file 1 = .ok (.iconst 0, 1) := by decide +kernel
theorem dX12_file_2 : decode cX12_file 2 = .ok (.putfield 133, 3) := by decide +kernel
theorem dX12_file_5 : decode cX12_file 5 = .ok (.aload_n 0, 1) := by decide +kernel
theorem dX12_file_6 : decode cX12_file 6 = .ok (.getfield 280, 3) := by decide +kernel
theorem dX12_file_9 : decode cX12_file 9 = .ok (.bipush 60, 2) := by decide +kernel
theorem dX12_file_11 : decode cX12_file 11 = .ok (.if_icmp .eq 18, 3) := by decide +kernel
theorem dX12_file_14 : decode cX12_file 14 = .ok (.aload_n 0, 1) := by decide +kernel
theorem dX12_file_15 : decode cX12_file 15 = .ok (.iload_n 1, 1) := by decide +kernel
theorem dX12_file_16 : decode cX12_file 16 = .ok (.invokevirtual 197, 3) := by decide +kernel
theorem dX12_file_19 : decode cX12_file 19 = .ok (.ifCond .eq 10, 3) := by decide +kernel
theorem dX12_file_22 : decode cX12_file 22 = .ok (.iload_n 2, 1) := by decide +kernel
theorem dX12_file_23 : decode cX12_file 23 = .ok (.invokestatic 157, 3) := by decide +kernel
theorem dX12_file_26 : decode cX12_file 26 = .ok (.ifCond .ne 5, 3) := by decide +kernel
theorem dX12_file_29 : decode cX12_file 29 = .ok (.iconst (-1), 1) := by decide +kernel
theorem dX12_file_30 : decode cX12_file 30 = .ok (.ireturn, 1) := by decide +kernel
theorem dX12_file_31 : decode cX12_file 31 = .ok (.iconst 0, 1) := by decide +kernel
theorem dX12_file_32 : decode cX12_file 32 = .ok (.istore_n 3, 1) := by decide +kernel
theorem dX12_file_33 : decode cX12_file 33 = .ok (.iload_n 3, 1) := by decide +kernel
theorem dX12_file_34 : decode cX12_file 34 = .ok (.aload_n 0, 1) := by decide +kernel
theorem dX12_file_35 : decode cX12_file 35 = .ok (.getfield 280, 3) := by decide +kernel
theorem dX12_file_38 : decode cX12_file 38 = .ok (.if_icmp .ge 31, 3) := by decide +kernel
theorem dX12_file_41 : decode cX12_file 41 = .ok (.aload_n 0, 1) := by decide +kernel
theorem dX12_file_42 : decode cX12_file 42 = .ok (.getfield 70, 3) := by decide +kernel
theorem dX12_file_45 : decode cX12_file 45 = .ok (.iload_n 3, 1) := by decide +kernel
theorem dX12_file_46 : decode cX12_file 46 = .ok (.iaload, 1) := by decide +kernel
theorem dX12_file_47 : decode cX12_file 47 = .ok (.iload_n 1, 1) := by decide +kernel
theorem dX12_file_48 : decode cX12_file 48 = .ok (.if_icmp .ne 15, 3) := by decide +kernel
theorem dX12_file_51 : decode cX12_file 51 = .ok (.aload_n 0, 1) := by decide +kernel
theorem dX12_file_52 : decode cX12_file 52 = .ok (.getfield 73, 3) := by decide +kernel
theorem dX12_file_55 : decode cX12_file 55 = .ok (.iload_n 3, 1) := by decide +kernel
theorem dX12_file_56 : decode cX12_file 56 = .ok (.iaload, 1) := by decide +kernel
theorem dX12_file_57 : decode cX12_file 57 = .ok (.iload_n 2, 1) := by decide +kernel
theorem dX12_file_58 : decode cX12_file 58 = .ok (.if_icmp .ne 5, 3) := by decide +kernel
theorem dX12_file_61 : decode cX12_file 61 = .ok (.iconst (-1), 1) := by decide +kernel
theorem dX12_file_62 : decode cX12_file 62 = .ok (.ireturn, 1) := by decide +kernel
theorem dX12_file_63 : decode cX12_file 63 = .ok (.iinc 3 1, 3) := by decide +kernel
theorem dX12_file_66 : decode cX12_file 66 = .ok (.goto (-33), 3) := by decide +kernel
theorem dX12_file_69 : decode cX12_file 69 = .ok (.aload_n 0, 1) := by decide +kernel
theorem dX12_file_70 : decode cX12_file 70 = .ok (.getfield 70, 3) := by decide +kernel
theorem dX12_file_73 : decode cX12_file 73 = .ok (.aload_n 0, 1) := by decide +kernel
theorem dX12_file_74 : decode cX12_file 74 = .ok (.getfield 280, 3) := by decide +kernel
theorem dX12_file_77 : decode cX12_file 77 = .ok (.iload_n 1, 1) := by decide +kernel
theorem dX12_file_78 : decode cX12_file 78 = .ok (.iastore, 1) := by decide +kernel
theorem dX12_file_79 : decode cX12_file 79 = .ok (.aload_n 0, 1) := by decide +kernel
theorem dX12_file_80 : decode cX12_file 80 = .ok (.getfield 73, 3) := by decide +kernel
theorem dX12_file_83 : decode cX12_file 83 = .ok (.aload_n 0, 1) := by decide +kernel
theorem dX12_file_84 : decode cX12_file 84 = .ok (.getfield 280, 3) := by decide +kernel
theorem dX12_file_87 : decode cX12_file 87 = .ok (.iload_n 2, 1) := by decide +kernel
theorem dX12_file_88 : decode cX12_file 88 = .ok (.iastore, 1) := by decide +kernel
theorem dX12_file_89 : decode cX12_file 89 = .ok (.aload_n 0, 1) := by decide +kernel
theorem dX12_file_90 : decode cX12_file 90 = .ok (.getfield 76, 3) := by decide +kernel
theorem dX12_file_93 : decode cX12_file 93 = .ok (.aload_n 0, 1) := by decide +kernel
theorem dX12_file_94 : decode cX12_file 94 = .ok (.getfield 280, 3) := by decide +kernel
theorem dX12_file_97 : decode cX12_file 97 = .ok (.aload_n 0, 1) := by decide +kernel
theorem dX12_file_98 : decode cX12_file 98 = .ok (.getfield 277, 3) := by decide +kernel
theorem dX12_file_101 : decode cX12_file 101 = .ok (.iastore, 1) := by decide +kernel
theorem dX12_file_102 : decode cX12_file 102 = .ok (.aload_n 0, 1) := by decide +kernel
theorem dX12_file_103 : decode cX12_file 103 = .ok (.dup, 1) := by decide +kernel
theorem dX12_file_104 : decode cX12_file 104 = .ok (.getfield 280, 3) := by decide +kernel
theorem dX12_file_107 : decode cX12_file 107 = .ok (.iconst 1, 1) := by decide +kernel
theorem dX12_file_108 : decode cX12_file 108 = .ok (.iadd, 1) := by decide +kernel
theorem dX12_file_109 : decode cX12_file 109 = .ok (.putfield 280, 3) := by decide +kernel
theorem dX12_file_112 : decode cX12_file 112 = .ok (.aload_n 0, 1) := by decide +kernel
theorem dX12_file_113 : decode cX12_file 113 = .ok (.getfield 280, 3) := by decide +kernel
theorem dX12_file_116 : decode cX12_file 116 = .ok (.iconst 1, 1) := by decide +kernel
theorem dX12_file_117 : decode cX12_file 117 = .ok (.isub, 1) := by decide +kernel
theorem dX12_file_118 : decode cX12_file 118 = .ok (.ireturn, 1) := by decide +kernel
set_option maxRecDepth 20000 in
theorem ggX12_witness_X12_isClaim : GoodIn wsX12_witness wsX12_isClaim := goodIn_r _ [12, 13, 14, 15, 16, 17, 18, 19, 20, 21, 22, 23, 24, 25, 26, 27, 28, 29, 30, 31, 32, 33, 34, 35, 36, 37, 38, 39, 40, 41, 42, 43, 44, 45, 46, 47, 48, 49, 50, 51, 52, 53, 54, 55, 56, 57, 58, 59, 60, 61, 62, 63, 64, 65, 66, 67, 68, 69, 70, 71, 72, 73, 74, 75] (by decide +kernel) (by decide +kernel)
set_option maxRecDepth 20000 in
theorem gX12_witness_X12_isClaim : GoodIn wsX12_witness (wsV RX12 286 RX12 yX12_isClaim wsX12_isClaim) := goodIn_app (goodIn_of _ (by decide +kernel)) ggX12_witness_X12_isClaim
theorem dX12_witness_0 : decode cX12_witness 0 = .ok (.aload_n 0, 1) := by decide +kernel
theorem dX12_witness_1 : decode cX12_witness 1 = .ok (.iconst 0, 1) := by decide +kernel
theorem dX12_witness_2 : decode cX12_witness 2 = .ok (.putfield 133, 3) := by decide +kernel
theorem dX12_witness_5 : decode cX12_witness 5 = .ok (.aload_n 0, 1) := by decide +kernel
theorem dX12_witness_6 : decode cX12_witness 6 = .ok (.getfield 283, 3) := by decide +kernel
theorem dX12_witness_9 : decode cX12_witness 9 = .ok (.sipush 200, 3) := by decide +kernel
theorem dX12_witness_12 : decode cX12_witness 12 = .ok (.if_icmp .eq 27, 3) := by decide +kernel
theorem dX12_witness_15 : decode cX12_witness 15 = .ok (.aload_n 0, 1) := by decide +kernel
theorem dX12_witness_16 : decode cX12_witness 16 = .ok (.iload_n 1, 1) := by decide +kernel
theorem dX12_witness_17 : decode cX12_witness 17 = .ok (.invokevirtual 286, 3) := by decide +kernel
theorem dX12_witness_20 : decode cX12_witness 20 = .ok (.ifCond .eq 19, 3) := by decide +kernel
theorem dX12_witness_23 : decode cX12_witness 23 = .ok (.iload_n 2, 1) := by decide +kernel
theorem dX12_witness_24 : decode cX12_witness 24 = .ok (.ifCond .lt 15, 3) := by decide +kernel
theorem dX12_witness_27 : decode cX12_witness 27 = .ok (.iload_n 3, 1) := by decide +kernel
theorem dX12_witness_28 : decode cX12_witness 28 = .ok (.iload_n 2, 1) := by decide +kernel
theorem dX12_witness_29 : decode cX12_witness 29 = .ok (.if_icmp .lt 10, 3) := by decide +kernel
theorem dX12_witness_32 : decode cX12_witness 32 = .ok (.iload_n 3, 1) := by decide +kernel
theorem dX12_witness_33 : decode cX12_witness 33 = .ok (.sipush 9999, 3) := by decide +kernel
theorem dX12_witness_36 : decode cX12_witness 36 = .ok (.if_icmp .le 5, 3) := by decide +kernel
theorem dX12_witness_39 : decode cX12_witness 39 = .ok (.iconst (-1), 1) := by decide +kernel
theorem dX12_witness_40 : decode cX12_witness 40 = .ok (.ireturn, 1) := by decide +kernel
theorem dX12_witness_41 : decode cX12_witness 41 = .ok (.aload_n 0, 1) := by decide +kernel
theorem dX12_witness_42 : decode cX12_witness 42 = .ok (.getfield 79, 3) := by decide +kernel
theorem dX12_witness_45 : decode cX12_witness 45 = .ok (.aload_n 0, 1) := by decide +kernel
theorem dX12_witness_46 : decode cX12_witness 46 = .ok (.getfield 283, 3) := by decide +kernel
theorem dX12_witness_49 : decode cX12_witness 49 = .ok (.iload_n 1, 1) := by decide +kernel
theorem dX12_witness_50 : decode cX12_witness 50 = .ok (.iastore, 1) := by decide +kernel
theorem dX12_witness_51 : decode cX12_witness 51 = .ok (.aload_n 0, 1) := by decide +kernel
theorem dX12_witness_52 : decode cX12_witness 52 = .ok (.getfield 82, 3) := by decide +kernel
theorem dX12_witness_55 : decode cX12_witness 55 = .ok (.aload_n 0, 1) := by decide +kernel
theorem dX12_witness_56 : decode cX12_witness 56 = .ok (.getfield 283, 3) := by decide +kernel
theorem dX12_witness_59 : decode cX12_witness 59 = .ok (.aload_n 0, 1) := by decide +kernel
theorem dX12_witness_60 : decode cX12_witness 60 = .ok (.getfield 277, 3) := by decide +kernel
theorem dX12_witness_63 : decode cX12_witness 63 = .ok (.iastore, 1) := by decide +kernel
theorem dX12_witness_64 : decode cX12_witness 64 = .ok (.aload_n 0, 1) := by decide +kernel
theorem dX12_witness_65 : decode cX12_witness 65 = .ok (.getfield 85, 3) := by decide +kernel
theorem dX12_witness_68 : decode cX12_witness 68 = .ok (.aload_n 0, 1) := by decide +kernel
theorem dX12_witness_69 : decode cX12_witness 69 = .ok (.getfield 283, 3) := by decide +kernel
theorem dX12_witness_72 : decode cX12_witness 72 = .ok (.iload_n 2, 1) := by decide +kernel
theorem dX12_witness_73 : decode cX12_witness 73 = .ok (.iastore, 1) := by decide +kernel
theorem dX12_witness_74 : decode cX12_witness 74 = .ok (.aload_n 0, 1) := by decide +kernel
theorem dX12_witness_75 : decode cX12_witness 75 = .ok (.getfield 88, 3) := by decide +kernel
theorem dX12_witness_78 : decode cX12_witness 78 = .ok (.aload_n 0, 1) := by decide +kernel
theorem dX12_witness_79 : decode cX12_witness 79 = .ok (.getfield 283, 3) := by decide +kernel
theorem dX12_witness_82 : decode cX12_witness 82 = .ok (.iload_n 3, 1) := by decide +kernel
theorem dX12_witness_83 : decode cX12_witness 83 = .ok (.iastore, 1) := by decide +kernel
theorem dX12_witness_84 : decode cX12_witness 84 = .ok (.aload_n 0, 1) := by decide +kernel
theorem dX12_witness_85 : decode cX12_witness 85 = .ok (.dup, 1) := by decide +kernel
theorem dX12_witness_86 : decode cX12_witness 86 = .ok (.getfield 283, 3) := by decide +kernel
theorem dX12_witness_89 : decode cX12_witness 89 = .ok (.iconst 1, 1) := by decide +kernel
theorem dX12_witness_90 : decode cX12_witness 90 = .ok (.iadd, 1) := by decide +kernel
theorem dX12_witness_91 : decode cX12_witness 91 = .ok (.putfield 283, 3) := by decide +kernel
theorem dX12_witness_94 : decode cX12_witness 94 = .ok (.iconst 0, 1) := by decide +kernel
theorem dX12_witness_95 : decode cX12_witness 95 = .ok (.istore 4, 2) := by decide +kernel
theorem dX12_witness_97 : decode cX12_witness 97 = .ok (.iconst 0, 1) := by decide +kernel
theorem dX12_witness_98 : decode cX12_witness 98 = .ok (.istore 5, 2) := by decide +kernel
theorem dX12_witness_100 : decode cX12_witness 100 = .ok (.iload 5, 2) := by decide +kernel
theorem dX12_witness_102 : decode cX12_witness 102 = .ok (.aload_n 0, 1) := by decide +kernel
theorem dX12_witness_103 : decode cX12_witness 103 = .ok (.getfield 283, 3) := by decide +kernel
theorem dX12_witness_106 : decode cX12_witness 106 = .ok (.if_icmp .ge 30, 3) := by decide +kernel
theorem dX12_witness_109 : decode cX12_witness 109 = .ok (.iload 4, 2) := by decide +kernel
theorem dX12_witness_111 : decode cX12_witness 111 = .ok (.aload_n 0, 1) := by decide +kernel
theorem dX12_witness_112 : decode cX12_witness 112 = .ok (.getfield 79, 3) := by decide +kernel
theorem dX12_witness_115 : decode cX12_witness 115 = .ok (.iload 5, 2) := by decide +kernel
theorem dX12_witness_117 : decode cX12_witness 117 = .ok (.iaload, 1) := by decide +kernel
theorem dX12_witness_118 : decode cX12_witness 118 = .ok (.iload_n 1, 1) := by decide +kernel
theorem dX12_witness_119 : decode cX12_witness 119 = .ok (.if_icmp .ne 7, 3) := by decide +kernel
theorem dX12_witness_122 : decode cX12_witness 122 = .ok (.iconst 1, 1) := by decide +kernel
theorem dX12_witness_123 : decode cX12_witness 123 = .ok (.goto 4, 3) := by decide +kernel
theorem dX12_witness_126 : decode cX12_witness 126 = .ok (.iconst 0, 1) := by decide +kernel
theorem dX12_witness_127 : decode cX12_witness 127 = .ok (.iadd, 1) := by decide +kernel
theorem dX12_witness_128 : decode cX12_witness 128 = .ok (.istore 4, 2) := by decide +kernel
theorem dX12_witness_130 : decode cX12_witness 130 = .ok (.iinc 5 1, 3) := by decide +kernel
theorem dX12_witness_133 : decode cX12_witness 133 = .ok (.goto (-33), 3) := by decide +kernel
theorem dX12_witness_136 : decode cX12_witness 136 = .ok (.iload 4, 2) := by decide +kernel
theorem dX12_witness_138 : decode cX12_witness 138 = .ok (.ireturn, 1) := by decide +kernel
theorem dX12_tells_0 : decode cX12_tells 0 = .ok (.aload_n 0, 1) := by decide +kernel
theorem dX12_tells_1 : decode cX12_tells 1 = .ok (.getfield 79, 3) := by decide +kernel
theorem dX12_tells_4 : decode cX12_tells 4 = .ok (.iload_n 1, 1) := by decide +kernel
theorem dX12_tells_5 : decode cX12_tells 5 = .ok (.iaload, 1) := by decide +kernel
theorem dX12_tells_6 : decode cX12_tells 6 = .ok (.iload_n 2, 1) := by decide +kernel
theorem dX12_tells_7 : decode cX12_tells 7 = .ok (.if_icmp .ne 17, 3) := by decide +kernel
theorem dX12_tells_10 : decode cX12_tells 10 = .ok (.aload_n 0, 1) := by decide +kernel
theorem dX12_tells_11 : decode cX12_tells 11 = .ok (.getfield 82, 3) := by decide +kernel
theorem dX12_tells_14 : decode cX12_tells 14 = .ok (.iload_n 1, 1) := by decide +kernel
theorem dX12_tells_15 : decode cX12_tells 15 = .ok (.iaload, 1) := by decide +kernel
theorem dX12_tells_16 : decode cX12_tells 16 = .ok (.iload_n 3, 1) := by decide +kernel
theorem dX12_tells_17 : decode cX12_tells 17 = .ok (.if_icmp .gt 7, 3) := by decide +kernel
theorem dX12_tells_20 : decode cX12_tells 20 = .ok (.iconst 1, 1) := by decide +kernel
theorem dX12_tells_21 : decode cX12_tells 21 = .ok (.goto 4, 3) := by decide +kernel
theorem dX12_tells_24 : decode cX12_tells 24 = .ok (.iconst 0, 1) := by decide +kernel
theorem dX12_tells_25 : decode cX12_tells 25 = .ok (.ireturn, 1) := by decide +kernel
set_option maxRecDepth 20000 in
theorem ggX12_look_X12_tells : GoodIn wsX12_look wsX12_tells := goodIn_r _ [11, 12, 13, 14, 15, 16, 17, 18, 19, 20, 21, 22, 23, 24, 25, 26, 27, 28, 29, 30, 31, 32, 33, 34, 35, 36, 37, 38, 39, 40, 41, 42, 43, 44, 45, 46, 47, 48, 49, 50, 51, 52, 53, 54, 55, 56, 57, 58, 59, 60, 61, 62, 63, 64, 65, 66, 67, 68, 69, 70, 71, 72, 73, 74, 75] (by decide +kernel) (by decide +kernel)
set_option maxRecDepth 20000 in
theorem gX12_look_X12_tells : GoodIn wsX12_look (wsV RX12 298 RX12 yX12_tells wsX12_tells) := goodIn_app (goodIn_of _ (by decide +kernel)) ggX12_look_X12_tells
theorem dX12_look_0 : decode cX12_look 0 = .ok (.aload_n 0, 1) := by decide +kernel
theorem dX12_look_1 : decode cX12_look 1 = .ok (.iconst 0, 1) := by decide +kernel
theorem dX12_look_2 : decode cX12_look 2 = .ok (.putfield 289, 3) := by decide +kernel
theorem dX12_look_5 : decode cX12_look 5 = .ok (.aload_n 0, 1) := by decide +kernel
theorem dX12_look_6 : decode cX12_look 6 = .ok (.sipush 9999, 3) := by decide +kernel
theorem dX12_look_9 : decode cX12_look 9 = .ok (.putfield 292, 3) := by decide +kernel
theorem dX12_look_12 : decode cX12_look 12 = .ok (.aload_n 0, 1) := by decide +kernel
theorem dX12_look_13 : decode cX12_look 13 = .ok (.iconst 0, 1) := by decide +kernel
theorem dX12_look_14 : decode cX12_look 14 = .ok (.putfield 295, 3) := by decide +kernel
theorem dX12_look_17 : decode cX12_look 17 = .ok (.iconst 0, 1) := by decide +kernel
theorem dX12_look_18 : decode cX12_look 18 = .ok (.istore_n 3, 1) := by decide +kernel
theorem dX12_look_19 : decode cX12_look 19 = .ok (.iload_n 3, 1) := by decide +kernel
theorem dX12_look_20 : decode cX12_look 20 = .ok (.aload_n 0, 1) := by decide +kernel
theorem dX12_look_21 : decode cX12_look 21 = .ok (.getfield 283, 3) := by decide +kernel
theorem dX12_look_24 : decode cX12_look 24 = .ok (.if_icmp .ge 179, 3) := by decide +kernel
theorem dX12_look_27 : decode cX12_look 27 = .ok (.aload_n 0, 1) := by decide +kernel
theorem dX12_look_28 : decode cX12_look 28 = .ok (.iload_n 3, 1) := by decide +kernel
theorem dX12_look_29 : decode cX12_look 29 = .ok (.iload_n 1, 1) := by decide +kernel
theorem dX12_look_30 : decode cX12_look 30 = .ok (.iload_n 2, 1) := by decide +kernel
theorem dX12_look_31 : decode cX12_look 31 = .ok (.invokevirtual 298, 3) := by decide +kernel
theorem dX12_look_34 : decode cX12_look 34 = .ok (.ifCond .ne 6, 3) := by decide +kernel
theorem dX12_look_37 : decode cX12_look 37 = .ok (.goto 160, 3) := by decide +kernel
theorem dX12_look_40 : decode cX12_look 40 = .ok (.iconst 0, 1) := by decide +kernel
theorem dX12_look_41 : decode cX12_look 41 = .ok (.istore 4, 2) := by decide +kernel
theorem dX12_look_43 : decode cX12_look 43 = .ok (.sipush 9999, 3) := by decide +kernel
theorem dX12_look_46 : decode cX12_look 46 = .ok (.istore 5, 2) := by decide +kernel
theorem dX12_look_48 : decode cX12_look 48 = .ok (.iconst 0, 1) := by decide +kernel
theorem dX12_look_49 : decode cX12_look 49 = .ok (.istore 6, 2) := by decide +kernel
theorem dX12_look_51 : decode cX12_look 51 = .ok (.iload 6, 2) := by decide +kernel
theorem dX12_look_53 : decode cX12_look 53 = .ok (.aload_n 0, 1) := by decide +kernel
theorem dX12_look_54 : decode cX12_look 54 = .ok (.getfield 283, 3) := by decide +kernel
theorem dX12_look_57 : decode cX12_look 57 = .ok (.if_icmp .ge 84, 3) := by decide +kernel
theorem dX12_look_60 : decode cX12_look 60 = .ok (.aload_n 0, 1) := by decide +kernel
theorem dX12_look_61 : decode cX12_look 61 = .ok (.iload 6, 2) := by decide +kernel
theorem dX12_look_63 : decode cX12_look 63 = .ok (.iload_n 1, 1) := by decide +kernel
theorem dX12_look_64 : decode cX12_look 64 = .ok (.iload_n 2, 1) := by decide +kernel
theorem dX12_look_65 : decode cX12_look 65 = .ok (.invokevirtual 298, 3) := by decide +kernel
theorem dX12_look_68 : decode cX12_look 68 = .ok (.ifCond .eq 67, 3) := by decide +kernel
theorem dX12_look_71 : decode cX12_look 71 = .ok (.aload_n 0, 1) := by decide +kernel
theorem dX12_look_72 : decode cX12_look 72 = .ok (.getfield 85, 3) := by decide +kernel
theorem dX12_look_75 : decode cX12_look 75 = .ok (.iload 6, 2) := by decide +kernel
theorem dX12_look_77 : decode cX12_look 77 = .ok (.iaload, 1) := by decide +kernel
theorem dX12_look_78 : decode cX12_look 78 = .ok (.aload_n 0, 1) := by decide +kernel
theorem dX12_look_79 : decode cX12_look 79 = .ok (.getfield 85, 3) := by decide +kernel
theorem dX12_look_82 : decode cX12_look 82 = .ok (.iload_n 3, 1) := by decide +kernel
theorem dX12_look_83 : decode cX12_look 83 = .ok (.iaload, 1) := by decide +kernel
theorem dX12_look_84 : decode cX12_look 84 = .ok (.if_icmp .gt 51, 3) := by decide +kernel
theorem dX12_look_87 : decode cX12_look 87 = .ok (.aload_n 0, 1) := by decide +kernel
theorem dX12_look_88 : decode cX12_look 88 = .ok (.getfield 88, 3) := by decide +kernel
theorem dX12_look_91 : decode cX12_look 91 = .ok (.iload 6, 2) := by decide +kernel
theorem dX12_look_93 : decode cX12_look 93 = .ok (.iaload, 1) := by decide +kernel
theorem dX12_look_94 : decode cX12_look 94 = .ok (.aload_n 0, 1) := by decide +kernel
theorem dX12_look_95 : decode cX12_look 95 = .ok (.getfield 85, 3) := by decide +kernel
theorem dX12_look_98 : decode cX12_look 98 = .ok (.iload_n 3, 1) := by decide +kernel
theorem dX12_look_99 : decode cX12_look 99 = .ok (.iaload, 1) := by decide +kernel
theorem dX12_look_100 : decode cX12_look 100 = .ok (.if_icmp .ge 6, 3) := by decide +kernel
theorem dX12_look_103 : decode cX12_look 103 = .ok (.goto 32, 3) := by decide +kernel
theorem dX12_look_106 : decode cX12_look 106 = .ok (.iinc 4 1, 3) := by decide +kernel
theorem dX12_look_109 : decode cX12_look 109 = .ok (.aload_n 0, 1) := by decide +kernel
theorem dX12_look_110 : decode cX12_look 110 = .ok (.getfield 88, 3) := by decide +kernel
theorem dX12_look_113 : decode cX12_look 113 = .ok (.iload 6, 2) := by decide +kernel
theorem dX12_look_115 : decode cX12_look 115 = .ok (.iaload, 1) := by decide +kernel
theorem dX12_look_116 : decode cX12_look 116 = .ok (.iload 5, 2) := by decide +kernel
theorem dX12_look_118 : decode cX12_look 118 = .ok (.if_icmp .ge 13, 3) := by decide +kernel
theorem dX12_look_121 : decode cX12_look 121 = .ok (.aload_n 0, 1) := by decide +kernel
theorem dX12_look_122 : decode cX12_look 122 = .ok (.getfield 88, 3) := by decide +kernel
theorem dX12_look_125 : decode cX12_look 125 = .ok (.iload 6, 2) := by decide +kernel
theorem dX12_look_127 : decode cX12_look 127 = .ok (.iaload, 1) := by decide +kernel
theorem dX12_look_128 : decode cX12_look 128 = .ok (.goto 5, 3) := by decide +kernel
theorem dX12_look_131 : decode cX12_look 131 = .ok (.iload 5, 2) := by decide +kernel
theorem dX12_look_133 : decode cX12_look 133 = .ok (.istore 5, 2) := by decide +kernel
theorem dX12_look_135 : decode cX12_look 135 = .ok (.iinc 6 1, 3) := by decide +kernel
theorem dX12_look_138 : decode cX12_look 138 = .ok (.goto (-87), 3) := by decide +kernel
theorem dX12_look_141 : decode cX12_look 141 = .ok (.iload 4, 2) := by decide +kernel
theorem dX12_look_143 : decode cX12_look 143 = .ok (.aload_n 0, 1) := by decide +kernel
theorem dX12_look_144 : decode cX12_look 144 = .ok (.getfield 295, 3) := by decide +kernel
theorem dX12_look_147 : decode cX12_look 147 = .ok (.if_icmp .lt 50, 3) := by decide +kernel
theorem dX12_look_150 : decode cX12_look 150 = .ok (.iload 4, 2) := by decide +kernel
theorem dX12_look_152 : decode cX12_look 152 = .ok (.aload_n 0, 1) := by decide +kernel
theorem dX12_look_153 : decode cX12_look 153 = .ok (.getfield 295, 3) := by decide +kernel
theorem dX12_look_156 : decode cX12_look 156 = .ok (.if_icmp .ne 19, 3) := by decide +kernel
theorem dX12_look_159 : decode cX12_look 159 = .ok (.aload_n 0, 1) := by decide +kernel
theorem dX12_look_160 : decode cX12_look 160 = .ok (.getfield 85, 3) := by decide +kernel
theorem dX12_look_163 : decode cX12_look 163 = .ok (.iload_n 3, 1) := by decide +kernel
theorem dX12_look_164 : decode cX12_look 164 = .ok (.iaload, 1) := by decide +kernel
theorem dX12_look_165 : decode cX12_look 165 = .ok (.aload_n 0, 1) := by decide +kernel
theorem dX12_look_166 : decode cX12_look 166 = .ok (.getfield 289, 3) := by decide +kernel
theorem dX12_look_169 : decode cX12_look 169 = .ok (.if_icmp .lt 6, 3) := by decide +kernel
theorem dX12_look_172 : decode cX12_look 172 = .ok (.goto 25, 3) := by decide +kernel
theorem dX12_look_175 : decode cX12_look 175 = .ok (.aload_n 0, 1) := by decide +kernel
theorem dX12_look_176 : decode cX12_look 176 = .ok (.iload 4, 2) := by decide +kernel
theorem dX12_look_178 : decode cX12_look 178 = .ok (.putfield 295, 3) := by decide +kernel
theorem dX12_look_181 : decode cX12_look 181 = .ok (.aload_n 0, 1) := by decide +kernel
theorem dX12_look_182 : decode cX12_look 182 = .ok (.aload_n 0, 1) := by decide +kernel
theorem dX12_look_183 : decode cX12_look 183 = .ok (.getfield 85, 3) := by decide +kernel
theorem dX12_look_186 : decode cX12_look 186 = .ok (.iload_n 3, 1) := by decide +kernel
theorem dX12_look_187 : decode cX12_look 187 = .ok (.iaload, 1) := by decide +kernel
theorem dX12_look_188 : decode cX12_look 188 = .ok (.putfield 289, 3) := by decide +kernel
theorem dX12_look_191 : decode cX12_look 191 = .ok (.aload_n 0, 1) := by decide +kernel
theorem dX12_look_192 : decode cX12_look 192 = .ok (.iload 5, 2) := by decide +kernel
theorem dX12_look_194 : decode cX12_look 194 = .ok (.putfield 292, 3) := by decide +kernel
theorem dX12_look_197 : decode cX12_look 197 = .ok (.iinc 3 1, 3) := by decide +kernel
theorem dX12_look_200 : decode cX12_look 200 = .ok (.goto (-181), 3) := by decide +kernel
theorem dX12_look_203 : decode cX12_look 203 = .ok (.return_, 1) := by decide +kernel
set_option maxRecDepth 20000 in
theorem ggX12_counts_X12_isClaim : GoodIn wsX12_counts wsX12_isClaim := goodIn_r _ [6, 7, 8, 9, 10, 11, 12, 13, 14, 15, 16, 17, 18, 19, 20, 21, 22, 23, 24, 25, 26, 27, 28, 29, 30, 31, 32, 33, 34, 35, 36, 37, 38, 39, 40, 41, 42, 43, 44, 45, 46, 47, 48, 49, 50, 51, 52, 53, 54, 55, 56, 57, 58, 59, 60, 61, 62, 63, 64, 65, 66, 67, 68, 69] (by decide +kernel) (by decide +kernel)
set_option maxRecDepth 20000 in
theorem gX12_counts_X12_isClaim : GoodIn wsX12_counts (wsV RX12 286 RX12 yX12_isClaim wsX12_isClaim) := goodIn_app (goodIn_of _ (by decide +kernel)) ggX12_counts_X12_isClaim
theorem dX12_counts_0 : decode cX12_counts 0 = .ok (.aload_n 0, 1) := by decide +kernel
theorem dX12_counts_1 : decode cX12_counts 1 = .ok (.iload_n 1, 1) := by decide +kernel
theorem dX12_counts_2 : decode cX12_counts 2 = .ok (.invokevirtual 286, 3) := by decide +kernel
theorem dX12_counts_5 : decode cX12_counts 5 = .ok (.ifCond .eq 17, 3) := by decide +kernel
theorem dX12_counts_8 : decode cX12_counts 8 = .ok (.aload_n 0, 1) := by decide +kernel
theorem dX12_counts_9 : decode cX12_counts 9 = .ok (.getfield 76, 3) := by decide +kernel
theorem dX12_counts_12 : decode cX12_counts 12 = .ok (.iload_n 1, 1) := by decide +kernel
theorem dX12_counts_13 : decode cX12_counts 13 = .ok (.iaload, 1) := by decide +kernel
theorem dX12_counts_14 : decode cX12_counts 14 = .ok (.iload_n 2, 1) := by decide +kernel
theorem dX12_counts_15 : decode cX12_counts 15 = .ok (.if_icmp .gt 7, 3) := by decide +kernel
theorem dX12_counts_18 : decode cX12_counts 18 = .ok (.iconst 1, 1) := by decide +kernel
theorem dX12_counts_19 : decode cX12_counts 19 = .ok (.goto 4, 3) := by decide +kernel
theorem dX12_counts_22 : decode cX12_counts 22 = .ok (.iconst 0, 1) := by decide +kernel
theorem dX12_counts_23 : decode cX12_counts 23 = .ok (.ireturn, 1) := by decide +kernel
set_option maxRecDepth 20000 in
theorem ggX12_isLawful_X12_counts : GoodIn wsX12_isLawful wsX12_counts := goodIn_r _ [13, 1, 14, 15, 16, 12, 17, 2, 33, 34, 35, 36, 37, 38, 39, 40, 41, 42, 43, 44, 45, 46, 47, 48, 49, 50, 51, 52, 53, 54, 55, 56, 57, 58, 59, 60, 61, 62, 63, 64, 65, 66, 67, 68, 69, 70, 71, 72, 73, 74, 75, 76, 77, 78, 79, 80, 81, 82, 83, 84, 85, 86, 87, 88, 89, 90, 91, 92, 93, 94] (by decide +kernel) (by decide +kernel)
set_option maxRecDepth 20000 in
theorem gX12_isLawful_X12_counts : GoodIn wsX12_isLawful (wsV RX12 301 RX12 yX12_counts wsX12_counts) := goodIn_app (goodIn_of _ (by decide +kernel)) ggX12_isLawful_X12_counts
set_option maxRecDepth 20000 in
theorem ggX12_isLawful_X12_look : GoodIn wsX12_isLawful wsX12_look := goodIn_r _ [21, 22, 23, 8, 24, 25, 26, 27, 28, 29, 12, 30, 31, 32, 33, 34, 35, 36, 37, 38, 39, 40, 41, 42, 43, 44, 45, 46, 47, 48, 49, 50, 51, 52, 53, 54, 55, 56, 57, 58, 59, 60, 61, 62, 63, 64, 65, 66, 67, 68, 69, 70, 71, 72, 73, 74, 75, 76, 77, 78, 79, 80, 81, 82, 83, 84, 85, 86, 87, 88, 89, 90, 91, 92, 93, 94] (by decide +kernel) (by decide +kernel)
set_option maxRecDepth 20000 in
theorem gX12_isLawful_X12_look : GoodIn wsX12_isLawful (wsV RX12 304 RX12 yX12_look wsX12_look) := goodIn_app (goodIn_of _ (by decide +kernel)) ggX12_isLawful_X12_look
theorem dX12_isLawful_0 : decode cX12_isLawful 0 = .ok (.aload_n 0, 1) := by decide +kernel
theorem dX12_isLawful_1 : decode cX12_isLawful 1 = .ok (.iload_n 1, 1) := by decide +kernel
theorem dX12_isLawful_2 : decode cX12_isLawful 2 = .ok (.iload_n 2, 1) := by decide +kernel
theorem dX12_isLawful_3 : decode cX12_isLawful 3 = .ok (.invokevirtual 301, 3) := by decide +kernel
theorem dX12_isLawful_6 : decode cX12_isLawful 6 = .ok (.ifCond .ne 5, 3) := by decide +kernel
theorem dX12_isLawful_9 : decode cX12_isLawful 9 = .ok (.iconst 0, 1) := by decide +kernel
theorem dX12_isLawful_10 : decode cX12_isLawful 10 = .ok (.ireturn, 1) := by decide +kernel
theorem dX12_isLawful_11 : decode cX12_isLawful 11 = .ok (.aload_n 0, 1) := by decide +kernel
theorem dX12_isLawful_12 : decode cX12_isLawful 12 = .ok (.iload_n 1, 1) := by decide +kernel
theorem dX12_isLawful_13 : decode cX12_isLawful 13 = .ok (.iload_n 2, 1) := by decide +kernel
theorem dX12_isLawful_14 : decode cX12_isLawful 14 = .ok (.invokevirtual 304, 3) := by decide +kernel
theorem dX12_isLawful_17 : decode cX12_isLawful 17 = .ok (.aload_n 0, 1) := by decide +kernel
theorem dX12_isLawful_18 : decode cX12_isLawful 18 = .ok (.getfield 76, 3) := by decide +kernel
theorem dX12_isLawful_21 : decode cX12_isLawful 21 = .ok (.iload_n 1, 1) := by decide +kernel
theorem dX12_isLawful_22 : decode cX12_isLawful 22 = .ok (.iaload, 1) := by decide +kernel
theorem dX12_isLawful_23 : decode cX12_isLawful 23 = .ok (.istore_n 3, 1) := by decide +kernel
theorem dX12_isLawful_24 : decode cX12_isLawful 24 = .ok (.iconst 0, 1) := by decide +kernel
theorem dX12_isLawful_25 : decode cX12_isLawful 25 = .ok (.istore 4, 2) := by decide +kernel
theorem dX12_isLawful_27 : decode cX12_isLawful 27 = .ok (.iload 4, 2) := by decide +kernel
theorem dX12_isLawful_29 : decode cX12_isLawful 29 = .ok (.aload_n 0, 1) := by decide +kernel
theorem dX12_isLawful_30 : decode cX12_isLawful 30 = .ok (.getfield 280, 3) := by decide +kernel
theorem dX12_isLawful_33 : decode cX12_isLawful 33 = .ok (.if_icmp .ge 54, 3) := by decide +kernel
theorem dX12_isLawful_36 : decode cX12_isLawful 36 = .ok (.aload_n 0, 1) := by decide +kernel
theorem dX12_isLawful_37 : decode cX12_isLawful 37 = .ok (.iload 4, 2) := by decide +kernel
theorem dX12_isLawful_39 : decode cX12_isLawful 39 = .ok (.iload_n 2, 1) := by decide +kernel
theorem dX12_isLawful_40 : decode cX12_isLawful 40 = .ok (.invokevirtual 301, 3) := by decide +kernel
theorem dX12_isLawful_43 : decode cX12_isLawful 43 = .ok (.ifCond .eq 38, 3) := by decide +kernel
theorem dX12_isLawful_46 : decode cX12_isLawful 46 = .ok (.aload_n 0, 1) := by decide +kernel
theorem dX12_isLawful_47 : decode cX12_isLawful 47 = .ok (.getfield 73, 3) := by decide +kernel
theorem dX12_isLawful_50 : decode cX12_isLawful 50 = .ok (.iload 4, 2) := by decide +kernel
theorem dX12_isLawful_52 : decode cX12_isLawful 52 = .ok (.iaload, 1) := by decide +kernel
theorem dX12_isLawful_53 : decode cX12_isLawful 53 = .ok (.aload_n 0, 1) := by decide +kernel
theorem dX12_isLawful_54 : decode cX12_isLawful 54 = .ok (.getfield 73, 3) := by decide +kernel
theorem dX12_isLawful_57 : decode cX12_isLawful 57 = .ok (.iload_n 1, 1) := by decide +kernel
theorem dX12_isLawful_58 : decode cX12_isLawful 58 = .ok (.iaload, 1) := by decide +kernel
theorem dX12_isLawful_59 : decode cX12_isLawful 59 = .ok (.if_icmp .ne 22, 3) := by decide +kernel
theorem dX12_isLawful_62 : decode cX12_isLawful 62 = .ok (.aload_n 0, 1) := by decide +kernel
theorem dX12_isLawful_63 : decode cX12_isLawful 63 = .ok (.getfield 76, 3) := by decide +kernel
theorem dX12_isLawful_66 : decode cX12_isLawful 66 = .ok (.iload 4, 2) := by decide +kernel
theorem dX12_isLawful_68 : decode cX12_isLawful 68 = .ok (.iaload, 1) := by decide +kernel
theorem dX12_isLawful_69 : decode cX12_isLawful 69 = .ok (.iload_n 3, 1) := by decide +kernel
theorem dX12_isLawful_70 : decode cX12_isLawful 70 = .ok (.if_icmp .ge 11, 3) := by decide +kernel
theorem dX12_isLawful_73 : decode cX12_isLawful 73 = .ok (.aload_n 0, 1) := by decide +kernel
theorem dX12_isLawful_74 : decode cX12_isLawful 74 = .ok (.getfield 76, 3) := by decide +kernel
theorem dX12_isLawful_77 : decode cX12_isLawful 77 = .ok (.iload 4, 2) := by decide +kernel
theorem dX12_isLawful_79 : decode cX12_isLawful 79 = .ok (.iaload, 1) := by decide +kernel
theorem dX12_isLawful_80 : decode cX12_isLawful 80 = .ok (.istore_n 3, 1) := by decide +kernel
theorem dX12_isLawful_81 : decode cX12_isLawful 81 = .ok (.iinc 4 1, 3) := by decide +kernel
theorem dX12_isLawful_84 : decode cX12_isLawful 84 = .ok (.goto (-57), 3) := by decide +kernel
theorem dX12_isLawful_87 : decode cX12_isLawful 87 = .ok (.aload_n 0, 1) := by decide +kernel
theorem dX12_isLawful_88 : decode cX12_isLawful 88 = .ok (.getfield 32, 3) := by decide +kernel
theorem dX12_isLawful_91 : decode cX12_isLawful 91 = .ok (.aload_n 0, 1) := by decide +kernel
theorem dX12_isLawful_92 : decode cX12_isLawful 92 = .ok (.getfield 70, 3) := by decide +kernel
theorem dX12_isLawful_95 : decode cX12_isLawful 95 = .ok (.iload_n 1, 1) := by decide +kernel
theorem dX12_isLawful_96 : decode cX12_isLawful 96 = .ok (.iaload, 1) := by decide +kernel
theorem dX12_isLawful_97 : decode cX12_isLawful 97 = .ok (.iaload, 1) := by decide +kernel
theorem dX12_isLawful_98 : decode cX12_isLawful 98 = .ok (.aload_n 0, 1) := by decide +kernel
theorem dX12_isLawful_99 : decode cX12_isLawful 99 = .ok (.getfield 61, 3) := by decide +kernel
theorem dX12_isLawful_102 : decode cX12_isLawful 102 = .ok (.iconst 0, 1) := by decide +kernel
theorem dX12_isLawful_103 : decode cX12_isLawful 103 = .ok (.iaload, 1) := by decide +kernel
theorem dX12_isLawful_104 : decode cX12_isLawful 104 = .ok (.if_icmp .lt 61, 3) := by decide +kernel
theorem dX12_isLawful_107 : decode cX12_isLawful 107 = .ok (.aload_n 0, 1) := by decide +kernel
theorem dX12_isLawful_108 : decode cX12_isLawful 108 = .ok (.getfield 57, 3) := by decide +kernel
theorem dX12_isLawful_111 : decode cX12_isLawful 111 = .ok (.aload_n 0, 1) := by decide +kernel
theorem dX12_isLawful_112 : decode cX12_isLawful 112 = .ok (.getfield 70, 3) := by decide +kernel
theorem dX12_isLawful_115 : decode cX12_isLawful 115 = .ok (.iload_n 1, 1) := by decide +kernel
theorem dX12_isLawful_116 : decode cX12_isLawful 116 = .ok (.iaload, 1) := by decide +kernel
theorem dX12_isLawful_117 : decode cX12_isLawful 117 = .ok (.baload, 1) := by decide +kernel
theorem dX12_isLawful_118 : decode cX12_isLawful 118 = .ok (.ifCond .eq 13, 3) := by decide +kernel
theorem dX12_isLawful_121 : decode cX12_isLawful 121 = .ok (.aload_n 0, 1) := by decide +kernel
theorem dX12_isLawful_122 : decode cX12_isLawful 122 = .ok (.getfield 61, 3) := by decide +kernel
theorem dX12_isLawful_125 : decode cX12_isLawful 125 = .ok (.iconst 1, 1) := by decide +kernel
theorem dX12_isLawful_126 : decode cX12_isLawful 126 = .ok (.iaload, 1) := by decide +kernel
theorem dX12_isLawful_127 : decode cX12_isLawful 127 = .ok (.iconst 1, 1) := by decide +kernel
theorem dX12_isLawful_128 : decode cX12_isLawful 128 = .ok (.if_icmp .ne 37, 3) := by decide +kernel
theorem dX12_isLawful_131 : decode cX12_isLawful 131 = .ok (.aload_n 0, 1) := by decide +kernel
theorem dX12_isLawful_132 : decode cX12_isLawful 132 = .ok (.getfield 295, 3) := by decide +kernel
theorem dX12_isLawful_135 : decode cX12_isLawful 135 = .ok (.aload_n 0, 1) := by decide +kernel
theorem dX12_isLawful_136 : decode cX12_isLawful 136 = .ok (.getfield 61, 3) := by decide +kernel
theorem dX12_isLawful_139 : decode cX12_isLawful 139 = .ok (.iconst 2, 1) := by decide +kernel
theorem dX12_isLawful_140 : decode cX12_isLawful 140 = .ok (.iaload, 1) := by decide +kernel
theorem dX12_isLawful_141 : decode cX12_isLawful 141 = .ok (.if_icmp .lt 24, 3) := by decide +kernel
theorem dX12_isLawful_144 : decode cX12_isLawful 144 = .ok (.aload_n 0, 1) := by decide +kernel
theorem dX12_isLawful_145 : decode cX12_isLawful 145 = .ok (.getfield 76, 3) := by decide +kernel
theorem dX12_isLawful_148 : decode cX12_isLawful 148 = .ok (.iload_n 1, 1) := by decide +kernel
theorem dX12_isLawful_149 : decode cX12_isLawful 149 = .ok (.iaload, 1) := by decide +kernel
theorem dX12_isLawful_150 : decode cX12_isLawful 150 = .ok (.iload_n 3, 1) := by decide +kernel
theorem dX12_isLawful_151 : decode cX12_isLawful 151 = .ok (.isub, 1) := by decide +kernel
theorem dX12_isLawful_152 : decode cX12_isLawful 152 = .ok (.aload_n 0, 1) := by decide +kernel
theorem dX12_isLawful_153 : decode cX12_isLawful 153 = .ok (.getfield 61, 3) := by decide +kernel
theorem dX12_isLawful_156 : decode cX12_isLawful 156 = .ok (.iconst 3, 1) := by decide +kernel
theorem dX12_isLawful_157 : decode cX12_isLawful 157 = .ok (.iaload, 1) := by decide +kernel
theorem dX12_isLawful_158 : decode cX12_isLawful 158 = .ok (.if_icmp .gt 7, 3) := by decide +kernel
theorem dX12_isLawful_161 : decode cX12_isLawful 161 = .ok (.iconst 1, 1) := by decide +kernel
theorem dX12_isLawful_162 : decode cX12_isLawful 162 = .ok (.goto 4, 3) := by decide +kernel
theorem dX12_isLawful_165 : decode cX12_isLawful 165 = .ok (.iconst 0, 1) := by decide +kernel
theorem dX12_isLawful_166 : decode cX12_isLawful 166 = .ok (.ireturn, 1) := by decide +kernel
set_option maxRecDepth 20000 in
theorem ggX12_span_X12_counts : GoodIn wsX12_span wsX12_counts := goodIn_r _ [9, 10, 11, 12, 13, 8, 14, 15, 38, 39, 40, 41, 42, 43, 44, 45, 46, 47, 48, 49, 50, 51, 52, 53, 54, 55, 56, 57, 58, 59, 60, 61, 62, 63, 64, 65, 66, 67, 68, 69, 70, 71, 72, 73, 74, 75, 76, 77, 78, 79, 80, 81, 82, 83, 84, 85, 86, 87, 88, 89, 90, 91, 92, 93, 94, 95, 96, 97, 98, 99] (by decide +kernel) (by decide +kernel)
set_option maxRecDepth 20000 in
theorem gX12_span_X12_counts : GoodIn wsX12_span (wsV RX12 301 RX12 yX12_counts wsX12_counts) := goodIn_app (goodIn_of _ (by decide +kernel)) ggX12_span_X12_counts
set_option maxRecDepth 20000 in
theorem ggX12_span_X12_isLawful : GoodIn wsX12_span wsX12_isLawful := goodIn_r _ [19, 10, 15, 20, 21, 22, 23, 24, 4, 5, 6, 7, 8, 9, 11, 12, 13, 14, 25, 26, 27, 28, 2, 3, 29, 30, 31, 32, 33, 34, 35, 36, 37, 38, 39, 40, 41, 42, 43, 44, 45, 46, 47, 48, 49, 50, 51, 52, 53, 54, 55, 56, 57, 58, 59, 60, 61, 62, 63, 64, 65, 66, 67, 68, 69, 70, 71, 72, 73, 74, 75, 76, 77, 78, 79, 80, 81, 82, 83, 84, 85, 86, 87, 88, 89, 90, 91, 92, 93, 94, 95, 96, 97, 98, 99] (by decide +kernel) (by decide +kernel)
set_option maxRecDepth 20000 in
theorem gX12_span_X12_isLawful : GoodIn wsX12_span (wsV RX12 308 RX12 yX12_isLawful wsX12_isLawful) := goodIn_app (goodIn_of _ (by decide +kernel)) ggX12_span_X12_isLawful
theorem dX12_span_0 : decode cX12_span 0 = .ok (.aload_n 0, 1) := by decide +kernel
theorem dX12_span_1 : decode cX12_span 1 = .ok (.iconst 0, 1) := by decide +kernel
theorem dX12_span_2 : decode cX12_span 2 = .ok (.putfield 133, 3) := by decide +kernel
theorem dX12_span_5 : decode cX12_span 5 = .ok (.aload_n 0, 1) := by decide +kernel
theorem dX12_span_6 : decode cX12_span 6 = .ok (.iload_n 1, 1) := by decide +kernel
theorem dX12_span_7 : decode cX12_span 7 = .ok (.iload_n 2, 1) := by decide +kernel
theorem dX12_span_8 : decode cX12_span 8 = .ok (.invokevirtual 301, 3) := by decide +kernel
theorem dX12_span_11 : decode cX12_span 11 = .ok (.ifCond .eq 12, 3) := by decide +kernel
theorem dX12_span_14 : decode cX12_span 14 = .ok (.iload_n 3, 1) := by decide +kernel
theorem dX12_span_15 : decode cX12_span 15 = .ok (.ifCond .lt 8, 3) := by decide +kernel
theorem dX12_span_18 : decode cX12_span 18 = .ok (.iload_n 3, 1) := by decide +kernel
theorem dX12_span_19 : decode cX12_span 19 = .ok (.iconst 3, 1) := by decide +kernel
theorem dX12_span_20 : decode cX12_span 20 = .ok (.if_icmp .le 5, 3) := by decide +kernel
theorem dX12_span_23 : decode cX12_span 23 = .ok (.iconst (-1), 1) := by decide +kernel
theorem dX12_span_24 : decode cX12_span 24 = .ok (.ireturn, 1) := by decide +kernel
theorem dX12_span_25 : decode cX12_span 25 = .ok (.aload_n 0, 1) := by decide +kernel
theorem dX12_span_26 : decode cX12_span 26 = .ok (.iload_n 1, 1) := by decide +kernel
theorem dX12_span_27 : decode cX12_span 27 = .ok (.iload_n 2, 1) := by decide +kernel
theorem dX12_span_28 : decode cX12_span 28 = .ok (.invokevirtual 308, 3) := by decide +kernel
theorem dX12_span_31 : decode cX12_span 31 = .ok (.istore 4, 2) := by decide +kernel
theorem dX12_span_33 : decode cX12_span 33 = .ok (.iload_n 3, 1) := by decide +kernel
theorem dX12_span_34 : decode cX12_span 34 = .ok (.ifCond .ne 10, 3) := by decide +kernel
theorem dX12_span_37 : decode cX12_span 37 = .ok (.aload_n 0, 1) := by decide +kernel
theorem dX12_span_38 : decode cX12_span 38 = .ok (.getfield 289, 3) := by decide +kernel
theorem dX12_span_41 : decode cX12_span 41 = .ok (.goto 37, 3) := by decide +kernel
theorem dX12_span_44 : decode cX12_span 44 = .ok (.iload_n 3, 1) := by decide +kernel
theorem dX12_span_45 : decode cX12_span 45 = .ok (.iconst 1, 1) := by decide +kernel
theorem dX12_span_46 : decode cX12_span 46 = .ok (.if_icmp .ne 10, 3) := by decide +kernel
theorem dX12_span_49 : decode cX12_span 49 = .ok (.aload_n 0, 1) := by decide +kernel
theorem dX12_span_50 : decode cX12_span 50 = .ok (.getfield 292, 3) := by decide +kernel
theorem dX12_span_53 : decode cX12_span 53 = .ok (.goto 25, 3) := by decide +kernel
theorem dX12_span_56 : decode cX12_span 56 = .ok (.iload_n 3, 1) := by decide +kernel
theorem dX12_span_57 : decode cX12_span 57 = .ok (.iconst 2, 1) := by decide +kernel
theorem dX12_span_58 : decode cX12_span 58 = .ok (.if_icmp .ne 10, 3) := by decide +kernel
theorem dX12_span_61 : decode cX12_span 61 = .ok (.aload_n 0, 1) := by decide +kernel
theorem dX12_span_62 : decode cX12_span 62 = .ok (.getfield 295, 3) := by decide +kernel
theorem dX12_span_65 : decode cX12_span 65 = .ok (.goto 13, 3) := by decide +kernel
theorem dX12_span_68 : decode cX12_span 68 = .ok (.iload 4, 2) := by decide +kernel
theorem dX12_span_70 : decode cX12_span 70 = .ok (.ifCond .eq 7, 3) := by decide +kernel
theorem dX12_span_73 : decode cX12_span 73 = .ok (.iconst 1, 1) := by decide +kernel
theorem dX12_span_74 : decode cX12_span 74 = .ok (.goto 4, 3) := by decide +kernel
theorem dX12_span_77 : decode cX12_span 77 = .ok (.iconst 0, 1) := by decide +kernel
theorem dX12_span_78 : decode cX12_span 78 = .ok (.ireturn, 1) := by decide +kernel
set_option maxRecDepth 20000 in
theorem ggX12_gather_X12_isLawful : GoodIn wsX12_gather wsX12_isLawful := goodIn_r _ [13, 14, 2, 3, 15, 16, 17, 18, 19, 20, 21, 22, 12, 23, 24, 25, 26, 27, 28, 29, 30, 31, 6, 8, 32, 33, 34, 35, 36, 37, 38, 39, 40, 41, 42, 43, 44, 45, 46, 47, 48, 49, 50, 51, 52, 53, 54, 55, 56, 57, 58, 59, 60, 61, 62, 63, 64, 65, 66, 67, 68, 69, 70, 71, 72, 73, 74, 75, 76, 77, 78, 79, 80, 81, 82, 83, 84, 85, 86, 87, 88, 89, 90, 91, 92, 93, 94, 95, 96, 97, 98, 99, 100, 101, 102] (by decide +kernel) (by decide +kernel)
set_option maxRecDepth 20000 in
theorem gX12_gather_X12_isLawful : GoodIn wsX12_gather (wsV RX12 308 RX12 yX12_isLawful wsX12_isLawful) := goodIn_app (goodIn_of _ (by decide +kernel)) ggX12_gather_X12_isLawful
theorem dX12_gather_0 : decode cX12_gather 0 = .ok (.aload_n 0, 1) := by decide +kernel
theorem dX12_gather_1 : decode cX12_gather 1 = .ok (.iconst 0, 1) := by decide +kernel
theorem dX12_gather_2 : decode cX12_gather 2 = .ok (.putfield 311, 3) := by decide +kernel
theorem dX12_gather_5 : decode cX12_gather 5 = .ok (.iconst 0, 1) := by decide +kernel
theorem dX12_gather_6 : decode cX12_gather 6 = .ok (.istore_n 3, 1) := by decide +kernel
theorem dX12_gather_7 : decode cX12_gather 7 = .ok (.iload_n 3, 1) := by decide +kernel
theorem dX12_gather_8 : decode cX12_gather 8 = .ok (.aload_n 0, 1) := by decide +kernel
theorem dX12_gather_9 : decode cX12_gather 9 = .ok (.getfield 280, 3) := by decide +kernel
theorem dX12_gather_12 : decode cX12_gather 12 = .ok (.if_icmp .ge 77, 3) := by decide +kernel
theorem dX12_gather_15 : decode cX12_gather 15 = .ok (.aload_n 0, 1) := by decide +kernel
theorem dX12_gather_16 : decode cX12_gather 16 = .ok (.getfield 73, 3) := by decide +kernel
theorem dX12_gather_19 : decode cX12_gather 19 = .ok (.iload_n 3, 1) := by decide +kernel
theorem dX12_gather_20 : decode cX12_gather 20 = .ok (.iaload, 1) := by decide +kernel
theorem dX12_gather_21 : decode cX12_gather 21 = .ok (.iload_n 1, 1) := by decide +kernel
theorem dX12_gather_22 : decode cX12_gather 22 = .ok (.if_icmp .ne 61, 3) := by decide +kernel
theorem dX12_gather_25 : decode cX12_gather 25 = .ok (.aload_n 0, 1) := by decide +kernel
theorem dX12_gather_26 : decode cX12_gather 26 = .ok (.iload_n 3, 1) := by decide +kernel
theorem dX12_gather_27 : decode cX12_gather 27 = .ok (.iload_n 2, 1) := by decide +kernel
theorem dX12_gather_28 : decode cX12_gather 28 = .ok (.invokevirtual 308, 3) := by decide +kernel
theorem dX12_gather_31 : decode cX12_gather 31 = .ok (.ifCond .ne 6, 3) := by decide +kernel
theorem dX12_gather_34 : decode cX12_gather 34 = .ok (.goto 49, 3) := by decide +kernel
theorem dX12_gather_37 : decode cX12_gather 37 = .ok (.aload_n 0, 1) := by decide +kernel
theorem dX12_gather_38 : decode cX12_gather 38 = .ok (.getfield 91, 3) := by decide +kernel
theorem dX12_gather_41 : decode cX12_gather 41 = .ok (.aload_n 0, 1) := by decide +kernel
theorem dX12_gather_42 : decode cX12_gather 42 = .ok (.getfield 311, 3) := by decide +kernel
theorem dX12_gather_45 : decode cX12_gather 45 = .ok (.iload_n 3, 1) := by decide +kernel
theorem dX12_gather_46 : decode cX12_gather 46 = .ok (.iastore, 1) := by decide +kernel
theorem dX12_gather_47 : decode cX12_gather 47 = .ok (.aload_n 0, 1) := by decide +kernel
theorem dX12_gather_48 : decode cX12_gather 48 = .ok (.getfield 94, 3) := by decide +kernel
theorem dX12_gather_51 : decode cX12_gather 51 = .ok (.aload_n 0, 1) := by decide +kernel
theorem dX12_gather_52 : decode cX12_gather 52 = .ok (.getfield 311, 3) := by decide +kernel
theorem dX12_gather_55 : decode cX12_gather 55 = .ok (.aload_n 0, 1) := by decide +kernel
theorem dX12_gather_56 : decode cX12_gather 56 = .ok (.getfield 289, 3) := by decide +kernel
theorem dX12_gather_59 : decode cX12_gather 59 = .ok (.iastore, 1) := by decide +kernel
theorem dX12_gather_60 : decode cX12_gather 60 = .ok (.aload_n 0, 1) := by decide +kernel
theorem dX12_gather_61 : decode cX12_gather 61 = .ok (.getfield 97, 3) := by decide +kernel
theorem dX12_gather_64 : decode cX12_gather 64 = .ok (.aload_n 0, 1) := by decide +kernel
theorem dX12_gather_65 : decode cX12_gather 65 = .ok (.getfield 311, 3) := by decide +kernel
theorem dX12_gather_68 : decode cX12_gather 68 = .ok (.aload_n 0, 1) := by decide +kernel
theorem dX12_gather_69 : decode cX12_gather 69 = .ok (.getfield 292, 3) := by decide +kernel
theorem dX12_gather_72 : decode cX12_gather 72 = .ok (.iastore, 1) := by decide +kernel
theorem dX12_gather_73 : decode cX12_gather 73 = .ok (.aload_n 0, 1) := by decide +kernel
theorem dX12_gather_74 : decode cX12_gather 74 = .ok (.dup, 1) := by decide +kernel
theorem dX12_gather_75 : decode cX12_gather 75 = .ok (.getfield 311, 3) := by decide +kernel
theorem dX12_gather_78 : decode cX12_gather 78 = .ok (.iconst 1, 1) := by decide +kernel
theorem dX12_gather_79 : decode cX12_gather 79 = .ok (.iadd, 1) := by decide +kernel
theorem dX12_gather_80 : decode cX12_gather 80 = .ok (.putfield 311, 3) := by decide +kernel
theorem dX12_gather_83 : decode cX12_gather 83 = .ok (.iinc 3 1, 3) := by decide +kernel
theorem dX12_gather_86 : decode cX12_gather 86 = .ok (.goto (-79), 3) := by decide +kernel
theorem dX12_gather_89 : decode cX12_gather 89 = .ok (.return_, 1) := by decide +kernel
theorem dX12_sure_0 : decode cX12_sure 0 = .ok (.iconst 0, 1) := by decide +kernel
theorem dX12_sure_1 : decode cX12_sure 1 = .ok (.istore_n 1, 1) := by decide +kernel
theorem dX12_sure_2 : decode cX12_sure 2 = .ok (.iload_n 1, 1) := by decide +kernel
theorem dX12_sure_3 : decode cX12_sure 3 = .ok (.aload_n 0, 1) := by decide +kernel
theorem dX12_sure_4 : decode cX12_sure 4 = .ok (.getfield 311, 3) := by decide +kernel
theorem dX12_sure_7 : decode cX12_sure 7 = .ok (.if_icmp .ge 68, 3) := by decide +kernel
theorem dX12_sure_10 : decode cX12_sure 10 = .ok (.iconst 1, 1) := by decide +kernel
theorem dX12_sure_11 : decode cX12_sure 11 = .ok (.istore_n 2, 1) := by decide +kernel
theorem dX12_sure_12 : decode cX12_sure 12 = .ok (.iconst 0, 1) := by decide +kernel
theorem dX12_sure_13 : decode cX12_sure 13 = .ok (.istore_n 3, 1) := by decide +kernel
theorem dX12_sure_14 : decode cX12_sure 14 = .ok (.iload_n 3, 1) := by decide +kernel
theorem dX12_sure_15 : decode cX12_sure 15 = .ok (.aload_n 0, 1) := by decide +kernel
theorem dX12_sure_16 : decode cX12_sure 16 = .ok (.getfield 311, 3) := by decide +kernel
theorem dX12_sure_19 : decode cX12_sure 19 = .ok (.if_icmp .ge 39, 3) := by decide +kernel
theorem dX12_sure_22 : decode cX12_sure 22 = .ok (.iload_n 2, 1) := by decide +kernel
theorem dX12_sure_23 : decode cX12_sure 23 = .ok (.ifCond .eq 27, 3) := by decide +kernel
theorem dX12_sure_26 : decode cX12_sure 26 = .ok (.iload_n 3, 1) := by decide +kernel
theorem dX12_sure_27 : decode cX12_sure 27 = .ok (.iload_n 1, 1) := by decide +kernel
theorem dX12_sure_28 : decode cX12_sure 28 = .ok (.if_icmp .eq 18, 3) := by decide +kernel
theorem dX12_sure_31 : decode cX12_sure 31 = .ok (.aload_n 0, 1) := by decide +kernel
theorem dX12_sure_32 : decode cX12_sure 32 = .ok (.getfield 97, 3) := by decide +kernel
theorem dX12_sure_35 : decode cX12_sure 35 = .ok (.iload_n 1, 1) := by decide +kernel
theorem dX12_sure_36 : decode cX12_sure 36 = .ok (.iaload, 1) := by decide +kernel
theorem dX12_sure_37 : decode cX12_sure 37 = .ok (.aload_n 0, 1) := by decide +kernel
theorem dX12_sure_38 : decode cX12_sure 38 = .ok (.getfield 94, 3) := by decide +kernel
theorem dX12_sure_41 : decode cX12_sure 41 = .ok (.iload_n 3, 1) := by decide +kernel
theorem dX12_sure_42 : decode cX12_sure 42 = .ok (.iaload, 1) := by decide +kernel
theorem dX12_sure_43 : decode cX12_sure 43 = .ok (.if_icmp .ge 7, 3) := by decide +kernel
theorem dX12_sure_46 : decode cX12_sure 46 = .ok (.iconst 1, 1) := by decide +kernel
theorem dX12_sure_47 : decode cX12_sure 47 = .ok (.goto 4, 3) := by decide +kernel
theorem dX12_sure_50 : decode cX12_sure 50 = .ok (.iconst 0, 1) := by decide +kernel
theorem dX12_sure_51 : decode cX12_sure 51 = .ok (.istore_n 2, 1) := by decide +kernel
theorem dX12_sure_52 : decode cX12_sure 52 = .ok (.iinc 3 1, 3) := by decide +kernel
theorem dX12_sure_55 : decode cX12_sure 55 = .ok (.goto (-41), 3) := by decide +kernel
theorem dX12_sure_58 : decode cX12_sure 58 = .ok (.iload_n 2, 1) := by decide +kernel
theorem dX12_sure_59 : decode cX12_sure 59 = .ok (.ifCond .eq 10, 3) := by decide +kernel
theorem dX12_sure_62 : decode cX12_sure 62 = .ok (.aload_n 0, 1) := by decide +kernel
theorem dX12_sure_63 : decode cX12_sure 63 = .ok (.getfield 91, 3) := by decide +kernel
theorem dX12_sure_66 : decode cX12_sure 66 = .ok (.iload_n 1, 1) := by decide +kernel
theorem dX12_sure_67 : decode cX12_sure 67 = .ok (.iaload, 1) := by decide +kernel
theorem dX12_sure_68 : decode cX12_sure 68 = .ok (.ireturn, 1) := by decide +kernel
theorem dX12_sure_69 : decode cX12_sure 69 = .ok (.iinc 1 1, 3) := by decide +kernel
theorem dX12_sure_72 : decode cX12_sure 72 = .ok (.goto (-70), 3) := by decide +kernel
theorem dX12_sure_75 : decode cX12_sure 75 = .ok (.iconst (-1), 1) := by decide +kernel
theorem dX12_sure_76 : decode cX12_sure 76 = .ok (.ireturn, 1) := by decide +kernel
set_option maxRecDepth 20000 in
theorem ggX12_judge_X12_isQuarter : GoodIn wsX12_judge wsX12_isQuarter := goodIn_r _ [13] (by decide +kernel) (by decide +kernel)
set_option maxRecDepth 20000 in
theorem gX12_judge_X12_isQuarter : GoodIn wsX12_judge (va_wsS RX12 157 yX12_isQuarter wsX12_isQuarter) := goodIn_app (goodIn_of _ (by decide +kernel)) ggX12_judge_X12_isQuarter
set_option maxRecDepth 20000 in
theorem ggX12_judge_X12_gather : GoodIn wsX12_judge wsX12_gather := goodIn_r _ [17, 3, 18, 19, 6, 4, 20, 5, 21, 22, 23, 24, 12, 25, 7, 8, 9, 2, 26, 27, 28, 29, 30, 31, 32, 33, 34, 35, 36, 37, 38, 39, 40, 41, 42, 43, 44, 45, 46, 47, 48, 53, 54, 55, 56, 57, 58, 59, 60, 61, 62, 63, 64, 65, 66, 67, 68, 69, 70, 71, 72, 73, 74, 75, 76, 77, 78, 79, 80, 81, 82, 83, 84, 85, 86, 87, 88, 89, 90, 91, 92, 93, 94, 95, 96, 97, 98, 99, 100, 101, 102, 103, 104, 105, 106, 107, 108, 109, 110, 111, 112, 113, 114] (by decide +kernel) (by decide +kernel)
set_option maxRecDepth 20000 in
theorem gX12_judge_X12_gather : GoodIn wsX12_judge (wsV RX12 314 RX12 yX12_gather wsX12_gather) := goodIn_app (goodIn_of _ (by decide +kernel)) ggX12_judge_X12_gather
set_option maxRecDepth 20000 in
theorem ggX12_judge_X12_sure : GoodIn wsX12_judge wsX12_sure := goodIn_r _ [52, 3, 5, 4, 6, 53, 54, 55, 56, 57, 58, 59, 60, 61, 62, 63, 64, 65, 66, 67, 68, 69, 70, 71, 72, 73, 74, 75, 76, 77, 78, 79, 80, 81, 82, 83, 84, 85, 86, 87, 88, 89, 90, 91, 92, 93, 94, 95, 96, 97, 98, 99, 100, 101, 102, 103, 104, 105, 106, 107, 108, 109, 110, 111, 112, 113, 114] (by decide +kernel) (by decide +kernel)
set_option maxRecDepth 20000 in
theorem gX12_judge_X12_sure : GoodIn wsX12_judge (wsV RX12 317 RX12 yX12_sure wsX12_sure) := goodIn_app (goodIn_of _ (by decide +kernel)) ggX12_judge_X12_sure
theorem dX12_judge_0 : decode cX12_judge 0 = .ok (.aload_n 0, 1) := by decide +kernel
theorem dX12_judge_1 : decode cX12_judge 1 = .ok (.iconst 0, 1) := by decide +kernel
theorem dX12_judge_2 : decode cX12_judge 2 = .ok (.putfield 133, 3) := by decide +kernel
theorem dX12_judge_5 : decode cX12_judge 5 = .ok (.iload_n 1, 1) := by decide +kernel
theorem dX12_judge_6 : decode cX12_judge 6 = .ok (.invokestatic 157, 3) := by decide +kernel
theorem dX12_judge_9 : decode cX12_judge 9 = .ok (.ifCond .ne 5, 3) := by decide +kernel
theorem dX12_judge_12 : decode cX12_judge 12 = .ok (.iconst (-1), 1) := by decide +kernel
theorem dX12_judge_13 : decode cX12_judge 13 = .ok (.ireturn, 1) := by decide +kernel
theorem dX12_judge_14 : decode cX12_judge 14 = .ok (.aload_n 0, 1) := by decide +kernel
theorem dX12_judge_15 : decode cX12_judge 15 = .ok (.iload_n 1, 1) := by decide +kernel
theorem dX12_judge_16 : decode cX12_judge 16 = .ok (.iload_n 2, 1) := by decide +kernel
theorem dX12_judge_17 : decode cX12_judge 17 = .ok (.invokevirtual 314, 3) := by decide +kernel
theorem dX12_judge_20 : decode cX12_judge 20 = .ok (.aload_n 0, 1) := by decide +kernel
theorem dX12_judge_21 : decode cX12_judge 21 = .ok (.invokevirtual 317, 3) := by decide +kernel
theorem dX12_judge_24 : decode cX12_judge 24 = .ok (.ifCond .ge 13, 3) := by decide +kernel
theorem dX12_judge_27 : decode cX12_judge 27 = .ok (.aload_n 0, 1) := by decide +kernel
theorem dX12_judge_28 : decode cX12_judge 28 = .ok (.getfield 61, 3) := by decide +kernel
theorem dX12_judge_31 : decode cX12_judge 31 = .ok (.iconst 4, 1) := by decide +kernel
theorem dX12_judge_32 : decode cX12_judge 32 = .ok (.iaload, 1) := by decide +kernel
theorem dX12_judge_33 : decode cX12_judge 33 = .ok (.iconst 2, 1) := by decide +kernel
theorem dX12_judge_34 : decode cX12_judge 34 = .ok (.if_icmp .ne 8, 3) := by decide +kernel
theorem dX12_judge_37 : decode cX12_judge 37 = .ok (.aload_n 0, 1) := by decide +kernel
theorem dX12_judge_38 : decode cX12_judge 38 = .ok (.invokevirtual 317, 3) := by decide +kernel
theorem dX12_judge_41 : decode cX12_judge 41 = .ok (.ireturn, 1) := by decide +kernel
theorem dX12_judge_42 : decode cX12_judge 42 = .ok (.iconst (-1), 1) := by decide +kernel
theorem dX12_judge_43 : decode cX12_judge 43 = .ok (.istore_n 3, 1) := by decide +kernel
theorem dX12_judge_44 : decode cX12_judge 44 = .ok (.iconst 0, 1) := by decide +kernel
theorem dX12_judge_45 : decode cX12_judge 45 = .ok (.istore 4, 2) := by decide +kernel
theorem dX12_judge_47 : decode cX12_judge 47 = .ok (.iload 4, 2) := by decide +kernel
theorem dX12_judge_49 : decode cX12_judge 49 = .ok (.aload_n 0, 1) := by decide +kernel
theorem dX12_judge_50 : decode cX12_judge 50 = .ok (.getfield 311, 3) := by decide +kernel
theorem dX12_judge_53 : decode cX12_judge 53 = .ok (.if_icmp .ge 137, 3) := by decide +kernel
theorem dX12_judge_56 : decode cX12_judge 56 = .ok (.iconst 1, 1) := by decide +kernel
theorem dX12_judge_57 : decode cX12_judge 57 = .ok (.istore 5, 2) := by decide +kernel
theorem dX12_judge_59 : decode cX12_judge 59 = .ok (.iconst 0, 1) := by decide +kernel
theorem dX12_judge_60 : decode cX12_judge 60 = .ok (.istore 6, 2) := by decide +kernel
theorem dX12_judge_62 : decode cX12_judge 62 = .ok (.iload 6, 2) := by decide +kernel
theorem dX12_judge_64 : decode cX12_judge 64 = .ok (.aload_n 0, 1) := by decide +kernel
theorem dX12_judge_65 : decode cX12_judge 65 = .ok (.getfield 311, 3) := by decide +kernel
theorem dX12_judge_68 : decode cX12_judge 68 = .ok (.if_icmp .ge 38, 3) := by decide +kernel
theorem dX12_judge_71 : decode cX12_judge 71 = .ok (.iload 5, 2) := by decide +kernel
theorem dX12_judge_73 : decode cX12_judge 73 = .ok (.ifCond .eq 24, 3) := by decide +kernel
theorem dX12_judge_76 : decode cX12_judge 76 = .ok (.aload_n 0, 1) := by decide +kernel
theorem dX12_judge_77 : decode cX12_judge 77 = .ok (.getfield 94, 3) := by decide +kernel
theorem dX12_judge_80 : decode cX12_judge 80 = .ok (.iload 4, 2) := by decide +kernel
theorem dX12_judge_82 : decode cX12_judge 82 = .ok (.iaload, 1) := by decide +kernel
theorem dX12_judge_83 : decode cX12_judge 83 = .ok (.aload_n 0, 1) := by decide +kernel
theorem dX12_judge_84 : decode cX12_judge 84 = .ok (.getfield 97, 3) := by decide +kernel
theorem dX12_judge_87 : decode cX12_judge 87 = .ok (.iload 6, 2) := by decide +kernel
theorem dX12_judge_89 : decode cX12_judge 89 = .ok (.iaload, 1) := by decide +kernel
theorem dX12_judge_90 : decode cX12_judge 90 = .ok (.if_icmp .gt 7, 3) := by decide +kernel
theorem dX12_judge_93 : decode cX12_judge 93 = .ok (.iconst 1, 1) := by decide +kernel
theorem dX12_judge_94 : decode cX12_judge 94 = .ok (.goto 4, 3) := by decide +kernel
theorem dX12_judge_97 : decode cX12_judge 97 = .ok (.iconst 0, 1) := by decide +kernel
theorem dX12_judge_98 : decode cX12_judge 98 = .ok (.istore 5, 2) := by decide +kernel
theorem dX12_judge_100 : decode cX12_judge 100 = .ok (.iinc 6 1, 3) := by decide +kernel
theorem dX12_judge_103 : decode cX12_judge 103 = .ok (.goto (-41), 3) := by decide +kernel
theorem dX12_judge_106 : decode cX12_judge 106 = .ok (.iload 5, 2) := by decide +kernel
theorem dX12_judge_108 : decode cX12_judge 108 = .ok (.ifCond .ne 6, 3) := by decide +kernel
theorem dX12_judge_111 : decode cX12_judge 111 = .ok (.goto 73, 3) := by decide +kernel
theorem dX12_judge_114 : decode cX12_judge 114 = .ok (.aload_n 0, 1) := by decide +kernel
theorem dX12_judge_115 : decode cX12_judge 115 = .ok (.getfield 91, 3) := by decide +kernel
theorem dX12_judge_118 : decode cX12_judge 118 = .ok (.iload 4, 2) := by decide +kernel
theorem dX12_judge_120 : decode cX12_judge 120 = .ok (.iaload, 1) := by decide +kernel
theorem dX12_judge_121 : decode cX12_judge 121 = .ok (.istore 6, 2) := by decide +kernel
theorem dX12_judge_123 : decode cX12_judge 123 = .ok (.iload_n 3, 1) := by decide +kernel
theorem dX12_judge_124 : decode cX12_judge 124 = .ok (.ifCond .lt 57, 3) := by decide +kernel
theorem dX12_judge_127 : decode cX12_judge 127 = .ok (.aload_n 0, 1) := by decide +kernel
theorem dX12_judge_128 : decode cX12_judge 128 = .ok (.getfield 61, 3) := by decide +kernel
theorem dX12_judge_131 : decode cX12_judge 131 = .ok (.iconst 4, 1) := by decide +kernel
theorem dX12_judge_132 : decode cX12_judge 132 = .ok (.iaload, 1) := by decide +kernel
theorem dX12_judge_133 : decode cX12_judge 133 = .ok (.ifCond .ne 22, 3) := by decide +kernel
theorem dX12_judge_136 : decode cX12_judge 136 = .ok (.aload_n 0, 1) := by decide +kernel
theorem dX12_judge_137 : decode cX12_judge 137 = .ok (.getfield 76, 3) := by decide +kernel
theorem dX12_judge_140 : decode cX12_judge 140 = .ok (.iload 6, 2) := by decide +kernel
theorem dX12_judge_142 : decode cX12_judge 142 = .ok (.iaload, 1) := by decide +kernel
theorem dX12_judge_143 : decode cX12_judge 143 = .ok (.aload_n 0, 1) := by decide +kernel
theorem dX12_judge_144 : decode cX12_judge 144 = .ok (.getfield 76, 3) := by decide +kernel
theorem dX12_judge_147 : decode cX12_judge 147 = .ok (.iload_n 3, 1) := by decide +kernel
theorem dX12_judge_148 : decode cX12_judge 148 = .ok (.iaload, 1) := by decide +kernel
theorem dX12_judge_149 : decode cX12_judge 149 = .ok (.if_icmp .ge 35, 3) := by decide +kernel
theorem dX12_judge_152 : decode cX12_judge 152 = .ok (.goto 29, 3) := by decide +kernel
theorem dX12_judge_155 : decode cX12_judge 155 = .ok (.aload_n 0, 1) := by decide +kernel
theorem dX12_judge_156 : decode cX12_judge 156 = .ok (.getfield 32, 3) := by decide +kernel
theorem dX12_judge_159 : decode cX12_judge 159 = .ok (.aload_n 0, 1) := by decide +kernel
theorem dX12_judge_160 : decode cX12_judge 160 = .ok (.getfield 70, 3) := by decide +kernel
theorem dX12_judge_163 : decode cX12_judge 163 = .ok (.iload 6, 2) := by decide +kernel
theorem dX12_judge_165 : decode cX12_judge 165 = .ok (.iaload, 1) := by decide +kernel
theorem dX12_judge_166 : decode cX12_judge 166 = .ok (.iaload, 1) := by decide +kernel
theorem dX12_judge_167 : decode cX12_judge 167 = .ok (.aload_n 0, 1) := by decide +kernel
theorem dX12_judge_168 : decode cX12_judge 168 = .ok (.getfield 32, 3) := by decide +kernel
theorem dX12_judge_171 : decode cX12_judge 171 = .ok (.aload_n 0, 1) := by decide +kernel
theorem dX12_judge_172 : decode cX12_judge 172 = .ok (.getfield 70, 3) := by decide +kernel
theorem dX12_judge_175 : decode cX12_judge 175 = .ok (.iload_n 3, 1) := by decide +kernel
theorem dX12_judge_176 : decode cX12_judge 176 = .ok (.iaload, 1) := by decide +kernel
theorem dX12_judge_177 : decode cX12_judge 177 = .ok (.iaload, 1) := by decide +kernel
theorem dX12_judge_178 : decode cX12_judge 178 = .ok (.if_icmp .ge 6, 3) := by decide +kernel
theorem dX12_judge_181 : decode cX12_judge 181 = .ok (.iload 6, 2) := by decide +kernel
theorem dX12_judge_183 : decode cX12_judge 183 = .ok (.istore_n 3, 1) := by decide +kernel
theorem dX12_judge_184 : decode cX12_judge 184 = .ok (.iinc 4 1, 3) := by decide +kernel
theorem dX12_judge_187 : decode cX12_judge 187 = .ok (.goto (-140), 3) := by decide +kernel
