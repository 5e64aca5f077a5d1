theorem dX8_demandScript_10 : decode cX8_demandScript 10 = .ok (.ifnonnull 14, 3) := by decide +kernel
theorem dX8_demandScript_13 : decode cX8_demandScript 13 = .ok (.new 227, 3) := by decide +kernel
theorem dX8_demandScript_16 : decode cX8_demandScript 16 = .ok (.dup, 1) := by decide +kernel
theorem dX8_demandScript_17 : decode cX8_demandScript 17 = .ok (.ldc_w 422, 3) := by decide +kernel
theorem dX8_demandScript_20 : decode cX8_demandScript 20 = .ok (.invokespecial 231, 3) := by decide +kernel
theorem dX8_demandScript_23 : decode cX8_demandScript 23 = .ok (.athrow, 1) := by decide +kernel
theorem dX8_demandScript_24 : decode cX8_demandScript 24 = .ok (.aload_n 2, 1) := by decide +kernel
theorem dX8_demandScript_25 : decode cX8_demandScript 25 = .ok (.areturn, 1) := by decide +kernel
theorem dX8_demandProcess_0 : decode cX8_demandProcess 0 = .ok (.aload_n 0, 1) := by decide +kernel
theorem dX8_demandProcess_1 : decode cX8_demandProcess 1 = .ok (.getfield 24, 3) := by decide +kernel
theorem dX8_demandProcess_4 : decode cX8_demandProcess 4 = .ok (.iload_n 1, 1) := by decide +kernel
theorem dX8_demandProcess_5 : decode cX8_demandProcess 5 = .ok (.invokevirtual 424, 3) := by decide +kernel
theorem dX8_demandProcess_8 : decode cX8_demandProcess 8 = .ok (.astore_n 2, 1) := by decide +kernel
theorem dX8_demandProcess_9 : decode cX8_demandProcess 9 = .ok (.aload_n 2, 1) := by decide +kernel
theorem dX8_demandProcess_10 : decode cX8_demandProcess 10 = .ok (.ifnonnull 14, 3) := by decide +kernel
theorem dX8_demandProcess_13 : decode cX8_demandProcess 13 = .ok (.new 227, 3) := by decide +kernel
theorem dX8_demandProcess_16 : decode cX8_demandProcess 16 = .ok (.dup, 1) := by decide +kernel
theorem dX8_demandProcess_17 : decode cX8_demandProcess 17 = .ok (.ldc_w 427, 3) := by decide +kernel
theorem dX8_demandProcess_20 : decode cX8_demandProcess 20 = .ok (.invokespecial 231, 3) := by decide +kernel
theorem dX8_demandProcess_23 : decode cX8_demandProcess 23 = .ok (.athrow, 1) := by decide +kernel
theorem dX8_demandProcess_24 : decode cX8_demandProcess 24 = .ok (.aload_n 2, 1) := by decide +kernel
theorem dX8_demandProcess_25 : decode cX8_demandProcess 25 = .ok (.areturn, 1) := by decide +kernel
theorem dX8_at_0 : decode cX8_at 0 = .ok (.iload_n 1, 1) := by decide +kernel
theorem dX8_at_1 : decode cX8_at 1 = .ok (.ifCond .lt 15, 3) := by decide +kernel
theorem dX8_at_4 : decode cX8_at 4 = .ok (.iload_n 1, 1) := by decide +kernel
theorem dX8_at_5 : decode cX8_at 5 = .ok (.aload_n 0, 1) := by decide +kernel
theorem dX8_at_6 : decode cX8_at 6 = .ok (.arraylength, 1) := by decide +kernel
theorem dX8_at_7 : decode cX8_at 7 = .ok (.if_icmp .ge 9, 3) := by decide +kernel
theorem dX8_at_10 : decode cX8_at 10 = .ok (.aload_n 0, 1) := by decide +kernel
theorem dX8_at_11 : decode cX8_at 11 = .ok (.iload_n 1, 1) := by decide +kernel
theorem dX8_at_12 : decode cX8_at 12 = .ok (.iaload, 1) := by decide +kernel
theorem dX8_at_13 : decode cX8_at 13 = .ok (.goto 4, 3) := by decide +kernel
theorem dX8_at_16 : decode cX8_at 16 = .ok (.iconst 0, 1) := by decide +kernel
theorem dX8_at_17 : decode cX8_at 17 = .ok (.ireturn, 1) := by decide +kernel
theorem dX8_set_0 : decode cX8_set 0 = .ok (.iload_n 1, 1) := by decide +kernel
theorem dX8_set_1 : decode cX8_set 1 = .ok (.ifCond .lt 13, 3) := by decide +kernel
theorem dX8_set_4 : decode cX8_set 4 = .ok (.iload_n 1, 1) := by decide +kernel
theorem dX8_set_5 : decode cX8_set 5 = .ok (.aload_n 0, 1) := by decide +kernel
theorem dX8_set_6 : decode cX8_set 6 = .ok (.arraylength, 1) := by decide +kernel
theorem dX8_set_7 : decode cX8_set 7 = .ok (.if_icmp .ge 7, 3) := by decide +kernel
theorem dX8_set_10 : decode cX8_set 10 = .ok (.aload_n 0, 1) := by decide +kernel
theorem dX8_set_11 : decode cX8_set 11 = .ok (.iload_n 1, 1) := by decide +kernel
theorem dX8_set_12 : decode cX8_set 12 = .ok (.iload_n 2, 1) := by decide +kernel
theorem dX8_set_13 : decode cX8_set 13 = .ok (.iastore, 1) := by decide +kernel
theorem dX8_set_14 : decode cX8_set 14 = .ok (.return_, 1) := by decide +kernel
theorem dX8_copyRow_0 : decode cX8_copyRow 0 = .ok (.iconst 0, 1) := by decide +kernel
theorem dX8_copyRow_1 : decode cX8_copyRow 1 = .ok (.istore_n 2, 1) := by decide +kernel
theorem dX8_copyRow_2 : decode cX8_copyRow 2 = .ok (.iload_n 2, 1) := by decide +kernel
theorem dX8_copyRow_3 : decode cX8_copyRow 3 = .ok (.aload_n 0, 1) := by decide +kernel
theorem dX8_copyRow_4 : decode cX8_copyRow 4 = .ok (.arraylength, 1) := by decide +kernel
theorem dX8_copyRow_5 : decode cX8_copyRow 5 = .ok (.if_icmp .ge 21, 3) := by decide +kernel
theorem dX8_copyRow_8 : decode cX8_copyRow 8 = .ok (.iload_n 2, 1) := by decide +kernel
theorem dX8_copyRow_9 : decode cX8_copyRow 9 = .ok (.aload_n 1, 1) := by decide +kernel
theorem dX8_copyRow_10 : decode cX8_copyRow 10 = .ok (.arraylength, 1) := by decide +kernel
theorem dX8_copyRow_11 : decode cX8_copyRow 11 = .ok (.if_icmp .ge 15, 3) := by decide +kernel
theorem dX8_copyRow_14 : decode cX8_copyRow 14 = .ok (.aload_n 1, 1) := by decide +kernel
theorem dX8_copyRow_15 : decode cX8_copyRow 15 = .ok (.iload_n 2, 1) := by decide +kernel
theorem dX8_copyRow_16 : decode cX8_copyRow 16 = .ok (.aload_n 0, 1) := by decide +kernel
theorem dX8_copyRow_17 : decode cX8_copyRow 17 = .ok (.iload_n 2, 1) := by decide +kernel
theorem dX8_copyRow_18 : decode cX8_copyRow 18 = .ok (.iaload, 1) := by decide +kernel
theorem dX8_copyRow_19 : decode cX8_copyRow 19 = .ok (.iastore, 1) := by decide +kernel
theorem dX8_copyRow_20 : decode cX8_copyRow 20 = .ok (.iinc 2 1, 3) := by decide +kernel
theorem dX8_copyRow_23 : decode cX8_copyRow 23 = .ok (.goto (-21), 3) := by decide +kernel
theorem dX8_copyRow_26 : decode cX8_copyRow 26 = .ok (.return_, 1) := by decide +kernel
theorem dX9_init_0 : decode cX9_init 0 = .ok (.aload_n 0, 1) := by decide +kernel
theorem dX9_init_1 : decode cX9_init 1 = .ok (.invokespecial 1, 3) := by decide +kernel
theorem dX9_init_4 : decode cX9_init 4 = .ok (.aload_n 0, 1) := by decide +kernel
theorem dX9_init_5 : decode cX9_init 5 = .ok (.bipush 24, 2) := by decide +kernel
theorem dX9_init_7 : decode cX9_init 7 = .ok (.newarray .int, 2) := by decide +kernel
theorem dX9_init_9 : decode cX9_init 9 = .ok (.putfield 7, 3) := by decide +kernel
theorem dX9_init_12 : decode cX9_init 12 = .ok (.aload_n 0, 1) := by decide +kernel
theorem dX9_init_13 : decode cX9_init 13 = .ok (.bipush 24, 2) := by decide +kernel
theorem dX9_init_15 : decode cX9_init 15 = .ok (.newarray .int, 2) := by decide +kernel
theorem dX9_init_17 : decode cX9_init 17 = .ok (.putfield 13, 3) := by decide +kernel
theorem dX9_init_20 : decode cX9_init 20 = .ok (.aload_n 0, 1) := by decide +kernel
theorem dX9_init_21 : decode cX9_init 21 = .ok (.bipush 24, 2) := by decide +kernel
theorem dX9_init_23 : decode cX9_init 23 = .ok (.newarray .int, 2) := by decide +kernel
theorem dX9_init_25 : decode cX9_init 25 = .ok (.putfield 16, 3) := by decide +kernel
theorem dX9_init_28 : decode cX9_init 28 = .ok (.aload_n 0, 1) := by decide +kernel
theorem dX9_init_29 : decode cX9_init 29 = .ok (.bipush 24, 2) := by decide +kernel
theorem dX9_init_31 : decode cX9_init 31 = .ok (.newarray .int, 2) := by decide +kernel
theorem dX9_init_33 : decode cX9_init 33 = .ok (.putfield 19, 3) := by decide +kernel
theorem dX9_init_36 : decode cX9_init 36 = .ok (.aload_n 0, 1) := by decide +kernel
theorem dX9_init_37 : decode cX9_init 37 = .ok (.bipush 24, 2) := by decide +kernel
theorem dX9_init_39 : decode cX9_init 39 = .ok (.newarray .int, 2) := by decide +kernel
theorem dX9_init_41 : decode cX9_init 41 = .ok (.putfield 22, 3) := by decide +kernel
theorem dX9_init_44 : decode cX9_init 44 = .ok (.aload_n 0, 1) := by decide +kernel
theorem dX9_init_45 : decode cX9_init 45 = .ok (.bipush 24, 2) := by decide +kernel
theorem dX9_init_47 : decode cX9_init 47 = .ok (.newarray .int, 2) := by decide +kernel
theorem dX9_init_49 : decode cX9_init 49 = .ok (.putfield 25, 3) := by decide +kernel
theorem dX9_init_52 : decode cX9_init 52 = .ok (.aload_n 0, 1) := by decide +kernel
theorem dX9_init_53 : decode cX9_init 53 = .ok (.bipush 24, 2) := by decide +kernel
theorem dX9_init_55 : decode cX9_init 55 = .ok (.newarray .int, 2) := by decide +kernel
theorem dX9_init_57 : decode cX9_init 57 = .ok (.putfield 28, 3) := by decide +kernel
theorem dX9_init_60 : decode cX9_init 60 = .ok (.aload_n 0, 1) := by decide +kernel
theorem dX9_init_61 : decode cX9_init 61 = .ok (.bipush 24, 2) := by decide +kernel
theorem dX9_init_63 : decode cX9_init 63 = .ok (.newarray .int, 2) := by decide +kernel
theorem dX9_init_65 : decode cX9_init 65 = .ok (.putfield 31, 3) := by decide +kernel
theorem dX9_init_68 : decode cX9_init 68 = .ok (.aload_n 0, 1) := by decide +kernel
theorem dX9_init_69 : decode cX9_init 69 = .ok (.bipush 24, 2) := by decide +kernel
theorem dX9_init_71 : decode cX9_init 71 = .ok (.newarray .int, 2) := by decide +kernel
theorem dX9_init_73 : decode cX9_init 73 = .ok (.putfield 34, 3) := by decide +kernel
theorem dX9_init_76 : decode cX9_init 76 = .ok (.aload_n 0, 1) := by decide +kernel
theorem dX9_init_77 : decode cX9_init 77 = .ok (.bipush 24, 2) := by decide +kernel
theorem dX9_init_79 : decode cX9_init 79 = .ok (.newarray .int, 2) := by decide +kernel
theorem dX9_init_81 : decode cX9_init 81 = .ok (.putfield 37, 3) := by decide +kernel
theorem dX9_init_84 : decode cX9_init 84 = .ok (.aload_n 0, 1) := by decide +kernel
theorem dX9_init_85 : decode cX9_init 85 = .ok (.bipush 24, 2) := by decide +kernel
theorem dX9_init_87 : decode cX9_init 87 = .ok (.newarray .boolean, 2) := by decide +kernel
theorem dX9_init_89 : decode cX9_init 89 = .ok (.putfield 40, 3) := by decide +kernel
theorem dX9_init_92 : decode cX9_init 92 = .ok (.aload_n 0, 1) := by decide +kernel
theorem dX9_init_93 : decode cX9_init 93 = .ok (.bipush 24, 2) := by decide +kernel
theorem dX9_init_95 : decode cX9_init 95 = .ok (.bipush 16, 2) := by decide +kernel
theorem dX9_init_97 : decode cX9_init 97 = .ok (.multianewarray 44 2, 4) := by decide +kernel
theorem dX9_init_101 : decode cX9_init 101 = .ok (.putfield 46, 3) := by decide +kernel
theorem dX9_init_104 : decode cX9_init 104 = .ok (.aload_n 0, 1) := by decide +kernel
theorem dX9_init_105 : decode cX9_init 105 = .ok (.bipush 24, 2) := by decide +kernel
theorem dX9_init_107 : decode cX9_init 107 = .ok (.bipush 6, 2) := by decide +kernel
theorem dX9_init_109 : decode cX9_init 109 = .ok (.multianewarray 44 2, 4) := by decide +kernel
theorem dX9_init_113 : decode cX9_init 113 = .ok (.putfield 49, 3) := by decide +kernel
theorem dX9_init_116 : decode cX9_init 116 = .ok (.aload_n 0, 1) := by decide +kernel
theorem dX9_init_117 : decode cX9_init 117 = .ok (.bipush 24, 2) := by decide +kernel
theorem dX9_init_119 : decode cX9_init 119 = .ok (.bipush 6, 2) := by decide +kernel
theorem dX9_init_121 : decode cX9_init 121 = .ok (.multianewarray 44 2, 4) := by decide +kernel
theorem dX9_init_125 : decode cX9_init 125 = .ok (.putfield 52, 3) := by decide +kernel
theorem dX9_init_128 : decode cX9_init 128 = .ok (.aload_n 0, 1) := by decide +kernel
theorem dX9_init_129 : decode cX9_init 129 = .ok (.bipush 34, 2) := by decide +kernel
theorem dX9_init_131 : decode cX9_init 131 = .ok (.bipush 24, 2) := by decide +kernel
theorem dX9_init_133 : decode cX9_init 133 = .ok (.multianewarray 44 2, 4) := by decide +kernel
theorem dX9_init_137 : decode cX9_init 137 = .ok (.putfield 55, 3) := by decide +kernel
theorem dX9_init_140 : decode cX9_init 140 = .ok (.aload_n 0, 1) := by decide +kernel
theorem dX9_init_141 : decode cX9_init 141 = .ok (.bipush 34, 2) := by decide +kernel
theorem dX9_init_143 : decode cX9_init 143 = .ok (.newarray .int, 2) := by decide +kernel
theorem dX9_init_145 : decode cX9_init 145 = .ok (.putfield 58, 3) := by decide +kernel
theorem dX9_init_148 : decode cX9_init 148 = .ok (.aload_n 0, 1) := by decide +kernel
theorem dX9_init_149 : decode cX9_init 149 = .ok (.bipush 24, 2) := by decide +kernel
theorem dX9_init_151 : decode cX9_init 151 = .ok (.newarray .int, 2) := by decide +kernel
theorem dX9_init_153 : decode cX9_init 153 = .ok (.putfield 61, 3) := by decide +kernel
theorem dX9_init_156 : decode cX9_init 156 = .ok (.aload_n 0, 1) := by decide +kernel
theorem dX9_init_157 : decode cX9_init 157 = .ok (.bipush 6, 2) := by decide +kernel
theorem dX9_init_159 : decode cX9_init 159 = .ok (.newarray .int, 2) := by decide +kernel
theorem dX9_init_161 : decode cX9_init 161 = .ok (.putfield 64, 3) := by decide +kernel
theorem dX9_init_164 : decode cX9_init 164 = .ok (.aload_n 0, 1) := by decide +kernel
theorem dX9_init_165 : decode cX9_init 165 = .ok (.bipush 6, 2) := by decide +kernel
theorem dX9_init_167 : decode cX9_init 167 = .ok (.newarray .int, 2) := by decide +kernel
theorem dX9_init_169 : decode cX9_init 169 = .ok (.putfield 67, 3) := by decide +kernel
theorem dX9_init_172 : decode cX9_init 172 = .ok (.aload_n 0, 1) := by decide +kernel
theorem dX9_init_173 : decode cX9_init 173 = .ok (.bipush 6, 2) := by decide +kernel
theorem dX9_init_175 : decode cX9_init 175 = .ok (.newarray .int, 2) := by decide +kernel
theorem dX9_init_177 : decode cX9_init 177 = .ok (.putfield 70, 3) := by decide +kernel
theorem dX9_init_180 : decode cX9_init 180 = .ok (.aload_n 0, 1) := by decide +kernel
theorem dX9_init_181 : decode cX9_init 181 = .ok (.iconst 4, 1) := by decide +kernel
theorem dX9_init_182 : decode cX9_init 182 = .ok (.newarray .int, 2) := by decide +kernel
theorem dX9_init_184 : decode cX9_init 184 = .ok (.putfield 73, 3) := by decide +kernel
theorem dX9_init_187 : decode cX9_init 187 = .ok (.aload_n 0, 1) := by decide +kernel
theorem dX9_init_188 : decode cX9_init 188 = .ok (.iconst 4, 1) := by decide +kernel
theorem dX9_init_189 : decode cX9_init 189 = .ok (.sipush 2400, 3) := by decide +kernel
theorem dX9_init_192 : decode cX9_init 192 = .ok (.multianewarray 44 2, 4) := by decide +kernel
theorem dX9_init_196 : decode cX9_init 196 = .ok (.putfield 76, 3) := by decide +kernel
theorem dX9_init_199 : decode cX9_init 199 = .ok (.aload_n 0, 1) := by decide +kernel
theorem dX9_init_200 : decode cX9_init 200 = .ok (.iconst 4, 1) := by decide +kernel
theorem dX9_init_201 : decode cX9_init 201 = .ok (.newarray .int, 2) := by decide +kernel
theorem dX9_init_203 : decode cX9_init 203 = .ok (.putfield 79, 3) := by decide +kernel
theorem dX9_init_206 : decode cX9_init 206 = .ok (.aload_n 0, 1) := by decide +kernel
theorem dX9_init_207 : decode cX9_init 207 = .ok (.aload_n 1, 1) := by decide +kernel
theorem dX9_init_208 : decode cX9_init 208 = .ok (.putfield 82, 3) := by decide +kernel
theorem dX9_init_211 : decode cX9_init 211 = .ok (.aload_n 0, 1) := by decide +kernel
theorem dX9_init_212 : decode cX9_init 212 = .ok (.aload_n 2, 1) := by decide +kernel
theorem dX9_init_213 : decode cX9_init 213 = .ok (.putfield 86, 3) := by decide +kernel
theorem dX9_init_216 : decode cX9_init 216 = .ok (.aload_n 0, 1) := by decide +kernel
theorem dX9_init_217 : decode cX9_init 217 = .ok (.aload_n 3, 1) := by decide +kernel
theorem dX9_init_218 : decode cX9_init 218 = .ok (.putfield 89, 3) := by decide +kernel
theorem dX9_init_221 : decode cX9_init 221 = .ok (.aload_n 0, 1) := by decide +kernel
theorem dX9_init_222 : decode cX9_init 222 = .ok (.aload 4, 2) := by decide +kernel
theorem dX9_init_224 : decode cX9_init 224 = .ok (.putfield 92, 3) := by decide +kernel
theorem dX9_init_227 : decode cX9_init 227 = .ok (.aload_n 0, 1) := by decide +kernel
theorem dX9_init_228 : decode cX9_init 228 = .ok (.aload 5, 2) := by decide +kernel
theorem dX9_init_230 : decode cX9_init 230 = .ok (.putfield 95, 3) := by decide +kernel
theorem dX9_init_233 : decode cX9_init 233 = .ok (.aload_n 0, 1) := by decide +kernel
theorem dX9_init_234 : decode cX9_init 234 = .ok (.aload 6, 2) := by decide +kernel
theorem dX9_init_236 : decode cX9_init 236 = .ok (.invokevirtual 98, 3) := by decide +kernel
theorem dX9_init_239 : decode cX9_init 239 = .ok (.checkcast 99, 3) := by decide +kernel
theorem dX9_init_242 : decode cX9_init 242 = .ok (.putfield 103, 3) := by decide +kernel
theorem dX9_init_245 : decode cX9_init 245 = .ok (.aload_n 0, 1) := by decide +kernel
theorem dX9_init_246 : decode cX9_init 246 = .ok (.aload 4, 2) := by decide +kernel
theorem dX9_init_248 : decode cX9_init 248 = .ok (.invokevirtual 98, 3) := by decide +kernel
theorem dX9_init_251 : decode cX9_init 251 = .ok (.checkcast 99, 3) := by decide +kernel
theorem dX9_init_254 : decode cX9_init 254 = .ok (.putfield 106, 3) := by decide +kernel
theorem dX9_init_257 : decode cX9_init 257 = .ok (.return_, 1) := by decide +kernel
theorem dJ9_max_7cf53_0 : decode cJ9_max_7cf53 0 = .ok (.iload_n 0, 1) := by decide +kernel
theorem dJ9_max_7cf53_1 : decode cJ9_max_7cf53 1 = .ok (.iload_n 1, 1) := by decide +kernel
theorem dJ9_max_7cf53_2 : decode cJ9_max_7cf53 2 = .ok (.if_icmp .lt 7, 3) := by decide +kernel
theorem dJ9_max_7cf53_5 : decode cJ9_max_7cf53 5 = .ok (.iload_n 0, 1) := by decide +kernel
theorem dJ9_max_7cf53_6 : decode cJ9_max_7cf53 6 = .ok (.goto 4, 3) := by decide +kernel
theorem dJ9_max_7cf53_9 : decode cJ9_max_7cf53 9 = .ok (.iload_n 1, 1) := by decide +kernel
theorem dJ9_max_7cf53_10 : decode cJ9_max_7cf53 10 = .ok (.ireturn, 1) := by decide +kernel
theorem dJ9_min_7cf53_0 : decode cJ9_min_7cf53 0 = .ok (.iload_n 0, 1) := by decide +kernel
theorem dJ9_min_7cf53_1 : decode cJ9_min_7cf53 1 = .ok (.iload_n 1, 1) := by decide +kernel
theorem dJ9_min_7cf53_2 : decode cJ9_min_7cf53 2 = .ok (.if_icmp .gt 7, 3) := by decide +kernel
theorem dJ9_min_7cf53_5 : decode cJ9_min_7cf53 5 = .ok (.iload_n 0, 1) := by decide +kernel
theorem dJ9_min_7cf53_6 : decode cJ9_min_7cf53 6 = .ok (.goto 4, 3) := by decide +kernel
theorem dJ9_min_7cf53_9 : decode cJ9_min_7cf53 9 = .ok (.iload_n 1, 1) := by decide +kernel
theorem dJ9_min_7cf53_10 : decode cJ9_min_7cf53 10 = .ok (.ireturn, 1) := by decide +kernel
theorem dJxa1e45_init_da8c8_0 : decode cJxa1e45_init_da8c8 0 = .ok (.aload_n 0, 1) := by decide +kernel
theorem dJxa1e45_init_da8c8_1 : decode cJxa1e45_init_da8c8 1 = .ok (.invokespecial 1, 3) := by decide +kernel
theorem dJxa1e45_init_da8c8_4 : decode cJxa1e45_init_da8c8 4 = .ok (.return_, 1) := by decide +kernel
theorem dJxc12de_init_da8c8_0 : decode cJxc12de_init_da8c8 0 = .ok (.aload_n 0, 1) := by decide +kernel
theorem dJxc12de_init_da8c8_1 : decode cJxc12de_init_da8c8 1 = .ok (.invokespecial 1, 3) := by decide +kernel
theorem dJxc12de_init_da8c8_4 : decode cJxc12de_init_da8c8 4 = .ok (.aload_n 0, 1) := by decide +kernel
theorem dJxc12de_init_da8c8_5 : decode cJxc12de_init_da8c8 5 = .ok (.iconst 0, 1) := by decide +kernel
theorem dJxc12de_init_da8c8_6 : decode cJxc12de_init_da8c8 6 = .ok (.putfield 7, 3) := by decide +kernel
theorem dJxc12de_init_da8c8_9 : decode cJxc12de_init_da8c8 9 = .ok (.return_, 1) := by decide +kernel
theorem dJx4a65c_init_da8c8_0 : decode cJx4a65c_init_da8c8 0 = .ok (.aload_n 0, 1) := by decide +kernel
theorem dJx4a65c_init_da8c8_1 : decode cJx4a65c_init_da8c8 1 = .ok (.invokespecial 1, 3) := by decide +kernel
theorem dJx4a65c_init_da8c8_4 : decode cJx4a65c_init_da8c8 4 = .ok (.aload_n 0, 1) := by decide +kernel
theorem dJx4a65c_init_da8c8_5 : decode cJx4a65c_init_da8c8 5 = .ok (.getstatic 39, 3) := by decide +kernel
theorem dJx4a65c_init_da8c8_8 : decode cJx4a65c_init_da8c8 8 = .ok (.putfield 9, 3) := by decide +kernel
theorem dJx4a65c_init_da8c8_11 : decode cJx4a65c_init_da8c8 11 = .ok (.return_, 1) := by decide +kernel
theorem dJx4a65c_grow_92f84_0 : decode cJx4a65c_grow_92f84 0 = .ok (.aload_n 0, 1) := by decide +kernel
theorem dJx4a65c_grow_92f84_1 : decode cJx4a65c_grow_92f84 1 = .ok (.getfield 9, 3) := by decide +kernel
theorem dJx4a65c_grow_92f84_4 : decode cJx4a65c_grow_92f84 4 = .ok (.arraylength, 1) := by decide +kernel
theorem dJx4a65c_grow_92f84_5 : decode cJx4a65c_grow_92f84 5 = .ok (.istore_n 2, 1) := by decide +kernel
theorem dJx4a65c_grow_92f84_6 : decode cJx4a65c_grow_92f84 6 = .ok (.iload_n 2, 1) := by decide +kernel
theorem dJx4a65c_grow_92f84_7 : decode cJx4a65c_grow_92f84 7 = .ok (.ifCond .gt 13, 3) := by decide +kernel
theorem dJx4a65c_grow_92f84_10 : decode cJx4a65c_grow_92f84 10 = .ok (.aload_n 0, 1) := by decide +kernel
theorem dJx4a65c_grow_92f84_11 : decode cJx4a65c_grow_92f84 11 = .ok (.getfield 9, 3) := by decide +kernel
theorem dJx4a65c_grow_92f84_14 : decode cJx4a65c_grow_92f84 14 = .ok (.getstatic 39, 3) := by decide +kernel
theorem dJx4a65c_grow_92f84_17 : decode cJx4a65c_grow_92f84 17 = .ok (.if_acmp .eq 28, 3) := by decide +kernel
theorem dJx4a65c_grow_92f84_20 : decode cJx4a65c_grow_92f84 20 = .ok (.iload_n 2, 1) := by decide +kernel
theorem dJx4a65c_grow_92f84_21 : decode cJx4a65c_grow_92f84 21 = .ok (.iload_n 1, 1) := by decide +kernel
theorem dJx4a65c_grow_92f84_22 : decode cJx4a65c_grow_92f84 22 = .ok (.iload_n 2, 1) := by decide +kernel
theorem dJx4a65c_grow_92f84_23 : decode cJx4a65c_grow_92f84 23 = .ok (.isub, 1) := by decide +kernel
theorem dJx4a65c_grow_92f84_24 : decode cJx4a65c_grow_92f84 24 = .ok (.iload_n 2, 1) := by decide +kernel
theorem dJx4a65c_grow_92f84_25 : decode cJx4a65c_grow_92f84 25 = .ok (.iconst 1, 1) := by decide +kernel
theorem dJx4a65c_grow_92f84_26 : decode cJx4a65c_grow_92f84 26 = .ok (.ishr, 1) := by decide +kernel
theorem dJx4a65c_grow_92f84_27 : decode cJx4a65c_grow_92f84 27 = .ok (.invokestatic 73, 3) := by decide +kernel
theorem dJx4a65c_grow_92f84_30 : decode cJx4a65c_grow_92f84 30 = .ok (.istore_n 3, 1) := by decide +kernel
theorem dJx4a65c_grow_92f84_31 : decode cJx4a65c_grow_92f84 31 = .ok (.aload_n 0, 1) := by decide +kernel
theorem dJx4a65c_grow_92f84_32 : decode cJx4a65c_grow_92f84 32 = .ok (.aload_n 0, 1) := by decide +kernel
theorem dJx4a65c_grow_92f84_33 : decode cJx4a65c_grow_92f84 33 = .ok (.getfield 9, 3) := by decide +kernel
theorem dJx4a65c_grow_92f84_36 : decode cJx4a65c_grow_92f84 36 = .ok (.iload_n 3, 1) := by decide +kernel
theorem dJx4a65c_grow_92f84_37 : decode cJx4a65c_grow_92f84 37 = .ok (.invokestatic 66, 3) := by decide +kernel
theorem dJx4a65c_grow_92f84_40 : decode cJx4a65c_grow_92f84 40 = .ok (.dup_x1, 1) := by decide +kernel
theorem dJx4a65c_grow_92f84_41 : decode cJx4a65c_grow_92f84 41 = .ok (.putfield 9, 3) := by decide +kernel
theorem dJx4a65c_grow_92f84_44 : decode cJx4a65c_grow_92f84 44 = .ok (.areturn, 1) := by decide +kernel
theorem dJx4a65c_grow_92f84_45 : decode cJx4a65c_grow_92f84 45 = .ok (.aload_n 0, 1) := by decide +kernel
theorem dJx4a65c_grow_92f84_46 : decode cJx4a65c_grow_92f84 46 = .ok (.bipush 10, 2) := by decide +kernel
theorem dJx4a65c_grow_92f84_48 : decode cJx4a65c_grow_92f84 48 = .ok (.iload_n 1, 1) := by decide +kernel
theorem dJx4a65c_grow_92f84_49 : decode cJx4a65c_grow_92f84 49 = .ok (.invokestatic 79, 3) := by decide +kernel
theorem dJx4a65c_grow_92f84_52 : decode cJx4a65c_grow_92f84 52 = .ok (.anewarray 7, 3) := by decide +kernel
theorem dJx4a65c_grow_92f84_55 : decode cJx4a65c_grow_92f84 55 = .ok (.dup_x1, 1) := by decide +kernel
theorem dJx4a65c_grow_92f84_56 : decode cJx4a65c_grow_92f84 56 = .ok (.putfield 9, 3) := by decide +kernel
theorem dJx4a65c_grow_92f84_59 : decode cJx4a65c_grow_92f84 59 = .ok (.areturn, 1) := by decide +kernel
theorem dJx4a65c_grow_d5877_0 : decode cJx4a65c_grow_d5877 0 = .ok (.aload_n 0, 1) := by decide +kernel
theorem dJx4a65c_grow_d5877_1 : decode cJx4a65c_grow_d5877 1 = .ok (.aload_n 0, 1) := by decide +kernel
theorem dJx4a65c_grow_d5877_2 : decode cJx4a65c_grow_d5877 2 = .ok (.getfield 48, 3) := by decide +kernel
theorem dJx4a65c_grow_d5877_5 : decode cJx4a65c_grow_d5877 5 = .ok (.iconst 1, 1) := by decide +kernel
theorem dJx4a65c_grow_d5877_6 : decode cJx4a65c_grow_d5877 6 = .ok (.iadd, 1) := by decide +kernel
theorem dJx4a65c_grow_d5877_7 : decode cJx4a65c_grow_d5877 7 = .ok (.invokevirtual 69, 3) := by decide +kernel
theorem dJx4a65c_grow_d5877_10 : decode cJx4a65c_grow_d5877 10 = .ok (.areturn, 1) := by decide +kernel
theorem dJx4a65c_size_8abf5_0 : decode cJx4a65c_size_8abf5 0 = .ok (.aload_n 0, 1) := by decide +kernel
theorem dJx4a65c_size_8abf5_1 : decode cJx4a65c_size_8abf5 1 = .ok (.getfield 48, 3) := by decide +kernel
theorem dJx4a65c_size_8abf5_4 : decode cJx4a65c_size_8abf5 4 = .ok (.ireturn, 1) := by decide +kernel
theorem dJx4a65c_isEmpty_aae02_0 : decode cJx4a65c_isEmpty_aae02 0 = .ok (.aload_n 0, 1) := by decide +kernel
theorem dJx4a65c_isEmpty_aae02_1 : decode cJx4a65c_isEmpty_aae02 1 = .ok (.getfield 48, 3) := by decide +kernel
theorem dJx4a65c_isEmpty_aae02_4 : decode cJx4a65c_isEmpty_aae02 4 = .ok (.ifCond .ne 7, 3) := by decide +kernel
theorem dJx4a65c_isEmpty_aae02_7 : decode cJx4a65c_isEmpty_aae02 7 = .ok (.iconst 1, 1) := by decide +kernel
theorem dJx4a65c_isEmpty_aae02_8 : decode cJx4a65c_isEmpty_aae02 8 = .ok (.goto 4, 3) := by decide +kernel
theorem dJx4a65c_isEmpty_aae02_11 : decode cJx4a65c_isEmpty_aae02 11 = .ok (.iconst 0, 1) := by decide +kernel
theorem dJx4a65c_isEmpty_aae02_12 : decode cJx4a65c_isEmpty_aae02 12 = .ok (.ireturn, 1) := by decide +kernel
theorem dJx4a65c_elementData_915e3_0 : decode cJx4a65c_elementData_915e3 0 = .ok (.aload_n 0, 1) := by decide +kernel
theorem dJx4a65c_elementData_915e3_1 : decode cJx4a65c_elementData_915e3 1 = .ok (.getfield 9, 3) := by decide +kernel
theorem dJx4a65c_elementData_915e3_4 : decode cJx4a65c_elementData_915e3 4 = .ok (.iload_n 1, 1) := by decide +kernel
theorem dJx4a65c_elementData_915e3_5 : decode cJx4a65c_elementData_915e3 5 = .ok (.aaload, 1) := by decide +kernel
theorem dJx4a65c_elementData_915e3_6 : decode cJx4a65c_elementData_915e3 6 = .ok (.areturn, 1) := by decide +kernel
theorem dJx4a65c_get_915e3_0 : decode cJx4a65c_get_915e3 0 = .ok (.iload_n 1, 1) := by decide +kernel
theorem dJx4a65c_get_915e3_1 : decode cJx4a65c_get_915e3 1 = .ok (.aload_n 0, 1) := by decide +kernel
theorem dJx4a65c_get_915e3_2 : decode cJx4a65c_get_915e3 2 = .ok (.getfield 48, 3) := by decide +kernel
theorem dJx4a65c_get_915e3_5 : decode cJx4a65c_get_915e3 5 = .ok (.invokestatic 118, 3) := by decide +kernel
theorem dJx4a65c_get_915e3_8 : decode cJx4a65c_get_915e3 8 = .ok (.pop, 1) := by decide +kernel
theorem dJx4a65c_get_915e3_9 : decode cJx4a65c_get_915e3 9 = .ok (.aload_n 0, 1) := by decide +kernel
theorem dJx4a65c_get_915e3_10 : decode cJx4a65c_get_915e3 10 = .ok (.iload_n 1, 1) := by decide +kernel
theorem dJx4a65c_get_915e3_11 : decode cJx4a65c_get_915e3 11 = .ok (.invokevirtual 123, 3) := by decide +kernel
theorem dJx4a65c_get_915e3_14 : decode cJx4a65c_get_915e3 14 = .ok (.areturn, 1) := by decide +kernel
theorem dJx4a65c_add_72be8_0 : decode cJx4a65c_add_72be8 0 = .ok (.iload_n 3, 1) := by decide +kernel
theorem dJx4a65c_add_72be8_1 : decode cJx4a65c_add_72be8 1 = .ok (.aload_n 2, 1) := by decide +kernel
theorem dJx4a65c_add_72be8_2 : decode cJx4a65c_add_72be8 2 = .ok (.arraylength, 1) := by decide +kernel
theorem dJx4a65c_add_72be8_3 : decode cJx4a65c_add_72be8 3 = .ok (.if_icmp .ne 8, 3) := by decide +kernel
theorem dJx4a65c_add_72be8_6 : decode cJx4a65c_add_72be8 6 = .ok (.aload_n 0, 1) := by decide +kernel
theorem dJx4a65c_add_72be8_7 : decode cJx4a65c_add_72be8 7 = .ok (.invokevirtual 129, 3) := by decide +kernel
theorem dJx4a65c_add_72be8_10 : decode cJx4a65c_add_72be8 10 = .ok (.astore_n 2, 1) := by decide +kernel
theorem dJx4a65c_add_72be8_11 : decode cJx4a65c_add_72be8 11 = .ok (.aload_n 2, 1) := by decide +kernel
theorem dJx4a65c_add_72be8_12 : decode cJx4a65c_add_72be8 12 = .ok (.iload_n 3, 1) := by decide +kernel
theorem dJx4a65c_add_72be8_13 : decode cJx4a65c_add_72be8 13 = .ok (.aload_n 1, 1) := by decide +kernel
theorem dJx4a65c_add_72be8_14 : decode cJx4a65c_add_72be8 14 = .ok (.aastore, 1) := by decide +kernel
theorem dJx4a65c_add_72be8_15 : decode cJx4a65c_add_72be8 15 = .ok (.aload_n 0, 1) := by decide +kernel
theorem dJx4a65c_add_72be8_16 : decode cJx4a65c_add_72be8 16 = .ok (.iload_n 3, 1) := by decide +kernel
theorem dJx4a65c_add_72be8_17 : decode cJx4a65c_add_72be8 17 = .ok (.iconst 1, 1) := by decide +kernel
theorem dJx4a65c_add_72be8_18 : decode cJx4a65c_add_72be8 18 = .ok (.iadd, 1) := by decide +kernel
theorem dJx4a65c_add_72be8_19 : decode cJx4a65c_add_72be8 19 = .ok (.putfield 48, 3) := by decide +kernel
theorem dJx4a65c_add_72be8_22 : decode cJx4a65c_add_72be8 22 = .ok (.return_, 1) := by decide +kernel
theorem dJx4a65c_add_9ea2d_0 : decode cJx4a65c_add_9ea2d 0 = .ok (.aload_n 0, 1) := by decide +kernel
theorem dJx4a65c_add_9ea2d_1 : decode cJx4a65c_add_9ea2d 1 = .ok (.dup, 1) := by decide +kernel
theorem dJx4a65c_add_9ea2d_2 : decode cJx4a65c_add_9ea2d 2 = .ok (.getfield 63, 3) := by decide +kernel
theorem dJx4a65c_add_9ea2d_5 : decode cJx4a65c_add_9ea2d 5 = .ok (.iconst 1, 1) := by decide +kernel
theorem dJx4a65c_add_9ea2d_6 : decode cJx4a65c_add_9ea2d 6 = .ok (.iadd, 1) := by decide +kernel
theorem dJx4a65c_add_9ea2d_7 : decode cJx4a65c_add_9ea2d 7 = .ok (.putfield 63, 3) := by decide +kernel
theorem dJx4a65c_add_9ea2d_10 : decode cJx4a65c_add_9ea2d 10 = .ok (.aload_n 0, 1) := by decide +kernel
theorem dJx4a65c_add_9ea2d_11 : decode cJx4a65c_add_9ea2d 11 = .ok (.aload_n 1, 1) := by decide +kernel
theorem dJx4a65c_add_9ea2d_12 : decode cJx4a65c_add_9ea2d 12 = .ok (.aload_n 0, 1) := by decide +kernel
theorem dJx4a65c_add_9ea2d_13 : decode cJx4a65c_add_9ea2d 13 = .ok (.getfield 9, 3) := by decide +kernel
theorem dJx4a65c_add_9ea2d_16 : decode cJx4a65c_add_9ea2d 16 = .ok (.aload_n 0, 1) := by decide +kernel
theorem dJx4a65c_add_9ea2d_17 : decode cJx4a65c_add_9ea2d 17 = .ok (.getfield 48, 3) := by decide +kernel
theorem dJx4a65c_add_9ea2d_20 : decode cJx4a65c_add_9ea2d 20 = .ok (.invokevirtual 131, 3) := by decide +kernel
theorem dJx4a65c_add_9ea2d_23 : decode cJx4a65c_add_9ea2d 23 = .ok (.iconst 1, 1) := by decide +kernel
theorem dJx4a65c_add_9ea2d_24 : decode cJx4a65c_add_9ea2d 24 = .ok (.ireturn, 1) := by decide +kernel
theorem dJ7_copyOf_1904c_0 : decode cJ7_copyOf_1904c 0 = .ok (.aload_n 0, 1) := by decide +kernel
theorem dJ7_copyOf_1904c_1 : decode cJ7_copyOf_1904c 1 = .ok (.iload_n 1, 1) := by decide +kernel
theorem dJ7_copyOf_1904c_2 : decode cJ7_copyOf_1904c 2 = .ok (.aload_n 0, 1) := by decide +kernel
theorem dJ7_copyOf_1904c_3 : decode cJ7_copyOf_1904c 3 = .ok (.invokevirtual 86, 3) := by decide +kernel
theorem dJ7_copyOf_1904c_6 : decode cJ7_copyOf_1904c 6 = .ok (.invokestatic 300, 3) := by decide +kernel
theorem dJ7_copyOf_1904c_9 : decode cJ7_copyOf_1904c 9 = .ok (.areturn, 1) := by decide +kernel
theorem dJ7_copyOf_6403c_0 : decode cJ7_copyOf_6403c 0 = .ok (.aload_n 2, 1) := by decide +kernel
theorem dJ7_copyOf_6403c_1 : decode cJ7_copyOf_6403c 1 = .ok (.ldc 110, 2) := by decide +kernel
theorem dJ7_copyOf_6403c_3 : decode cJ7_copyOf_6403c 3 = .ok (.if_acmp .ne 10, 3) := by decide +kernel
theorem dJ7_copyOf_6403c_6 : decode cJ7_copyOf_6403c 6 = .ok (.iload_n 1, 1) := by decide +kernel
theorem dJ7_copyOf_6403c_7 : decode cJ7_copyOf_6403c 7 = .ok (.anewarray 2, 3) := by decide +kernel
theorem dJ7_copyOf_6403c_10 : decode cJ7_copyOf_6403c 10 = .ok (.goto 14, 3) := by decide +kernel
theorem dJ7_copyOf_6403c_13 : decode cJ7_copyOf_6403c 13 = .ok (.aload_n 2, 1) := by decide +kernel
theorem dJ7_copyOf_6403c_14 : decode cJ7_copyOf_6403c 14 = .ok (.invokevirtual 90, 3) := by decide +kernel
theorem dJ7_copyOf_6403c_17 : decode cJ7_copyOf_6403c 17 = .ok (.iload_n 1, 1) := by decide +kernel
theorem dJ7_copyOf_6403c_18 : decode cJ7_copyOf_6403c 18 = .ok (.invokestatic 95, 3) := by decide +kernel
theorem dJ7_copyOf_6403c_21 : decode cJ7_copyOf_6403c 21 = .ok (.checkcast 110, 3) := by decide +kernel
theorem dJ7_copyOf_6403c_24 : decode cJ7_copyOf_6403c 24 = .ok (.astore_n 3, 1) := by decide +kernel
theorem dJ7_copyOf_6403c_25 : decode cJ7_copyOf_6403c 25 = .ok (.aload_n 0, 1) := by decide +kernel
theorem dJ7_copyOf_6403c_26 : decode cJ7_copyOf_6403c 26 = .ok (.iconst 0, 1) := by decide +kernel
theorem dJ7_copyOf_6403c_27 : decode cJ7_copyOf_6403c 27 = .ok (.aload_n 3, 1) := by decide +kernel
theorem dJ7_copyOf_6403c_28 : decode cJ7_copyOf_6403c 28 = .ok (.iconst 0, 1) := by decide +kernel
theorem dJ7_copyOf_6403c_29 : decode cJ7_copyOf_6403c 29 = .ok (.aload_n 0, 1) := by decide +kernel
theorem dJ7_copyOf_6403c_30 : decode cJ7_copyOf_6403c 30 = .ok (.arraylength, 1) := by decide +kernel
theorem dJ7_copyOf_6403c_31 : decode cJ7_copyOf_6403c 31 = .ok (.iload_n 1, 1) := by decide +kernel
theorem dJ7_copyOf_6403c_32 : decode cJ7_copyOf_6403c 32 = .ok (.invokestatic 304, 3) := by decide +kernel
theorem dJ7_copyOf_6403c_35 : decode cJ7_copyOf_6403c 35 = .ok (.invokestatic 150, 3) := by decide +kernel
theorem dJ7_copyOf_6403c_38 : decode cJ7_copyOf_6403c 38 = .ok (.aload_n 3, 1) := by decide +kernel
theorem dJ7_copyOf_6403c_39 : decode cJ7_copyOf_6403c 39 = .ok (.areturn, 1) := by decide +kernel
theorem dJ15_checkIndex_7cf53_0 : decode cJ15_checkIndex_7cf53 0 = .ok (.iload_n 0, 1) := by decide +kernel
theorem dJ15_checkIndex_7cf53_1 : decode cJ15_checkIndex_7cf53 1 = .ok (.iload_n 1, 1) := by decide +kernel
theorem dJ15_checkIndex_7cf53_2 : decode cJ15_checkIndex_7cf53 2 = .ok (.aconst_null, 1) := by decide +kernel
theorem dJ15_checkIndex_7cf53_3 : decode cJ15_checkIndex_7cf53 3 = .ok (.invokestatic 105, 3) := by decide +kernel
theorem dJ15_checkIndex_7cf53_6 : decode cJ15_checkIndex_7cf53 6 = .ok (.ireturn, 1) := by decide +kernel
theorem dJ8_newLength_cabcc_0 : decode cJ8_newLength_cabcc 0 = .ok (.iload_n 0, 1) := by decide +kernel
theorem dJ8_newLength_cabcc_1 : decode cJ8_newLength_cabcc 1 = .ok (.iload_n 1, 1) := by decide +kernel
theorem dJ8_newLength_cabcc_2 : decode cJ8_newLength_cabcc 2 = .ok (.iload_n 2, 1) := by decide +kernel
theorem dJ8_newLength_cabcc_3 : decode cJ8_newLength_cabcc 3 = .ok (.invokestatic 194, 3) := by decide +kernel
theorem dJ8_newLength_cabcc_6 : decode cJ8_newLength_cabcc 6 = .ok (.iadd, 1) := by decide +kernel
theorem dJ8_newLength_cabcc_7 : decode cJ8_newLength_cabcc 7 = .ok (.istore_n 3, 1) := by decide +kernel
theorem dJ8_newLength_cabcc_8 : decode cJ8_newLength_cabcc 8 = .ok (.iconst 0, 1) := by decide +kernel
theorem dJ8_newLength_cabcc_9 : decode cJ8_newLength_cabcc 9 = .ok (.iload_n 3, 1) := by decide +kernel
theorem dJ8_newLength_cabcc_10 : decode cJ8_newLength_cabcc 10 = .ok (.if_icmp .ge 11, 3) := by decide +kernel
theorem dJ8_newLength_cabcc_13 : decode cJ8_newLength_cabcc 13 = .ok (.iload_n 3, 1) := by decide +kernel
theorem dJ8_newLength_cabcc_14 : decode cJ8_newLength_cabcc 14 = .ok (.ldc 200, 2) := by decide +kernel
theorem dJ8_newLength_cabcc_16 : decode cJ8_newLength_cabcc 16 = .ok (.if_icmp .gt 5, 3) := by decide +kernel
theorem dJ8_newLength_cabcc_19 : decode cJ8_newLength_cabcc 19 = .ok (.iload_n 3, 1) := by decide +kernel
theorem dJ8_newLength_cabcc_20 : decode cJ8_newLength_cabcc 20 = .ok (.ireturn, 1) := by decide +kernel
theorem dJ8_newLength_cabcc_21 : decode cJ8_newLength_cabcc 21 = .ok (.iload_n 0, 1) := by decide +kernel
theorem dJ8_newLength_cabcc_22 : decode cJ8_newLength_cabcc 22 = .ok (.iload_n 1, 1) := by decide +kernel
theorem dJ8_newLength_cabcc_23 : decode cJ8_newLength_cabcc 23 = .ok (.invokestatic 201, 3) := by decide +kernel
theorem dJ8_newLength_cabcc_26 : decode cJ8_newLength_cabcc 26 = .ok (.ireturn, 1) := by decide +kernel
theorem dJ8_hugeLength_7cf53_0 : decode cJ8_hugeLength_7cf53 0 = .ok (.iload_n 0, 1) := by decide +kernel
theorem dJ8_hugeLength_7cf53_1 : decode cJ8_hugeLength_7cf53 1 = .ok (.iload_n 1, 1) := by decide +kernel
theorem dJ8_hugeLength_7cf53_2 : decode cJ8_hugeLength_7cf53 2 = .ok (.iadd, 1) := by decide +kernel
theorem dJ8_hugeLength_7cf53_3 : decode cJ8_hugeLength_7cf53 3 = .ok (.istore_n 2, 1) := by decide +kernel
theorem dJ8_hugeLength_7cf53_4 : decode cJ8_hugeLength_7cf53 4 = .ok (.iload_n 2, 1) := by decide +kernel
theorem dJ8_hugeLength_7cf53_5 : decode cJ8_hugeLength_7cf53 5 = .ok (.ifCond .ge 44, 3) := by decide +kernel
theorem dJ8_hugeLength_7cf53_8 : decode cJ8_hugeLength_7cf53 8 = .ok (.new 204, 3) := by decide +kernel
theorem dJ8_hugeLength_7cf53_11 : decode cJ8_hugeLength_7cf53 11 = .ok (.dup, 1) := by decide +kernel
theorem dJ8_hugeLength_7cf53_12 : decode cJ8_hugeLength_7cf53 12 = .ok (.new 89, 3) := by decide +kernel
theorem dJ8_hugeLength_7cf53_15 : decode cJ8_hugeLength_7cf53 15 = .ok (.dup, 1) := by decide +kernel
theorem dJ8_hugeLength_7cf53_16 : decode cJ8_hugeLength_7cf53 16 = .ok (.invokespecial 91, 3) := by decide +kernel
theorem dJ8_hugeLength_7cf53_19 : decode cJ8_hugeLength_7cf53 19 = .ok (.ldc 206, 2) := by decide +kernel
theorem dJ8_hugeLength_7cf53_21 : decode cJ8_hugeLength_7cf53 21 = .ok (.invokevirtual 94, 3) := by decide +kernel
theorem dJ8_hugeLength_7cf53_24 : decode cJ8_hugeLength_7cf53 24 = .ok (.iload_n 0, 1) := by decide +kernel
theorem dJ8_hugeLength_7cf53_25 : decode cJ8_hugeLength_7cf53 25 = .ok (.invokevirtual 98, 3) := by decide +kernel
theorem dJ8_hugeLength_7cf53_28 : decode cJ8_hugeLength_7cf53 28 = .ok (.ldc 208, 2) := by decide +kernel
theorem dJ8_hugeLength_7cf53_30 : decode cJ8_hugeLength_7cf53 30 = .ok (.invokevirtual 94, 3) := by decide +kernel
theorem dJ8_hugeLength_7cf53_33 : decode cJ8_hugeLength_7cf53 33 = .ok (.iload_n 1, 1) := by decide +kernel
theorem dJ8_hugeLength_7cf53_34 : decode cJ8_hugeLength_7cf53 34 = .ok (.invokevirtual 98, 3) := by decide +kernel
theorem dJ8_hugeLength_7cf53_37 : decode cJ8_hugeLength_7cf53 37 = .ok (.ldc 210, 2) := by decide +kernel
theorem dJ8_hugeLength_7cf53_39 : decode cJ8_hugeLength_7cf53 39 = .ok (.invokevirtual 94, 3) := by decide +kernel
theorem dJ8_hugeLength_7cf53_42 : decode cJ8_hugeLength_7cf53 42 = .ok (.invokevirtual 101, 3) := by decide +kernel
theorem dJ8_hugeLength_7cf53_45 : decode cJ8_hugeLength_7cf53 45 = .ok (.invokespecial 212, 3) := by decide +kernel
theorem dJ8_hugeLength_7cf53_48 : decode cJ8_hugeLength_7cf53 48 = .ok (.athrow, 1) := by decide +kernel
theorem dJ8_hugeLength_7cf53_49 : decode cJ8_hugeLength_7cf53 49 = .ok (.iload_n 2, 1) := by decide +kernel
theorem dJ8_hugeLength_7cf53_50 : decode cJ8_hugeLength_7cf53 50 = .ok (.ldc 200, 2) := by decide +kernel
theorem dJ8_hugeLength_7cf53_52 : decode cJ8_hugeLength_7cf53 52 = .ok (.if_icmp .gt 6, 3) := by decide +kernel
theorem dJ8_hugeLength_7cf53_55 : decode cJ8_hugeLength_7cf53 55 = .ok (.ldc 200, 2) := by decide +kernel
theorem dJ8_hugeLength_7cf53_57 : decode cJ8_hugeLength_7cf53 57 = .ok (.ireturn, 1) := by decide +kernel
theorem dJ8_hugeLength_7cf53_58 : decode cJ8_hugeLength_7cf53 58 = .ok (.iload_n 2, 1) := by decide +kernel
theorem dJ8_hugeLength_7cf53_59 : decode cJ8_hugeLength_7cf53 59 = .ok (.ireturn, 1) := by decide +kernel
theorem dJ3_checkIndex_8e157_0 : decode cJ3_checkIndex_8e157 0 = .ok (.iload_n 0, 1) := by decide +kernel
theorem dJ3_checkIndex_8e157_1 : decode cJ3_checkIndex_8e157 1 = .ok (.ifCond .lt 8, 3) := by decide +kernel
theorem dJ3_checkIndex_8e157_4 : decode cJ3_checkIndex_8e157 4 = .ok (.iload_n 0, 1) := by decide +kernel
theorem dJ3_checkIndex_8e157_5 : decode cJ3_checkIndex_8e157 5 = .ok (.iload_n 1, 1) := by decide +kernel
theorem dJ3_checkIndex_8e157_6 : decode cJ3_checkIndex_8e157 6 = .ok (.if_icmp .lt 10, 3) := by decide +kernel
theorem dJ3_checkIndex_8e157_9 : decode cJ3_checkIndex_8e157 9 = .ok (.aload_n 2, 1) := by decide +kernel
theorem dJ3_checkIndex_8e157_10 : decode cJ3_checkIndex_8e157 10 = .ok (.iload_n 0, 1) := by decide +kernel
theorem dJ3_checkIndex_8e157_11 : decode cJ3_checkIndex_8e157 11 = .ok (.iload_n 1, 1) := by decide +kernel
theorem dJ3_checkIndex_8e157_12 : decode cJ3_checkIndex_8e157 12 = .ok (.invokestatic 95, 3) := by decide +kernel
theorem dJ3_checkIndex_8e157_15 : decode cJ3_checkIndex_8e157 15 = .ok (.athrow, 1) := by decide +kernel
theorem dJ3_checkIndex_8e157_16 : decode cJ3_checkIndex_8e157 16 = .ok (.iload_n 0, 1) := by decide +kernel
theorem dJ3_checkIndex_8e157_17 : decode cJ3_checkIndex_8e157 17 = .ok (.ireturn, 1) := by decide +kernel
theorem dL_below_0 : decode cL_below 0 = .ok (.iload_n 0, 1) := by decide +kernel
theorem dL_below_1 : decode cL_below 1 = .ok (.ldc 7, 2) := by decide +kernel
theorem dL_below_3 : decode cL_below 3 = .ok (.iand, 1) := by decide +kernel
theorem dL_below_4 : decode cL_below 4 = .ok (.iload_n 1, 1) := by decide +kernel
theorem dL_below_5 : decode cL_below 5 = .ok (.irem, 1) := by decide +kernel
theorem dL_below_6 : decode cL_below 6 = .ok (.ireturn, 1) := by decide +kernel
theorem dL_cell_0 : decode cL_cell 0 = .ok (.iload_n 1, 1) := by decide +kernel
theorem dL_cell_1 : decode cL_cell 1 = .ok (.aload_n 0, 1) := by decide +kernel
theorem dL_cell_2 : decode cL_cell 2 = .ok (.arraylength, 1) := by decide +kernel
theorem dL_cell_3 : decode cL_cell 3 = .ok (.if_icmp .ge 9, 3) := by decide +kernel
theorem dL_cell_6 : decode cL_cell 6 = .ok (.aload_n 0, 1) := by decide +kernel
theorem dL_cell_7 : decode cL_cell 7 = .ok (.iload_n 1, 1) := by decide +kernel
theorem dL_cell_8 : decode cL_cell 8 = .ok (.iaload, 1) := by decide +kernel
theorem dL_cell_9 : decode cL_cell 9 = .ok (.goto 9, 3) := by decide +kernel
theorem dL_cell_12 : decode cL_cell 12 = .ok (.ldc 8, 2) := by decide +kernel
theorem dL_cell_14 : decode cL_cell 14 = .ok (.iload_n 1, 1) := by decide +kernel
theorem dL_cell_15 : decode cL_cell 15 = .ok (.iconst 3, 1) := by decide +kernel
theorem dL_cell_16 : decode cL_cell 16 = .ok (.iadd, 1) := by decide +kernel
theorem dL_cell_17 : decode cL_cell 17 = .ok (.imul, 1) := by decide +kernel
theorem dL_cell_18 : decode cL_cell 18 = .ok (.ireturn, 1) := by decide +kernel
theorem dL_build_0 : decode cL_build 0 = .ok (.aload 4, 2) := by decide +kernel
theorem dL_build_2 : decode cL_build 2 = .ok (.arraylength, 1) := by decide +kernel
theorem dL_build_3 : decode cL_build 3 = .ok (.istore 5, 2) := by decide +kernel
theorem dL_build_5 : decode cL_build 5 = .ok (.iload 5, 2) := by decide +kernel
theorem dL_build_7 : decode cL_build 7 = .ok (.newarray .int, 2) := by decide +kernel
theorem dL_build_9 : decode cL_build 9 = .ok (.astore 6, 2) := by decide +kernel
theorem dL_build_11 : decode cL_build 11 = .ok (.iconst 0, 1) := by decide +kernel
theorem dL_build_12 : decode cL_build 12 = .ok (.istore 7, 2) := by decide +kernel
theorem dL_build_14 : decode cL_build 14 = .ok (.iload 7, 2) := by decide +kernel
theorem dL_build_16 : decode cL_build 16 = .ok (.iload 5, 2) := by decide +kernel
theorem dL_build_18 : decode cL_build 18 = .ok (.if_icmp .ge 43, 3) := by decide +kernel
theorem dL_build_21 : decode cL_build 21 = .ok (.aload 6, 2) := by decide +kernel
theorem dL_build_23 : decode cL_build 23 = .ok (.iload 7, 2) := by decide +kernel
theorem dL_build_25 : decode cL_build 25 = .ok (.iconst 1, 1) := by decide +kernel
theorem dL_build_26 : decode cL_build 26 = .ok (.aload_n 1, 1) := by decide +kernel
theorem dL_build_27 : decode cL_build 27 = .ok (.iload 7, 2) := by decide +kernel
theorem dL_build_29 : decode cL_build 29 = .ok (.invokestatic 9, 3) := by decide +kernel
theorem dL_build_32 : decode cL_build 32 = .ok (.iconst 2, 1) := by decide +kernel
theorem dL_build_33 : decode cL_build 33 = .ok (.ishr, 1) := by decide +kernel
theorem dL_build_34 : decode cL_build 34 = .ok (.iconst 3, 1) := by decide +kernel
theorem dL_build_35 : decode cL_build 35 = .ok (.invokestatic 15, 3) := by decide +kernel
theorem dL_build_38 : decode cL_build 38 = .ok (.iadd, 1) := by decide +kernel
theorem dL_build_39 : decode cL_build 39 = .ok (.iastore, 1) := by decide +kernel
theorem dL_build_40 : decode cL_build 40 = .ok (.aload_n 0, 1) := by decide +kernel
theorem dL_build_41 : decode cL_build 41 = .ok (.aload 4, 2) := by decide +kernel
theorem dL_build_43 : decode cL_build 43 = .ok (.iload 7, 2) := by decide +kernel
theorem dL_build_45 : decode cL_build 45 = .ok (.iaload, 1) := by decide +kernel
theorem dL_build_46 : decode cL_build 46 = .ok (.aload 6, 2) := by decide +kernel
theorem dL_build_48 : decode cL_build 48 = .ok (.iload 7, 2) := by decide +kernel
theorem dL_build_50 : decode cL_build 50 = .ok (.iaload, 1) := by decide +kernel
theorem dL_build_51 : decode cL_build 51 = .ok (.invokevirtual 19, 3) := by decide +kernel
theorem dL_build_54 : decode cL_build 54 = .ok (.pop, 1) := by decide +kernel
theorem dL_build_55 : decode cL_build 55 = .ok (.iinc 7 1, 3) := by decide +kernel
theorem dL_build_58 : decode cL_build 58 = .ok (.goto (-44), 3) := by decide +kernel
theorem dL_build_61 : decode cL_build 61 = .ok (.iconst 2, 1) := by decide +kernel
theorem dL_build_62 : decode cL_build 62 = .ok (.newarray .int, 2) := by decide +kernel
theorem dL_build_64 : decode cL_build 64 = .ok (.dup, 1) := by decide +kernel
theorem dL_build_65 : decode cL_build 65 = .ok (.iconst 0, 1) := by decide +kernel
theorem dL_build_66 : decode cL_build 66 = .ok (.iconst 4, 1) := by decide +kernel
theorem dL_build_67 : decode cL_build 67 = .ok (.aload_n 1, 1) := by decide +kernel
theorem dL_build_68 : decode cL_build 68 = .ok (.iconst 3, 1) := by decide +kernel
theorem dL_build_69 : decode cL_build 69 = .ok (.invokestatic 9, 3) := by decide +kernel
theorem dL_build_72 : decode cL_build 72 = .ok (.bipush 8, 2) := by decide +kernel
theorem dL_build_74 : decode cL_build 74 = .ok (.invokestatic 15, 3) := by decide +kernel
theorem dL_build_77 : decode cL_build 77 = .ok (.iadd, 1) := by decide +kernel
theorem dL_build_78 : decode cL_build 78 = .ok (.iastore, 1) := by decide +kernel
theorem dL_build_79 : decode cL_build 79 = .ok (.dup, 1) := by decide +kernel
theorem dL_build_80 : decode cL_build 80 = .ok (.iconst 1, 1) := by decide +kernel
theorem dL_build_81 : decode cL_build 81 = .ok (.iconst 3, 1) := by decide +kernel
theorem dL_build_82 : decode cL_build 82 = .ok (.iastore, 1) := by decide +kernel
theorem dL_build_83 : decode cL_build 83 = .ok (.astore 7, 2) := by decide +kernel
theorem dL_build_85 : decode cL_build 85 = .ok (.iconst 2, 1) := by decide +kernel
theorem dL_build_86 : decode cL_build 86 = .ok (.newarray .int, 2) := by decide +kernel
theorem dL_build_88 : decode cL_build 88 = .ok (.dup, 1) := by decide +kernel
theorem dL_build_89 : decode cL_build 89 = .ok (.iconst 0, 1) := by decide +kernel
theorem dL_build_90 : decode cL_build 90 = .ok (.aload_n 1, 1) := by decide +kernel
theorem dL_build_91 : decode cL_build 91 = .ok (.iconst 4, 1) := by decide +kernel
theorem dL_build_92 : decode cL_build 92 = .ok (.invokestatic 9, 3) := by decide +kernel
theorem dL_build_95 : decode cL_build 95 = .ok (.iconst 4, 1) := by decide +kernel
theorem dL_build_96 : decode cL_build 96 = .ok (.invokestatic 15, 3) := by decide +kernel
theorem dL_build_99 : decode cL_build 99 = .ok (.iastore, 1) := by decide +kernel
theorem dL_build_100 : decode cL_build 100 = .ok (.dup, 1) := by decide +kernel
theorem dL_build_101 : decode cL_build 101 = .ok (.iconst 1, 1) := by decide +kernel
theorem dL_build_102 : decode cL_build 102 = .ok (.iconst 1, 1) := by decide +kernel
theorem dL_build_103 : decode cL_build 103 = .ok (.iastore, 1) := by decide +kernel
theorem dL_build_104 : decode cL_build 104 = .ok (.astore 8, 2) := by decide +kernel
theorem dL_build_106 : decode cL_build 106 = .ok (.iconst 0, 1) := by decide +kernel
theorem dL_build_107 : decode cL_build 107 = .ok (.istore 9, 2) := by decide +kernel
theorem dL_build_109 : decode cL_build 109 = .ok (.iload 9, 2) := by decide +kernel
theorem dL_build_111 : decode cL_build 111 = .ok (.iconst 2, 1) := by decide +kernel
theorem dL_build_112 : decode cL_build 112 = .ok (.if_icmp .ge 24, 3) := by decide +kernel
theorem dL_build_115 : decode cL_build 115 = .ok (.aload_n 0, 1) := by decide +kernel
theorem dL_build_116 : decode cL_build 116 = .ok (.aload 7, 2) := by decide +kernel
theorem dL_build_118 : decode cL_build 118 = .ok (.iload 9, 2) := by decide +kernel
theorem dL_build_120 : decode cL_build 120 = .ok (.iaload, 1) := by decide +kernel
theorem dL_build_121 : decode cL_build 121 = .ok (.aload 8, 2) := by decide +kernel
theorem dL_build_123 : decode cL_build 123 = .ok (.iload 9, 2) := by decide +kernel
theorem dL_build_125 : decode cL_build 125 = .ok (.iaload, 1) := by decide +kernel
theorem dL_build_126 : decode cL_build 126 = .ok (.invokevirtual 24, 3) := by decide +kernel
theorem dL_build_129 : decode cL_build 129 = .ok (.pop, 1) := by decide +kernel
theorem dL_build_130 : decode cL_build 130 = .ok (.iinc 9 1, 3) := by decide +kernel
theorem dL_build_133 : decode cL_build 133 = .ok (.goto (-24), 3) := by decide +kernel
theorem dL_build_136 : decode cL_build 136 = .ok (.aload_n 0, 1) := by decide +kernel
theorem dL_build_137 : decode cL_build 137 = .ok (.iconst 1, 1) := by decide +kernel
theorem dL_build_138 : decode cL_build 138 = .ok (.aload_n 1, 1) := by decide +kernel
theorem dL_build_139 : decode cL_build 139 = .ok (.iconst 5, 1) := by decide +kernel
theorem dL_build_140 : decode cL_build 140 = .ok (.invokestatic 9, 3) := by decide +kernel
theorem dL_build_143 : decode cL_build 143 = .ok (.iconst 3, 1) := by decide +kernel
theorem dL_build_144 : decode cL_build 144 = .ok (.invokestatic 15, 3) := by decide +kernel
theorem dL_build_147 : decode cL_build 147 = .ok (.iadd, 1) := by decide +kernel
theorem dL_build_148 : decode cL_build 148 = .ok (.invokevirtual 27, 3) := by decide +kernel
theorem dL_build_151 : decode cL_build 151 = .ok (.pop, 1) := by decide +kernel
theorem dL_build_152 : decode cL_build 152 = .ok (.iload_n 2, 1) := by decide +kernel
theorem dL_build_153 : decode cL_build 153 = .ok (.anewarray 31, 3) := by decide +kernel
theorem dL_build_156 : decode cL_build 156 = .ok (.astore 9, 2) := by decide +kernel
theorem dL_build_158 : decode cL_build 158 = .ok (.iload_n 2, 1) := by decide +kernel
theorem dL_build_159 : decode cL_build 159 = .ok (.newarray .int, 2) := by decide +kernel
theorem dL_build_161 : decode cL_build 161 = .ok (.astore 10, 2) := by decide +kernel
theorem dL_build_163 : decode cL_build 163 = .ok (.iconst 0, 1) := by decide +kernel
theorem dL_build_164 : decode cL_build 164 = .ok (.istore 11, 2) := by decide +kernel
theorem dL_build_166 : decode cL_build 166 = .ok (.iload 11, 2) := by decide +kernel
theorem dL_build_168 : decode cL_build 168 = .ok (.iload_n 2, 1) := by decide +kernel
theorem dL_build_169 : decode cL_build 169 = .ok (.if_icmp .ge 14, 3) := by decide +kernel
theorem dL_build_172 : decode cL_build 172 = .ok (.aload_n 0, 1) := by decide +kernel
theorem dL_build_173 : decode cL_build 173 = .ok (.invokevirtual 33, 3) := by decide +kernel
theorem dL_build_176 : decode cL_build 176 = .ok (.pop, 1) := by decide +kernel
theorem dL_build_177 : decode cL_build 177 = .ok (.iinc 11 1, 3) := by decide +kernel
theorem dL_build_180 : decode cL_build 180 = .ok (.goto (-14), 3) := by decide +kernel
theorem dL_build_183 : decode cL_build 183 = .ok (.iconst 0, 1) := by decide +kernel
theorem dL_build_184 : decode cL_build 184 = .ok (.istore 11, 2) := by decide +kernel
theorem dL_build_186 : decode cL_build 186 = .ok (.iload 11, 2) := by decide +kernel
theorem dL_build_188 : decode cL_build 188 = .ok (.iload_n 2, 1) := by decide +kernel
theorem dL_build_189 : decode cL_build 189 = .ok (.if_icmp .ge 432, 3) := by decide +kernel
theorem dL_build_192 : decode cL_build 192 = .ok (.aload 9, 2) := by decide +kernel
theorem dL_build_194 : decode cL_build 194 = .ok (.iload 11, 2) := by decide +kernel
theorem dL_build_196 : decode cL_build 196 = .ok (.iconst 2, 1) := by decide +kernel
theorem dL_build_197 : decode cL_build 197 = .ok (.aload_n 1, 1) := by decide +kernel
theorem dL_build_198 : decode cL_build 198 = .ok (.bipush 6, 2) := by decide +kernel
theorem dL_build_200 : decode cL_build 200 = .ok (.iload 11, 2) := by decide +kernel
theorem dL_build_202 : decode cL_build 202 = .ok (.iadd, 1) := by decide +kernel
theorem dL_build_203 : decode cL_build 203 = .ok (.invokestatic 9, 3) := by decide +kernel
theorem dL_build_206 : decode cL_build 206 = .ok (.bipush 7, 2) := by decide +kernel
theorem dL_build_208 : decode cL_build 208 = .ok (.invokestatic 15, 3) := by decide +kernel
theorem dL_build_211 : decode cL_build 211 = .ok (.iadd, 1) := by decide +kernel
theorem dL_build_212 : decode cL_build 212 = .ok (.anewarray 37, 3) := by decide +kernel
theorem dL_build_215 : decode cL_build 215 = .ok (.aastore, 1) := by decide +kernel
theorem dL_build_216 : decode cL_build 216 = .ok (.aload 10, 2) := by decide +kernel
theorem dL_build_218 : decode cL_build 218 = .ok (.iload 11, 2) := by decide +kernel
theorem dL_build_220 : decode cL_build 220 = .ok (.aload_n 1, 1) := by decide +kernel
theorem dL_build_221 : decode cL_build 221 = .ok (.bipush 6, 2) := by decide +kernel
theorem dL_build_223 : decode cL_build 223 = .ok (.iload 11, 2) := by decide +kernel
theorem dL_build_225 : decode cL_build 225 = .ok (.iadd, 1) := by decide +kernel
theorem dL_build_226 : decode cL_build 226 = .ok (.invokestatic 9, 3) := by decide +kernel
theorem dL_build_229 : decode cL_build 229 = .ok (.iconst 4, 1) := by decide +kernel
theorem dL_build_230 : decode cL_build 230 = .ok (.ishr, 1) := by decide +kernel
theorem dL_build_231 : decode cL_build 231 = .ok (.iconst 4, 1) := by decide +kernel
theorem dL_build_232 : decode cL_build 232 = .ok (.invokestatic 15, 3) := by decide +kernel
theorem dL_build_235 : decode cL_build 235 = .ok (.iconst 1, 1) := by decide +kernel
theorem dL_build_236 : decode cL_build 236 = .ok (.isub, 1) := by decide +kernel
theorem dL_build_237 : decode cL_build 237 = .ok (.iastore, 1) := by decide +kernel
theorem dL_build_238 : decode cL_build 238 = .ok (.aload_n 0, 1) := by decide +kernel
theorem dL_build_239 : decode cL_build 239 = .ok (.iload 11, 2) := by decide +kernel
theorem dL_build_241 : decode cL_build 241 = .ok (.aload 10, 2) := by decide +kernel
theorem dL_build_243 : decode cL_build 243 = .ok (.iload 11, 2) := by decide +kernel
theorem dL_build_245 : decode cL_build 245 = .ok (.iaload, 1) := by decide +kernel
theorem dL_build_246 : decode cL_build 246 = .ok (.invokevirtual 39, 3) := by decide +kernel
theorem dL_build_249 : decode cL_build 249 = .ok (.pop, 1) := by decide +kernel
theorem dL_build_250 : decode cL_build 250 = .ok (.iconst 0, 1) := by decide +kernel
theorem dL_build_251 : decode cL_build 251 = .ok (.istore 12, 2) := by decide +kernel
theorem dL_build_253 : decode cL_build 253 = .ok (.iload 12, 2) := by decide +kernel
theorem dL_build_255 : decode cL_build 255 = .ok (.aload 9, 2) := by decide +kernel
theorem dL_build_257 : decode cL_build 257 = .ok (.iload 11, 2) := by decide +kernel
theorem dL_build_259 : decode cL_build 259 = .ok (.aaload, 1) := by decide +kernel
theorem dL_build_260 : decode cL_build 260 = .ok (.arraylength, 1) := by decide +kernel
theorem dL_build_261 : decode cL_build 261 = .ok (.if_icmp .ge 354, 3) := by decide +kernel
theorem dL_build_264 : decode cL_build 264 = .ok (.aload_n 1, 1) := by decide +kernel
theorem dL_build_265 : decode cL_build 265 = .ok (.iload 11, 2) := by decide +kernel
theorem dL_build_267 : decode cL_build 267 = .ok (.iload 12, 2) := by decide +kernel
theorem dL_build_269 : decode cL_build 269 = .ok (.iadd, 1) := by decide +kernel
theorem dL_build_270 : decode cL_build 270 = .ok (.bipush 15, 2) := by decide +kernel
theorem dL_build_272 : decode cL_build 272 = .ok (.irem, 1) := by decide +kernel
theorem dL_build_273 : decode cL_build 273 = .ok (.invokestatic 9, 3) := by decide +kernel
theorem dL_build_276 : decode cL_build 276 = .ok (.iload 12, 2) := by decide +kernel
theorem dL_build_278 : decode cL_build 278 = .ok (.iconst 5, 1) := by decide +kernel
theorem dL_build_279 : decode cL_build 279 = .ok (.irem, 1) := by decide +kernel
theorem dL_build_280 : decode cL_build 280 = .ok (.ishr, 1) := by decide +kernel
theorem dL_build_281 : decode cL_build 281 = .ok (.bipush 7, 2) := by decide +kernel
theorem dL_build_283 : decode cL_build 283 = .ok (.iload 12, 2) := by decide +kernel
theorem dL_build_285 : decode cL_build 285 = .ok (.imul, 1) := by decide +kernel
theorem dL_build_286 : decode cL_build 286 = .ok (.iadd, 1) := by decide +kernel
theorem dL_build_287 : decode cL_build 287 = .ok (.bipush 31, 2) := by decide +kernel
theorem dL_build_289 : decode cL_build 289 = .ok (.iload 11, 2) := by decide +kernel
theorem dL_build_291 : decode cL_build 291 = .ok (.imul, 1) := by decide +kernel
theorem dL_build_292 : decode cL_build 292 = .ok (.iadd, 1) := by decide +kernel
theorem dL_build_293 : decode cL_build 293 = .ok (.istore 13, 2) := by decide +kernel
theorem dL_build_295 : decode cL_build 295 = .ok (.aload_n 3, 1) := by decide +kernel
theorem dL_build_296 : decode cL_build 296 = .ok (.iload 13, 2) := by decide +kernel
theorem dL_build_298 : decode cL_build 298 = .ok (.aload_n 3, 1) := by decide +kernel
theorem dL_build_299 : decode cL_build 299 = .ok (.arraylength, 1) := by decide +kernel
theorem dL_build_300 : decode cL_build 300 = .ok (.invokestatic 15, 3) := by decide +kernel
theorem dL_build_303 : decode cL_build 303 = .ok (.iaload, 1) := by decide +kernel
theorem dL_build_304 : decode cL_build 304 = .ok (.istore 14, 2) := by decide +kernel
theorem dL_build_306 : decode cL_build 306 = .ok (.iconst 0, 1) := by decide +kernel
theorem dL_build_307 : decode cL_build 307 = .ok (.istore 15, 2) := by decide +kernel
theorem dL_build_309 : decode cL_build 309 = .ok (.iconst 0, 1) := by decide +kernel
theorem dL_build_310 : decode cL_build 310 = .ok (.istore 16, 2) := by decide +kernel
theorem dL_build_312 : decode cL_build 312 = .ok (.iload 14, 2) := by decide +kernel
theorem dL_build_314 : decode cL_build 314 = .ok (.ifCond .ne 45, 3) := by decide +kernel
theorem dL_build_317 : decode cL_build 317 = .ok (.iload 13, 2) := by decide +kernel
theorem dL_build_319 : decode cL_build 319 = .ok (.iconst 2, 1) := by decide +kernel
theorem dL_build_320 : decode cL_build 320 = .ok (.ishr, 1) := by decide +kernel
theorem dL_build_321 : decode cL_build 321 = .ok (.bipush 9, 2) := by decide +kernel
theorem dL_build_323 : decode cL_build 323 = .ok (.invokestatic 15, 3) := by decide +kernel
theorem dL_build_326 : decode cL_build 326 = .ok (.istore 15, 2) := by decide +kernel
theorem dL_build_328 : decode cL_build 328 = .ok (.iload 13, 2) := by decide +kernel
theorem dL_build_330 : decode cL_build 330 = .ok (.iconst 4, 1) := by decide +kernel
theorem dL_build_331 : decode cL_build 331 = .ok (.ishr, 1) := by decide +kernel
theorem dL_build_332 : decode cL_build 332 = .ok (.iconst 4, 1) := by decide +kernel
theorem dL_build_333 : decode cL_build 333 = .ok (.invokestatic 15, 3) := by decide +kernel
theorem dL_build_336 : decode cL_build 336 = .ok (.ifCond .ne 17, 3) := by decide +kernel
theorem dL_build_339 : decode cL_build 339 = .ok (.iconst 1, 1) := by decide +kernel
theorem dL_build_340 : decode cL_build 340 = .ok (.iload 13, 2) := by decide +kernel
theorem dL_build_342 : decode cL_build 342 = .ok (.iconst 1, 1) := by decide +kernel
theorem dL_build_343 : decode cL_build 343 = .ok (.ishr, 1) := by decide +kernel
theorem dL_build_344 : decode cL_build 344 = .ok (.bipush 6, 2) := by decide +kernel
theorem dL_build_346 : decode cL_build 346 = .ok (.invokestatic 15, 3) := by decide +kernel
theorem dL_build_349 : decode cL_build 349 = .ok (.iadd, 1) := by decide +kernel
theorem dL_build_350 : decode cL_build 350 = .ok (.goto 4, 3) := by decide +kernel
theorem dL_build_353 : decode cL_build 353 = .ok (.iconst 0, 1) := by decide +kernel
theorem dL_build_354 : decode cL_build 354 = .ok (.istore 16, 2) := by decide +kernel
theorem dL_build_356 : decode cL_build 356 = .ok (.goto 208, 3) := by decide +kernel
theorem dL_build_359 : decode cL_build 359 = .ok (.iload 14, 2) := by decide +kernel
theorem dL_build_361 : decode cL_build 361 = .ok (.iconst 3, 1) := by decide +kernel
theorem dL_build_362 : decode cL_build 362 = .ok (.if_icmp .ge 51, 3) := by decide +kernel
theorem dL_build_365 : decode cL_build 365 = .ok (.iload 13, 2) := by decide +kernel
theorem dL_build_367 : decode cL_build 367 = .ok (.iconst 3, 1) := by decide +kernel
theorem dL_build_368 : decode cL_build 368 = .ok (.ishr, 1) := by decide +kernel
theorem dL_build_369 : decode cL_build 369 = .ok (.iload 5, 2) := by decide +kernel
theorem dL_build_371 : decode cL_build 371 = .ok (.invokestatic 15, 3) := by decide +kernel
theorem dL_build_374 : decode cL_build 374 = .ok (.istore 15, 2) := by decide +kernel
theorem dL_build_376 : decode cL_build 376 = .ok (.iconst 1, 1) := by decide +kernel
theorem dL_build_377 : decode cL_build 377 = .ok (.iload 13, 2) := by decide +kernel
theorem dL_build_379 : decode cL_build 379 = .ok (.iconst 2, 1) := by decide +kernel
theorem dL_build_380 : decode cL_build 380 = .ok (.ishr, 1) := by decide +kernel
theorem dL_build_381 : decode cL_build 381 = .ok (.aload 6, 2) := by decide +kernel
theorem dL_build_383 : decode cL_build 383 = .ok (.iload 15, 2) := by decide +kernel
theorem dL_build_385 : decode cL_build 385 = .ok (.iaload, 1) := by decide +kernel
theorem dL_build_386 : decode cL_build 386 = .ok (.iload 13, 2) := by decide +kernel
theorem dL_build_388 : decode cL_build 388 = .ok (.iconst 5, 1) := by decide +kernel
theorem dL_build_389 : decode cL_build 389 = .ok (.ishr, 1) := by decide +kernel
theorem dL_build_390 : decode cL_build 390 = .ok (.bipush 9, 2) := by decide +kernel
theorem dL_build_392 : decode cL_build 392 = .ok (.invokestatic 15, 3) := by decide +kernel
theorem dL_build_395 : decode cL_build 395 = .ok (.ifCond .ne 7, 3) := by decide +kernel
theorem dL_build_398 : decode cL_build 398 = .ok (.iconst 1, 1) := by decide +kernel
theorem dL_build_399 : decode cL_build 399 = .ok (.goto 4, 3) := by decide +kernel
theorem dL_build_402 : decode cL_build 402 = .ok (.iconst 0, 1) := by decide +kernel
theorem dL_build_403 : decode cL_build 403 = .ok (.iadd, 1) := by decide +kernel
theorem dL_build_404 : decode cL_build 404 = .ok (.invokestatic 15, 3) := by decide +kernel
theorem dL_build_407 : decode cL_build 407 = .ok (.iadd, 1) := by decide +kernel
theorem dL_build_408 : decode cL_build 408 = .ok (.istore 16, 2) := by decide +kernel
theorem dL_build_410 : decode cL_build 410 = .ok (.goto 154, 3) := by decide +kernel
theorem dL_build_413 : decode cL_build 413 = .ok (.iload 14, 2) := by decide +kernel
theorem dL_build_415 : decode cL_build 415 = .ok (.iconst 5, 1) := by decide +kernel
theorem dL_build_416 : decode cL_build 416 = .ok (.if_icmp .lt 10, 3) := by decide +kernel
theorem dL_build_419 : decode cL_build 419 = .ok (.iload 14, 2) := by decide +kernel
theorem dL_build_421 : decode cL_build 421 = .ok (.bipush 13, 2) := by decide +kernel
theorem dL_build_423 : decode cL_build 423 = .ok (.if_icmp .ne 37, 3) := by decide +kernel
theorem dL_build_426 : decode cL_build 426 = .ok (.iload 13, 2) := by decide +kernel
theorem dL_build_428 : decode cL_build 428 = .ok (.iconst 3, 1) := by decide +kernel
theorem dL_build_429 : decode cL_build 429 = .ok (.ishr, 1) := by decide +kernel
theorem dL_build_430 : decode cL_build 430 = .ok (.iconst 2, 1) := by decide +kernel
theorem dL_build_431 : decode cL_build 431 = .ok (.invokestatic 15, 3) := by decide +kernel
theorem dL_build_434 : decode cL_build 434 = .ok (.istore 15, 2) := by decide +kernel
theorem dL_build_436 : decode cL_build 436 = .ok (.iconst 1, 1) := by decide +kernel
theorem dL_build_437 : decode cL_build 437 = .ok (.iload 13, 2) := by decide +kernel
theorem dL_build_439 : decode cL_build 439 = .ok (.iconst 4, 1) := by decide +kernel
theorem dL_build_440 : decode cL_build 440 = .ok (.ishr, 1) := by decide +kernel
theorem dL_build_441 : decode cL_build 441 = .ok (.iload 15, 2) := by decide +kernel
theorem dL_build_443 : decode cL_build 443 = .ok (.ifCond .ne 7, 3) := by decide +kernel
theorem dL_build_446 : decode cL_build 446 = .ok (.iconst 4, 1) := by decide +kernel
theorem dL_build_447 : decode cL_build 447 = .ok (.goto 4, 3) := by decide +kernel
theorem dL_build_450 : decode cL_build 450 = .ok (.iconst 3, 1) := by decide +kernel
theorem dL_build_451 : decode cL_build 451 = .ok (.invokestatic 15, 3) := by decide +kernel
theorem dL_build_454 : decode cL_build 454 = .ok (.iadd, 1) := by decide +kernel
theorem dL_build_455 : decode cL_build 455 = .ok (.istore 16, 2) := by decide +kernel
theorem dL_build_457 : decode cL_build 457 = .ok (.goto 107, 3) := by decide +kernel
theorem dL_build_460 : decode cL_build 460 = .ok (.iload 14, 2) := by decide +kernel
theorem dL_build_462 : decode cL_build 462 = .ok (.bipush 7, 2) := by decide +kernel
theorem dL_build_464 : decode cL_build 464 = .ok (.if_icmp .ge 16, 3) := by decide +kernel
theorem dL_build_467 : decode cL_build 467 = .ok (.iload 13, 2) := by decide +kernel
theorem dL_build_469 : decode cL_build 469 = .ok (.iconst 3, 1) := by decide +kernel
theorem dL_build_470 : decode cL_build 470 = .ok (.ishr, 1) := by decide +kernel
theorem dL_build_471 : decode cL_build 471 = .ok (.iconst 2, 1) := by decide +kernel
theorem dL_build_472 : decode cL_build 472 = .ok (.invokestatic 15, 3) := by decide +kernel
theorem dL_build_475 : decode cL_build 475 = .ok (.istore 15, 2) := by decide +kernel
theorem dL_build_477 : decode cL_build 477 = .ok (.goto 87, 3) := by decide +kernel
theorem dL_build_480 : decode cL_build 480 = .ok (.iload 14, 2) := by decide +kernel
theorem dL_build_482 : decode cL_build 482 = .ok (.bipush 7, 2) := by decide +kernel
theorem dL_build_484 : decode cL_build 484 = .ok (.if_icmp .ne 27, 3) := by decide +kernel
theorem dL_build_487 : decode cL_build 487 = .ok (.iload 13, 2) := by decide +kernel
theorem dL_build_489 : decode cL_build 489 = .ok (.iconst 3, 1) := by decide +kernel
theorem dL_build_490 : decode cL_build 490 = .ok (.ishr, 1) := by decide +kernel
theorem dL_build_491 : decode cL_build 491 = .ok (.iload_n 2, 1) := by decide +kernel
theorem dL_build_492 : decode cL_build 492 = .ok (.invokestatic 15, 3) := by decide +kernel
theorem dL_build_495 : decode cL_build 495 = .ok (.istore 15, 2) := by decide +kernel
theorem dL_build_497 : decode cL_build 497 = .ok (.iload 13, 2) := by decide +kernel
theorem dL_build_499 : decode cL_build 499 = .ok (.iconst 4, 1) := by decide +kernel
theorem dL_build_500 : decode cL_build 500 = .ok (.ishr, 1) := by decide +kernel
theorem dL_build_501 : decode cL_build 501 = .ok (.bipush 10, 2) := by decide +kernel
theorem dL_build_503 : decode cL_build 503 = .ok (.invokestatic 15, 3) := by decide +kernel
theorem dL_build_506 : decode cL_build 506 = .ok (.istore 16, 2) := by decide +kernel
theorem dL_build_508 : decode cL_build 508 = .ok (.goto 56, 3) := by decide +kernel
theorem dL_build_511 : decode cL_build 511 = .ok (.iload 14, 2) := by decide +kernel
theorem dL_build_513 : decode cL_build 513 = .ok (.bipush 10, 2) := by decide +kernel
theorem dL_build_515 : decode cL_build 515 = .ok (.if_icmp .ne 31, 3) := by decide +kernel
theorem dL_build_518 : decode cL_build 518 = .ok (.iload 13, 2) := by decide +kernel
theorem dL_build_520 : decode cL_build 520 = .ok (.iconst 3, 1) := by decide +kernel
theorem dL_build_521 : decode cL_build 521 = .ok (.ishr, 1) := by decide +kernel
theorem dL_build_522 : decode cL_build 522 = .ok (.aload 9, 2) := by decide +kernel
theorem dL_build_524 : decode cL_build 524 = .ok (.iload 11, 2) := by decide +kernel
theorem dL_build_526 : decode cL_build 526 = .ok (.aaload, 1) := by decide +kernel
theorem dL_build_527 : decode cL_build 527 = .ok (.arraylength, 1) := by decide +kernel
theorem dL_build_528 : decode cL_build 528 = .ok (.invokestatic 15, 3) := by decide +kernel
theorem dL_build_531 : decode cL_build 531 = .ok (.istore 15, 2) := by decide +kernel
theorem dL_build_533 : decode cL_build 533 = .ok (.iload 13, 2) := by decide +kernel
theorem dL_build_535 : decode cL_build 535 = .ok (.iconst 5, 1) := by decide +kernel
theorem dL_build_536 : decode cL_build 536 = .ok (.ishr, 1) := by decide +kernel
theorem dL_build_537 : decode cL_build 537 = .ok (.iconst 4, 1) := by decide +kernel
theorem dL_build_538 : decode cL_build 538 = .ok (.invokestatic 15, 3) := by decide +kernel
theorem dL_build_541 : decode cL_build 541 = .ok (.istore 16, 2) := by decide +kernel
theorem dL_build_543 : decode cL_build 543 = .ok (.goto 21, 3) := by decide +kernel
theorem dL_build_546 : decode cL_build 546 = .ok (.iload 14, 2) := by decide +kernel
theorem dL_build_548 : decode cL_build 548 = .ok (.bipush 12, 2) := by decide +kernel
theorem dL_build_550 : decode cL_build 550 = .ok (.if_icmp .ne 14, 3) := by decide +kernel
theorem dL_build_553 : decode cL_build 553 = .ok (.iload 13, 2) := by decide +kernel
theorem dL_build_555 : decode cL_build 555 = .ok (.iconst 3, 1) := by decide +kernel
theorem dL_build_556 : decode cL_build 556 = .ok (.ishr, 1) := by decide +kernel
theorem dL_build_557 : decode cL_build 557 = .ok (.bipush 10, 2) := by decide +kernel
theorem dL_build_559 : decode cL_build 559 = .ok (.invokestatic 15, 3) := by decide +kernel
theorem dL_build_562 : decode cL_build 562 = .ok (.istore 15, 2) := by decide +kernel
theorem dL_build_564 : decode cL_build 564 = .ok (.aload 9, 2) := by decide +kernel
theorem dL_build_566 : decode cL_build 566 = .ok (.iload 11, 2) := by decide +kernel
theorem dL_build_568 : decode cL_build 568 = .ok (.aaload, 1) := by decide +kernel
theorem dL_build_569 : decode cL_build 569 = .ok (.iload 12, 2) := by decide +kernel
theorem dL_build_571 : decode cL_build 571 = .ok (.iconst 3, 1) := by decide +kernel
theorem dL_build_572 : decode cL_build 572 = .ok (.newarray .int, 2) := by decide +kernel
theorem dL_build_574 : decode cL_build 574 = .ok (.dup, 1) := by decide +kernel
theorem dL_build_575 : decode cL_build 575 = .ok (.iconst 0, 1) := by decide +kernel
theorem dL_build_576 : decode cL_build 576 = .ok (.iload 14, 2) := by decide +kernel
theorem dL_build_578 : decode cL_build 578 = .ok (.iastore, 1) := by decide +kernel
theorem dL_build_579 : decode cL_build 579 = .ok (.dup, 1) := by decide +kernel
theorem dL_build_580 : decode cL_build 580 = .ok (.iconst 1, 1) := by decide +kernel
theorem dL_build_581 : decode cL_build 581 = .ok (.iload 15, 2) := by decide +kernel
theorem dL_build_583 : decode cL_build 583 = .ok (.iastore, 1) := by decide +kernel
theorem dL_build_584 : decode cL_build 584 = .ok (.dup, 1) := by decide +kernel
theorem dL_build_585 : decode cL_build 585 = .ok (.iconst 2, 1) := by decide +kernel
theorem dL_build_586 : decode cL_build 586 = .ok (.iload 16, 2) := by decide +kernel
theorem dL_build_588 : decode cL_build 588 = .ok (.iastore, 1) := by decide +kernel
theorem dL_build_589 : decode cL_build 589 = .ok (.aastore, 1) := by decide +kernel
theorem dL_build_590 : decode cL_build 590 = .ok (.aload_n 0, 1) := by decide +kernel
theorem dL_build_591 : decode cL_build 591 = .ok (.iload 11, 2) := by decide +kernel
theorem dL_build_593 : decode cL_build 593 = .ok (.iload 14, 2) := by decide +kernel
theorem dL_build_595 : decode cL_build 595 = .ok (.iload 15, 2) := by decide +kernel
theorem dL_build_597 : decode cL_build 597 = .ok (.iload 16, 2) := by decide +kernel
theorem dL_build_599 : decode cL_build 599 = .ok (.invokevirtual 42, 3) := by decide +kernel
theorem dL_build_602 : decode cL_build 602 = .ok (.iload 12, 2) := by decide +kernel
theorem dL_build_604 : decode cL_build 604 = .ok (.if_icmp .eq 5, 3) := by decide +kernel
theorem dL_build_607 : decode cL_build 607 = .ok (.aconst_null, 1) := by decide +kernel
theorem dL_build_608 : decode cL_build 608 = .ok (.areturn, 1) := by decide +kernel
theorem dL_build_609 : decode cL_build 609 = .ok (.iinc 12 1, 3) := by decide +kernel
theorem dL_build_612 : decode cL_build 612 = .ok (.goto (-359), 3) := by decide +kernel
theorem dL_build_615 : decode cL_build 615 = .ok (.iinc 11 1, 3) := by decide +kernel
theorem dL_build_618 : decode cL_build 618 = .ok (.goto (-432), 3) := by decide +kernel
theorem dL_build_621 : decode cL_build 621 = .ok (.new 46, 3) := by decide +kernel
theorem dL_build_624 : decode cL_build 624 = .ok (.dup, 1) := by decide +kernel
theorem dL_build_625 : decode cL_build 625 = .ok (.aload 9, 2) := by decide +kernel
theorem dL_build_627 : decode cL_build 627 = .ok (.aload 10, 2) := by decide +kernel
theorem dL_build_629 : decode cL_build 629 = .ok (.aload 4, 2) := by decide +kernel
theorem dL_build_631 : decode cL_build 631 = .ok (.aload 6, 2) := by decide +kernel
theorem dL_build_633 : decode cL_build 633 = .ok (.aload 7, 2) := by decide +kernel
theorem dL_build_635 : decode cL_build 635 = .ok (.aload 8, 2) := by decide +kernel
theorem dL_build_637 : decode cL_build 637 = .ok (.invokespecial 48, 3) := by decide +kernel
theorem dL_build_640 : decode cL_build 640 = .ok (.areturn, 1) := by decide +kernel
theorem dL_isSound_0 : decode cL_isSound 0 = .ok (.bipush 8, 2) := by decide +kernel
theorem dL_isSound_2 : decode cL_isSound 2 = .ok (.newarray .int, 2) := by decide +kernel
theorem dL_isSound_4 : decode cL_isSound 4 = .ok (.astore_n 3, 1) := by decide +kernel
theorem dL_isSound_5 : decode cL_isSound 5 = .ok (.iconst 0, 1) := by decide +kernel
theorem dL_isSound_6 : decode cL_isSound 6 = .ok (.istore 4, 2) := by decide +kernel
theorem dL_isSound_8 : decode cL_isSound 8 = .ok (.iload 4, 2) := by decide +kernel
