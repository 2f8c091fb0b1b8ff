theorem dX12_thrown_0 : decode cX12_thrown 0 = .ok (.aload_n 0, 1) := by decide +kernel
theorem dX12_thrown_1 : decode cX12_thrown 1 = .ok (.getfield 1, 3) := by decide +kernel
theorem dX12_thrown_4 : decode cX12_thrown 4 = .ok (.ireturn, 1) := by decide +kernel
theorem dX12_feed_0 : decode cX12_feed 0 = .ok (.aload_n 0, 1) := by decide +kernel
theorem dX12_feed_1 : decode cX12_feed 1 = .ok (.iconst 0, 1) := by decide +kernel
theorem dX12_feed_2 : decode cX12_feed 2 = .ok (.putfield 1, 3) := by decide +kernel
theorem dX12_feed_5 : decode cX12_feed 5 = .ok (.aload_n 0, 1) := by decide +kernel
theorem dX12_feed_6 : decode cX12_feed 6 = .ok (.lload_n 1, 1) := by decide +kernel
theorem dX12_feed_7 : decode cX12_feed 7 = .ok (.invokevirtual 7, 3) := by decide +kernel
theorem dX12_feed_10 : decode cX12_feed 10 = .ok (.aload_n 0, 1) := by decide +kernel
theorem dX12_feed_11 : decode cX12_feed 11 = .ok (.lload_n 3, 1) := by decide +kernel
theorem dX12_feed_12 : decode cX12_feed 12 = .ok (.invokevirtual 7, 3) := by decide +kernel
theorem dX12_feed_15 : decode cX12_feed 15 = .ok (.aload_n 0, 1) := by decide +kernel
theorem dX12_feed_16 : decode cX12_feed 16 = .ok (.lload 5, 2) := by decide +kernel
theorem dX12_feed_18 : decode cX12_feed 18 = .ok (.invokevirtual 7, 3) := by decide +kernel
theorem dX12_feed_21 : decode cX12_feed 21 = .ok (.aload_n 0, 1) := by decide +kernel
theorem dX12_feed_22 : decode cX12_feed 22 = .ok (.getfield 11, 3) := by decide +kernel
theorem dX12_feed_25 : decode cX12_feed 25 = .ok (.ireturn, 1) := by decide +kernel
theorem dX12_lay_0 : decode cX12_lay 0 = .ok (.bipush 56, 2) := by decide +kernel
theorem dX12_lay_2 : decode cX12_lay 2 = .ok (.istore_n 3, 1) := by decide +kernel
theorem dX12_lay_3 : decode cX12_lay 3 = .ok (.iload_n 3, 1) := by decide +kernel
theorem dX12_lay_4 : decode cX12_lay 4 = .ok (.ifCond .lt 71, 3) := by decide +kernel
theorem dX12_lay_7 : decode cX12_lay 7 = .ok (.lload_n 1, 1) := by decide +kernel
theorem dX12_lay_8 : decode cX12_lay 8 = .ok (.iload_n 3, 1) := by decide +kernel
theorem dX12_lay_9 : decode cX12_lay 9 = .ok (.lshr, 1) := by decide +kernel
theorem dX12_lay_10 : decode cX12_lay 10 = .ok (.l2i, 1) := by decide +kernel
theorem dX12_lay_11 : decode cX12_lay 11 = .ok (.sipush 255, 3) := by decide +kernel
theorem dX12_lay_14 : decode cX12_lay 14 = .ok (.iand, 1) := by decide +kernel
theorem dX12_lay_15 : decode cX12_lay 15 = .ok (.istore 4, 2) := by decide +kernel
theorem dX12_lay_17 : decode cX12_lay 17 = .ok (.iload 4, 2) := by decide +kernel
theorem dX12_lay_19 : decode cX12_lay 19 = .ok (.bipush 10, 2) := by decide +kernel
theorem dX12_lay_21 : decode cX12_lay 21 = .ok (.if_icmp .eq 17, 3) := by decide +kernel
theorem dX12_lay_24 : decode cX12_lay 24 = .ok (.iload 4, 2) := by decide +kernel
theorem dX12_lay_26 : decode cX12_lay 26 = .ok (.bipush 32, 2) := by decide +kernel
theorem dX12_lay_28 : decode cX12_lay 28 = .ok (.if_icmp .lt 41, 3) := by decide +kernel
theorem dX12_lay_31 : decode cX12_lay 31 = .ok (.iload 4, 2) := by decide +kernel
theorem dX12_lay_33 : decode cX12_lay 33 = .ok (.bipush 126, 2) := by decide +kernel
theorem dX12_lay_35 : decode cX12_lay 35 = .ok (.if_icmp .gt 34, 3) := by decide +kernel
theorem dX12_lay_38 : decode cX12_lay 38 = .ok (.aload_n 0, 1) := by decide +kernel
theorem dX12_lay_39 : decode cX12_lay 39 = .ok (.getfield 11, 3) := by decide +kernel
theorem dX12_lay_42 : decode cX12_lay 42 = .ok (.sipush 1000, 3) := by decide +kernel
theorem dX12_lay_45 : decode cX12_lay 45 = .ok (.if_icmp .ge 24, 3) := by decide +kernel
theorem dX12_lay_48 : decode cX12_lay 48 = .ok (.aload_n 0, 1) := by decide +kernel
theorem dX12_lay_49 : decode cX12_lay 49 = .ok (.getfield 14, 3) := by decide +kernel
theorem dX12_lay_52 : decode cX12_lay 52 = .ok (.aload_n 0, 1) := by decide +kernel
theorem dX12_lay_53 : decode cX12_lay 53 = .ok (.getfield 11, 3) := by decide +kernel
theorem dX12_lay_56 : decode cX12_lay 56 = .ok (.iload 4, 2) := by decide +kernel
theorem dX12_lay_58 : decode cX12_lay 58 = .ok (.iastore, 1) := by decide +kernel
theorem dX12_lay_59 : decode cX12_lay 59 = .ok (.aload_n 0, 1) := by decide +kernel
theorem dX12_lay_60 : decode cX12_lay 60 = .ok (.dup, 1) := by decide +kernel
theorem dX12_lay_61 : decode cX12_lay 61 = .ok (.getfield 11, 3) := by decide +kernel
theorem dX12_lay_64 : decode cX12_lay 64 = .ok (.iconst 1, 1) := by decide +kernel
theorem dX12_lay_65 : decode cX12_lay 65 = .ok (.iadd, 1) := by decide +kernel
theorem dX12_lay_66 : decode cX12_lay 66 = .ok (.putfield 11, 3) := by decide +kernel
theorem dX12_lay_69 : decode cX12_lay 69 = .ok (.iinc 3 (-8), 3) := by decide +kernel
theorem dX12_lay_72 : decode cX12_lay 72 = .ok (.goto (-69), 3) := by decide +kernel
theorem dX12_lay_75 : decode cX12_lay 75 = .ok (.return_, 1) := by decide +kernel
theorem dX12_init_0 : decode cX12_init 0 = .ok (.aload_n 0, 1) := by decide +kernel
theorem dX12_init_1 : decode cX12_init 1 = .ok (.invokespecial 18, 3) := by decide +kernel
theorem dX12_init_4 : decode cX12_init 4 = .ok (.aload_n 0, 1) := by decide +kernel
theorem dX12_init_5 : decode cX12_init 5 = .ok (.sipush 1000, 3) := by decide +kernel
theorem dX12_init_8 : decode cX12_init 8 = .ok (.newarray .int, 2) := by decide +kernel
theorem dX12_init_10 : decode cX12_init 10 = .ok (.putfield 14, 3) := by decide +kernel
theorem dX12_init_13 : decode cX12_init 13 = .ok (.aload_n 0, 1) := by decide +kernel
theorem dX12_init_14 : decode cX12_init 14 = .ok (.sipush 1002, 3) := by decide +kernel
theorem dX12_init_17 : decode cX12_init 17 = .ok (.newarray .int, 2) := by decide +kernel
theorem dX12_init_19 : decode cX12_init 19 = .ok (.putfield 24, 3) := by decide +kernel
theorem dX12_init_22 : decode cX12_init 22 = .ok (.aload_n 0, 1) := by decide +kernel
theorem dX12_init_23 : decode cX12_init 23 = .ok (.sipush 1002, 3) := by decide +kernel
theorem dX12_init_26 : decode cX12_init 26 = .ok (.newarray .int, 2) := by decide +kernel
theorem dX12_init_28 : decode cX12_init 28 = .ok (.putfield 27, 3) := by decide +kernel
theorem dX12_init_31 : decode cX12_init 31 = .ok (.aload_n 0, 1) := by decide +kernel
theorem dX12_init_32 : decode cX12_init 32 = .ok (.sipush 1002, 3) := by decide +kernel
theorem dX12_init_35 : decode cX12_init 35 = .ok (.newarray .long, 2) := by decide +kernel
theorem dX12_init_37 : decode cX12_init 37 = .ok (.putfield 30, 3) := by decide +kernel
theorem dX12_init_40 : decode cX12_init 40 = .ok (.aload_n 0, 1) := by decide +kernel
theorem dX12_init_41 : decode cX12_init 41 = .ok (.bipush 8, 2) := by decide +kernel
theorem dX12_init_43 : decode cX12_init 43 = .ok (.newarray .long, 2) := by decide +kernel
theorem dX12_init_45 : decode cX12_init 45 = .ok (.dup, 1) := by decide +kernel
theorem dX12_init_46 : decode cX12_init 46 = .ok (.iconst 0, 1) := by decide +kernel
theorem dX12_init_47 : decode cX12_init 47 = .ok (.ldc2_w 34, 3) := by decide +kernel
theorem dX12_init_50 : decode cX12_init 50 = .ok (.lastore, 1) := by decide +kernel
theorem dX12_init_51 : decode cX12_init 51 = .ok (.dup, 1) := by decide +kernel
theorem dX12_init_52 : decode cX12_init 52 = .ok (.iconst 1, 1) := by decide +kernel
theorem dX12_init_53 : decode cX12_init 53 = .ok (.ldc2_w 36, 3) := by decide +kernel
theorem dX12_init_56 : decode cX12_init 56 = .ok (.lastore, 1) := by decide +kernel
theorem dX12_init_57 : decode cX12_init 57 = .ok (.dup, 1) := by decide +kernel
theorem dX12_init_58 : decode cX12_init 58 = .ok (.iconst 2, 1) := by decide +kernel
theorem dX12_init_59 : decode cX12_init 59 = .ok (.ldc2_w 38, 3) := by decide +kernel
theorem dX12_init_62 : decode cX12_init 62 = .ok (.lastore, 1) := by decide +kernel
theorem dX12_init_63 : decode cX12_init 63 = .ok (.dup, 1) := by decide +kernel
theorem dX12_init_64 : decode cX12_init 64 = .ok (.iconst 3, 1) := by decide +kernel
theorem dX12_init_65 : decode cX12_init 65 = .ok (.ldc2_w 40, 3) := by decide +kernel
theorem dX12_init_68 : decode cX12_init 68 = .ok (.lastore, 1) := by decide +kernel
theorem dX12_init_69 : decode cX12_init 69 = .ok (.dup, 1) := by decide +kernel
theorem dX12_init_70 : decode cX12_init 70 = .ok (.iconst 4, 1) := by decide +kernel
theorem dX12_init_71 : decode cX12_init 71 = .ok (.ldc2_w 42, 3) := by decide +kernel
theorem dX12_init_74 : decode cX12_init 74 = .ok (.lastore, 1) := by decide +kernel
theorem dX12_init_75 : decode cX12_init 75 = .ok (.dup, 1) := by decide +kernel
theorem dX12_init_76 : decode cX12_init 76 = .ok (.iconst 5, 1) := by decide +kernel
theorem dX12_init_77 : decode cX12_init 77 = .ok (.ldc2_w 44, 3) := by decide +kernel
theorem dX12_init_80 : decode cX12_init 80 = .ok (.lastore, 1) := by decide +kernel
theorem dX12_init_81 : decode cX12_init 81 = .ok (.dup, 1) := by decide +kernel
theorem dX12_init_82 : decode cX12_init 82 = .ok (.bipush 6, 2) := by decide +kernel
theorem dX12_init_84 : decode cX12_init 84 = .ok (.ldc2_w 46, 3) := by decide +kernel
theorem dX12_init_87 : decode cX12_init 87 = .ok (.lastore, 1) := by decide +kernel
theorem dX12_init_88 : decode cX12_init 88 = .ok (.dup, 1) := by decide +kernel
theorem dX12_init_89 : decode cX12_init 89 = .ok (.bipush 7, 2) := by decide +kernel
theorem dX12_init_91 : decode cX12_init 91 = .ok (.ldc2_w 48, 3) := by decide +kernel
theorem dX12_init_94 : decode cX12_init 94 = .ok (.lastore, 1) := by decide +kernel
theorem dX12_init_95 : decode cX12_init 95 = .ok (.putfield 50, 3) := by decide +kernel
theorem dX12_init_98 : decode cX12_init 98 = .ok (.aload_n 0, 1) := by decide +kernel
theorem dX12_init_99 : decode cX12_init 99 = .ok (.sipush 1100, 3) := by decide +kernel
theorem dX12_init_102 : decode cX12_init 102 = .ok (.newarray .int, 2) := by decide +kernel
theorem dX12_init_104 : decode cX12_init 104 = .ok (.putfield 53, 3) := by decide +kernel
theorem dX12_init_107 : decode cX12_init 107 = .ok (.aload_n 0, 1) := by decide +kernel
theorem dX12_init_108 : decode cX12_init 108 = .ok (.sipush 1100, 3) := by decide +kernel
theorem dX12_init_111 : decode cX12_init 111 = .ok (.newarray .int, 2) := by decide +kernel
theorem dX12_init_113 : decode cX12_init 113 = .ok (.putfield 56, 3) := by decide +kernel
theorem dX12_init_116 : decode cX12_init 116 = .ok (.aload_n 0, 1) := by decide +kernel
theorem dX12_init_117 : decode cX12_init 117 = .ok (.sipush 1100, 3) := by decide +kernel
theorem dX12_init_120 : decode cX12_init 120 = .ok (.newarray .int, 2) := by decide +kernel
theorem dX12_init_122 : decode cX12_init 122 = .ok (.putfield 59, 3) := by decide +kernel
theorem dX12_init_125 : decode cX12_init 125 = .ok (.aload_n 0, 1) := by decide +kernel
theorem dX12_init_126 : decode cX12_init 126 = .ok (.sipush 1100, 3) := by decide +kernel
theorem dX12_init_129 : decode cX12_init 129 = .ok (.newarray .int, 2) := by decide +kernel
theorem dX12_init_131 : decode cX12_init 131 = .ok (.putfield 62, 3) := by decide +kernel
theorem dX12_init_134 : decode cX12_init 134 = .ok (.aload_n 0, 1) := by decide +kernel
theorem dX12_init_135 : decode cX12_init 135 = .ok (.sipush 4100, 3) := by decide +kernel
theorem dX12_init_138 : decode cX12_init 138 = .ok (.newarray .int, 2) := by decide +kernel
theorem dX12_init_140 : decode cX12_init 140 = .ok (.putfield 65, 3) := by decide +kernel
theorem dX12_init_143 : decode cX12_init 143 = .ok (.aload_n 0, 1) := by decide +kernel
theorem dX12_init_144 : decode cX12_init 144 = .ok (.sipush 4100, 3) := by decide +kernel
theorem dX12_init_147 : decode cX12_init 147 = .ok (.newarray .int, 2) := by decide +kernel
theorem dX12_init_149 : decode cX12_init 149 = .ok (.putfield 68, 3) := by decide +kernel
theorem dX12_init_152 : decode cX12_init 152 = .ok (.aload_n 0, 1) := by decide +kernel
theorem dX12_init_153 : decode cX12_init 153 = .ok (.sipush 208, 3) := by decide +kernel
theorem dX12_init_156 : decode cX12_init 156 = .ok (.newarray .int, 2) := by decide +kernel
theorem dX12_init_158 : decode cX12_init 158 = .ok (.putfield 71, 3) := by decide +kernel
theorem dX12_init_161 : decode cX12_init 161 = .ok (.aload_n 0, 1) := by decide +kernel
theorem dX12_init_162 : decode cX12_init 162 = .ok (.sipush 204, 3) := by decide +kernel
theorem dX12_init_165 : decode cX12_init 165 = .ok (.newarray .int, 2) := by decide +kernel
theorem dX12_init_167 : decode cX12_init 167 = .ok (.putfield 74, 3) := by decide +kernel
theorem dX12_init_170 : decode cX12_init 170 = .ok (.aload_n 0, 1) := by decide +kernel
theorem dX12_init_171 : decode cX12_init 171 = .ok (.sipush 221, 3) := by decide +kernel
theorem dX12_init_174 : decode cX12_init 174 = .ok (.newarray .int, 2) := by decide +kernel
theorem dX12_init_176 : decode cX12_init 176 = .ok (.putfield 77, 3) := by decide +kernel
theorem dX12_init_179 : decode cX12_init 179 = .ok (.aload_n 0, 1) := by decide +kernel
theorem dX12_init_180 : decode cX12_init 180 = .ok (.sipush 412, 3) := by decide +kernel
theorem dX12_init_183 : decode cX12_init 183 = .ok (.newarray .boolean, 2) := by decide +kernel
theorem dX12_init_185 : decode cX12_init 185 = .ok (.putfield 80, 3) := by decide +kernel
theorem dX12_init_188 : decode cX12_init 188 = .ok (.aload_n 0, 1) := by decide +kernel
theorem dX12_init_189 : decode cX12_init 189 = .ok (.sipush 192, 3) := by decide +kernel
theorem dX12_init_192 : decode cX12_init 192 = .ok (.newarray .int, 2) := by decide +kernel
theorem dX12_init_194 : decode cX12_init 194 = .ok (.putfield 84, 3) := by decide +kernel
theorem dX12_init_197 : decode cX12_init 197 = .ok (.aload_n 0, 1) := by decide +kernel
theorem dX12_init_198 : decode cX12_init 198 = .ok (.sipush 192, 3) := by decide +kernel
theorem dX12_init_201 : decode cX12_init 201 = .ok (.newarray .int, 2) := by decide +kernel
theorem dX12_init_203 : decode cX12_init 203 = .ok (.putfield 87, 3) := by decide +kernel
theorem dX12_init_206 : decode cX12_init 206 = .ok (.aload_n 0, 1) := by decide +kernel
theorem dX12_init_207 : decode cX12_init 207 = .ok (.bipush 24, 2) := by decide +kernel
theorem dX12_init_209 : decode cX12_init 209 = .ok (.newarray .int, 2) := by decide +kernel
theorem dX12_init_211 : decode cX12_init 211 = .ok (.putfield 90, 3) := by decide +kernel
theorem dX12_init_214 : decode cX12_init 214 = .ok (.aload_n 0, 1) := by decide +kernel
theorem dX12_init_215 : decode cX12_init 215 = .ok (.sipush 4608, 3) := by decide +kernel
theorem dX12_init_218 : decode cX12_init 218 = .ok (.newarray .int, 2) := by decide +kernel
theorem dX12_init_220 : decode cX12_init 220 = .ok (.putfield 93, 3) := by decide +kernel
theorem dX12_init_223 : decode cX12_init 223 = .ok (.aload_n 0, 1) := by decide +kernel
theorem dX12_init_224 : decode cX12_init 224 = .ok (.bipush 24, 2) := by decide +kernel
theorem dX12_init_226 : decode cX12_init 226 = .ok (.newarray .int, 2) := by decide +kernel
theorem dX12_init_228 : decode cX12_init 228 = .ok (.putfield 96, 3) := by decide +kernel
theorem dX12_init_231 : decode cX12_init 231 = .ok (.aload_n 0, 1) := by decide +kernel
theorem dX12_init_232 : decode cX12_init 232 = .ok (.bipush 24, 2) := by decide +kernel
theorem dX12_init_234 : decode cX12_init 234 = .ok (.newarray .int, 2) := by decide +kernel
theorem dX12_init_236 : decode cX12_init 236 = .ok (.putfield 99, 3) := by decide +kernel
theorem dX12_init_239 : decode cX12_init 239 = .ok (.aload_n 0, 1) := by decide +kernel
theorem dX12_init_240 : decode cX12_init 240 = .ok (.bipush 84, 2) := by decide +kernel
theorem dX12_init_242 : decode cX12_init 242 = .ok (.newarray .int, 2) := by decide +kernel
theorem dX12_init_244 : decode cX12_init 244 = .ok (.putfield 102, 3) := by decide +kernel
theorem dX12_init_247 : decode cX12_init 247 = .ok (.aload_n 0, 1) := by decide +kernel
theorem dX12_init_248 : decode cX12_init 248 = .ok (.bipush 84, 2) := by decide +kernel
theorem dX12_init_250 : decode cX12_init 250 = .ok (.newarray .int, 2) := by decide +kernel
theorem dX12_init_252 : decode cX12_init 252 = .ok (.putfield 105, 3) := by decide +kernel
theorem dX12_init_255 : decode cX12_init 255 = .ok (.aload_n 0, 1) := by decide +kernel
theorem dX12_init_256 : decode cX12_init 256 = .ok (.sipush 192, 3) := by decide +kernel
theorem dX12_init_259 : decode cX12_init 259 = .ok (.newarray .int, 2) := by decide +kernel
theorem dX12_init_261 : decode cX12_init 261 = .ok (.putfield 108, 3) := by decide +kernel
theorem dX12_init_264 : decode cX12_init 264 = .ok (.aload_n 0, 1) := by decide +kernel
theorem dX12_init_265 : decode cX12_init 265 = .ok (.sipush 192, 3) := by decide +kernel
theorem dX12_init_268 : decode cX12_init 268 = .ok (.newarray .int, 2) := by decide +kernel
theorem dX12_init_270 : decode cX12_init 270 = .ok (.putfield 111, 3) := by decide +kernel
theorem dX12_init_273 : decode cX12_init 273 = .ok (.aload_n 0, 1) := by decide +kernel
theorem dX12_init_274 : decode cX12_init 274 = .ok (.sipush 192, 3) := by decide +kernel
theorem dX12_init_277 : decode cX12_init 277 = .ok (.newarray .int, 2) := by decide +kernel
theorem dX12_init_279 : decode cX12_init 279 = .ok (.putfield 114, 3) := by decide +kernel
theorem dX12_init_282 : decode cX12_init 282 = .ok (.aload_n 0, 1) := by decide +kernel
theorem dX12_init_283 : decode cX12_init 283 = .ok (.sipush 192, 3) := by decide +kernel
theorem dX12_init_286 : decode cX12_init 286 = .ok (.newarray .int, 2) := by decide +kernel
theorem dX12_init_288 : decode cX12_init 288 = .ok (.putfield 117, 3) := by decide +kernel
theorem dX12_init_291 : decode cX12_init 291 = .ok (.aload_n 0, 1) := by decide +kernel
theorem dX12_init_292 : decode cX12_init 292 = .ok (.bipush 60, 2) := by decide +kernel
theorem dX12_init_294 : decode cX12_init 294 = .ok (.newarray .int, 2) := by decide +kernel
theorem dX12_init_296 : decode cX12_init 296 = .ok (.putfield 120, 3) := by decide +kernel
theorem dX12_init_299 : decode cX12_init 299 = .ok (.aload_n 0, 1) := by decide +kernel
theorem dX12_init_300 : decode cX12_init 300 = .ok (.bipush 60, 2) := by decide +kernel
theorem dX12_init_302 : decode cX12_init 302 = .ok (.newarray .int, 2) := by decide +kernel
theorem dX12_init_304 : decode cX12_init 304 = .ok (.putfield 123, 3) := by decide +kernel
theorem dX12_init_307 : decode cX12_init 307 = .ok (.aload_n 0, 1) := by decide +kernel
theorem dX12_init_308 : decode cX12_init 308 = .ok (.bipush 60, 2) := by decide +kernel
theorem dX12_init_310 : decode cX12_init 310 = .ok (.newarray .int, 2) := by decide +kernel
theorem dX12_init_312 : decode cX12_init 312 = .ok (.putfield 126, 3) := by decide +kernel
theorem dX12_init_315 : decode cX12_init 315 = .ok (.aload_n 0, 1) := by decide +kernel
theorem dX12_init_316 : decode cX12_init 316 = .ok (.bipush 60, 2) := by decide +kernel
theorem dX12_init_318 : decode cX12_init 318 = .ok (.newarray .int, 2) := by decide +kernel
theorem dX12_init_320 : decode cX12_init 320 = .ok (.putfield 129, 3) := by decide +kernel
theorem dX12_init_323 : decode cX12_init 323 = .ok (.aload_n 0, 1) := by decide +kernel
theorem dX12_init_324 : decode cX12_init 324 = .ok (.sipush 192, 3) := by decide +kernel
theorem dX12_init_327 : decode cX12_init 327 = .ok (.newarray .int, 2) := by decide +kernel
theorem dX12_init_329 : decode cX12_init 329 = .ok (.putfield 132, 3) := by decide +kernel
theorem dX12_init_332 : decode cX12_init 332 = .ok (.aload_n 0, 1) := by decide +kernel
theorem dX12_init_333 : decode cX12_init 333 = .ok (.sipush 576, 3) := by decide +kernel
theorem dX12_init_336 : decode cX12_init 336 = .ok (.newarray .int, 2) := by decide +kernel
theorem dX12_init_338 : decode cX12_init 338 = .ok (.putfield 135, 3) := by decide +kernel
theorem dX12_init_341 : decode cX12_init 341 = .ok (.aload_n 0, 1) := by decide +kernel
theorem dX12_init_342 : decode cX12_init 342 = .ok (.sipush 192, 3) := by decide +kernel
theorem dX12_init_345 : decode cX12_init 345 = .ok (.newarray .int, 2) := by decide +kernel
theorem dX12_init_347 : decode cX12_init 347 = .ok (.putfield 138, 3) := by decide +kernel
theorem dX12_init_350 : decode cX12_init 350 = .ok (.aload_n 0, 1) := by decide +kernel
theorem dX12_init_351 : decode cX12_init 351 = .ok (.iconst 3, 1) := by decide +kernel
theorem dX12_init_352 : decode cX12_init 352 = .ok (.newarray .int, 2) := by decide +kernel
theorem dX12_init_354 : decode cX12_init 354 = .ok (.putfield 141, 3) := by decide +kernel
theorem dX12_init_357 : decode cX12_init 357 = .ok (.aload_n 0, 1) := by decide +kernel
theorem dX12_init_358 : decode cX12_init 358 = .ok (.iconst 3, 1) := by decide +kernel
theorem dX12_init_359 : decode cX12_init 359 = .ok (.newarray .int, 2) := by decide +kernel
theorem dX12_init_361 : decode cX12_init 361 = .ok (.putfield 144, 3) := by decide +kernel
theorem dX12_init_364 : decode cX12_init 364 = .ok (.aload_n 0, 1) := by decide +kernel
theorem dX12_init_365 : decode cX12_init 365 = .ok (.bipush 60, 2) := by decide +kernel
theorem dX12_init_367 : decode cX12_init 367 = .ok (.newarray .int, 2) := by decide +kernel
theorem dX12_init_369 : decode cX12_init 369 = .ok (.putfield 147, 3) := by decide +kernel
theorem dX12_init_372 : decode cX12_init 372 = .ok (.aload_n 0, 1) := by decide +kernel
theorem dX12_init_373 : decode cX12_init 373 = .ok (.iconst 3, 1) := by decide +kernel
theorem dX12_init_374 : decode cX12_init 374 = .ok (.newarray .int, 2) := by decide +kernel
theorem dX12_init_376 : decode cX12_init 376 = .ok (.putfield 150, 3) := by decide +kernel
theorem dX12_init_379 : decode cX12_init 379 = .ok (.aload_n 0, 1) := by decide +kernel
theorem dX12_init_380 : decode cX12_init 380 = .ok (.bipush 8, 2) := by decide +kernel
theorem dX12_init_382 : decode cX12_init 382 = .ok (.newarray .int, 2) := by decide +kernel
theorem dX12_init_384 : decode cX12_init 384 = .ok (.putfield 153, 3) := by decide +kernel
theorem dX12_init_387 : decode cX12_init 387 = .ok (.aload_n 0, 1) := by decide +kernel
theorem dX12_init_388 : decode cX12_init 388 = .ok (.bipush 8, 2) := by decide +kernel
theorem dX12_init_390 : decode cX12_init 390 = .ok (.newarray .int, 2) := by decide +kernel
theorem dX12_init_392 : decode cX12_init 392 = .ok (.putfield 156, 3) := by decide +kernel
theorem dX12_init_395 : decode cX12_init 395 = .ok (.aload_n 0, 1) := by decide +kernel
theorem dX12_init_396 : decode cX12_init 396 = .ok (.bipush 8, 2) := by decide +kernel
theorem dX12_init_398 : decode cX12_init 398 = .ok (.newarray .int, 2) := by decide +kernel
theorem dX12_init_400 : decode cX12_init 400 = .ok (.putfield 159, 3) := by decide +kernel
theorem dX12_init_403 : decode cX12_init 403 = .ok (.aload_n 0, 1) := by decide +kernel
theorem dX12_init_404 : decode cX12_init 404 = .ok (.iconst 3, 1) := by decide +kernel
theorem dX12_init_405 : decode cX12_init 405 = .ok (.newarray .int, 2) := by decide +kernel
theorem dX12_init_407 : decode cX12_init 407 = .ok (.putfield 162, 3) := by decide +kernel
theorem dX12_init_410 : decode cX12_init 410 = .ok (.iconst 0, 1) := by decide +kernel
theorem dX12_init_411 : decode cX12_init 411 = .ok (.istore_n 1, 1) := by decide +kernel
theorem dX12_init_412 : decode cX12_init 412 = .ok (.iload_n 1, 1) := by decide +kernel
theorem dX12_init_413 : decode cX12_init 413 = .ok (.sipush 192, 3) := by decide +kernel
theorem dX12_init_416 : decode cX12_init 416 = .ok (.if_icmp .ge 24, 3) := by decide +kernel
theorem dX12_init_419 : decode cX12_init 419 = .ok (.aload_n 0, 1) := by decide +kernel
theorem dX12_init_420 : decode cX12_init 420 = .ok (.getfield 84, 3) := by decide +kernel
theorem dX12_init_423 : decode cX12_init 423 = .ok (.iload_n 1, 1) := by decide +kernel
theorem dX12_init_424 : decode cX12_init 424 = .ok (.bipush 10, 2) := by decide +kernel
theorem dX12_init_426 : decode cX12_init 426 = .ok (.iastore, 1) := by decide +kernel
theorem dX12_init_427 : decode cX12_init 427 = .ok (.aload_n 0, 1) := by decide +kernel
theorem dX12_init_428 : decode cX12_init 428 = .ok (.getfield 87, 3) := by decide +kernel
theorem dX12_init_431 : decode cX12_init 431 = .ok (.iload_n 1, 1) := by decide +kernel
theorem dX12_init_432 : decode cX12_init 432 = .ok (.iconst (-1), 1) := by decide +kernel
theorem dX12_init_433 : decode cX12_init 433 = .ok (.iastore, 1) := by decide +kernel
theorem dX12_init_434 : decode cX12_init 434 = .ok (.iinc 1 1, 3) := by decide +kernel
theorem dX12_init_437 : decode cX12_init 437 = .ok (.goto (-25), 3) := by decide +kernel
theorem dX12_init_440 : decode cX12_init 440 = .ok (.aload_n 0, 1) := by decide +kernel
theorem dX12_init_441 : decode cX12_init 441 = .ok (.sipush 200, 3) := by decide +kernel
theorem dX12_init_444 : decode cX12_init 444 = .ok (.putfield 165, 3) := by decide +kernel
theorem dX12_init_447 : decode cX12_init 447 = .ok (.aload_n 0, 1) := by decide +kernel
theorem dX12_init_448 : decode cX12_init 448 = .ok (.getfield 150, 3) := by decide +kernel
theorem dX12_init_451 : decode cX12_init 451 = .ok (.iconst 0, 1) := by decide +kernel
theorem dX12_init_452 : decode cX12_init 452 = .ok (.iconst 1, 1) := by decide +kernel
theorem dX12_init_453 : decode cX12_init 453 = .ok (.iastore, 1) := by decide +kernel
theorem dX12_init_454 : decode cX12_init 454 = .ok (.return_, 1) := by decide +kernel
theorem dX12_isLetter_0 : decode cX12_isLetter 0 = .ok (.iload_n 0, 1) := by decide +kernel
theorem dX12_isLetter_1 : decode cX12_isLetter 1 = .ok (.bipush 97, 2) := by decide +kernel
theorem dX12_isLetter_3 : decode cX12_isLetter 3 = .ok (.if_icmp .lt 13, 3) := by decide +kernel
theorem dX12_isLetter_6 : decode cX12_isLetter 6 = .ok (.iload_n 0, 1) := by decide +kernel
theorem dX12_isLetter_7 : decode cX12_isLetter 7 = .ok (.bipush 122, 2) := by decide +kernel
theorem dX12_isLetter_9 : decode cX12_isLetter 9 = .ok (.if_icmp .gt 7, 3) := by decide +kernel
theorem dX12_isLetter_12 : decode cX12_isLetter 12 = .ok (.iconst 1, 1) := by decide +kernel
theorem dX12_isLetter_13 : decode cX12_isLetter 13 = .ok (.goto 4, 3) := by decide +kernel
theorem dX12_isLetter_16 : decode cX12_isLetter 16 = .ok (.iconst 0, 1) := by decide +kernel
theorem dX12_isLetter_17 : decode cX12_isLetter 17 = .ok (.ireturn, 1) := by decide +kernel
theorem dX12_isDigit_0 : decode cX12_isDigit 0 = .ok (.iload_n 0, 1) := by decide +kernel
theorem dX12_isDigit_1 : decode cX12_isDigit 1 = .ok (.bipush 48, 2) := by decide +kernel
theorem dX12_isDigit_3 : decode cX12_isDigit 3 = .ok (.if_icmp .lt 13, 3) := by decide +kernel
theorem dX12_isDigit_6 : decode cX12_isDigit 6 = .ok (.iload_n 0, 1) := by decide +kernel
theorem dX12_isDigit_7 : decode cX12_isDigit 7 = .ok (.bipush 57, 2) := by decide +kernel
theorem dX12_isDigit_9 : decode cX12_isDigit 9 = .ok (.if_icmp .gt 7, 3) := by decide +kernel
theorem dX12_isDigit_12 : decode cX12_isDigit 12 = .ok (.iconst 1, 1) := by decide +kernel
theorem dX12_isDigit_13 : decode cX12_isDigit 13 = .ok (.goto 4, 3) := by decide +kernel
theorem dX12_isDigit_16 : decode cX12_isDigit 16 = .ok (.iconst 0, 1) := by decide +kernel
theorem dX12_isDigit_17 : decode cX12_isDigit 17 = .ok (.ireturn, 1) := by decide +kernel
theorem dX12_rank_0 : decode cX12_rank 0 = .ok (.iload_n 0, 1) := by decide +kernel
theorem dX12_rank_1 : decode cX12_rank 1 = .ok (.invokestatic 168, 3) := by decide +kernel
theorem dX12_rank_4 : decode cX12_rank 4 = .ok (.ifCond .eq 10, 3) := by decide +kernel
theorem dX12_rank_7 : decode cX12_rank 7 = .ok (.iload_n 0, 1) := by decide +kernel
theorem dX12_rank_8 : decode cX12_rank 8 = .ok (.bipush 96, 2) := by decide +kernel
theorem dX12_rank_10 : decode cX12_rank 10 = .ok (.isub, 1) := by decide +kernel
theorem dX12_rank_11 : decode cX12_rank 11 = .ok (.goto 7, 3) := by decide +kernel
theorem dX12_rank_14 : decode cX12_rank 14 = .ok (.iload_n 0, 1) := by decide +kernel
theorem dX12_rank_15 : decode cX12_rank 15 = .ok (.bipush 21, 2) := by decide +kernel
theorem dX12_rank_17 : decode cX12_rank 17 = .ok (.isub, 1) := by decide +kernel
theorem dX12_rank_18 : decode cX12_rank 18 = .ok (.ireturn, 1) := by decide +kernel
theorem dX12_isSignOf_0 : decode cX12_isSignOf 0 = .ok (.iload_n 0, 1) := by decide +kernel
theorem dX12_isSignOf_1 : decode cX12_isSignOf 1 = .ok (.bipush 40, 2) := by decide +kernel
theorem dX12_isSignOf_3 : decode cX12_isSignOf 3 = .ok (.if_icmp .eq 15, 3) := by decide +kernel
theorem dX12_isSignOf_6 : decode cX12_isSignOf 6 = .ok (.iload_n 0, 1) := by decide +kernel
theorem dX12_isSignOf_7 : decode cX12_isSignOf 7 = .ok (.bipush 41, 2) := by decide +kernel
theorem dX12_isSignOf_9 : decode cX12_isSignOf 9 = .ok (.if_icmp .eq 9, 3) := by decide +kernel
theorem dX12_isSignOf_12 : decode cX12_isSignOf 12 = .ok (.iload_n 0, 1) := by decide +kernel
theorem dX12_isSignOf_13 : decode cX12_isSignOf 13 = .ok (.bipush 59, 2) := by decide +kernel
theorem dX12_isSignOf_15 : decode cX12_isSignOf 15 = .ok (.if_icmp .ne 7, 3) := by decide +kernel
theorem dX12_isSignOf_18 : decode cX12_isSignOf 18 = .ok (.iconst 1, 1) := by decide +kernel
theorem dX12_isSignOf_19 : decode cX12_isSignOf 19 = .ok (.goto 4, 3) := by decide +kernel
theorem dX12_isSignOf_22 : decode cX12_isSignOf 22 = .ok (.iconst 0, 1) := by decide +kernel
theorem dX12_isSignOf_23 : decode cX12_isSignOf 23 = .ok (.ireturn, 1) := by decide +kernel
theorem dX12_cutAll_0 : decode cX12_cutAll 0 = .ok (.aload_n 0, 1) := by decide +kernel
theorem dX12_cutAll_1 : decode cX12_cutAll 1 = .ok (.aload_n 0, 1) := by decide +kernel
theorem dX12_cutAll_2 : decode cX12_cutAll 2 = .ok (.getfield 11, 3) := by decide +kernel
theorem dX12_cutAll_5 : decode cX12_cutAll 5 = .ok (.putfield 172, 3) := by decide +kernel
theorem dX12_cutAll_8 : decode cX12_cutAll 8 = .ok (.aload_n 0, 1) := by decide +kernel
theorem dX12_cutAll_9 : decode cX12_cutAll 9 = .ok (.iconst 0, 1) := by decide +kernel
theorem dX12_cutAll_10 : decode cX12_cutAll 10 = .ok (.putfield 11, 3) := by decide +kernel
theorem dX12_cutAll_13 : decode cX12_cutAll 13 = .ok (.iconst 0, 1) := by decide +kernel
theorem dX12_cutAll_14 : decode cX12_cutAll 14 = .ok (.istore_n 1, 1) := by decide +kernel
theorem dX12_cutAll_15 : decode cX12_cutAll 15 = .ok (.iconst 0, 1) := by decide +kernel
theorem dX12_cutAll_16 : decode cX12_cutAll 16 = .ok (.istore_n 2, 1) := by decide +kernel
theorem dX12_cutAll_17 : decode cX12_cutAll 17 = .ok (.iload_n 2, 1) := by decide +kernel
theorem dX12_cutAll_18 : decode cX12_cutAll 18 = .ok (.aload_n 0, 1) := by decide +kernel
theorem dX12_cutAll_19 : decode cX12_cutAll 19 = .ok (.getfield 172, 3) := by decide +kernel
theorem dX12_cutAll_22 : decode cX12_cutAll 22 = .ok (.if_icmp .ge 257, 3) := by decide +kernel
theorem dX12_cutAll_25 : decode cX12_cutAll 25 = .ok (.aload_n 0, 1) := by decide +kernel
theorem dX12_cutAll_26 : decode cX12_cutAll 26 = .ok (.getfield 14, 3) := by decide +kernel
theorem dX12_cutAll_29 : decode cX12_cutAll 29 = .ok (.iload_n 2, 1) := by decide +kernel
theorem dX12_cutAll_30 : decode cX12_cutAll 30 = .ok (.iaload, 1) := by decide +kernel
theorem dX12_cutAll_31 : decode cX12_cutAll 31 = .ok (.istore_n 3, 1) := by decide +kernel
theorem dX12_cutAll_32 : decode cX12_cutAll 32 = .ok (.iload_n 3, 1) := by decide +kernel
theorem dX12_cutAll_33 : decode cX12_cutAll 33 = .ok (.bipush 10, 2) := by decide +kernel
theorem dX12_cutAll_35 : decode cX12_cutAll 35 = .ok (.if_icmp .eq 9, 3) := by decide +kernel
theorem dX12_cutAll_38 : decode cX12_cutAll 38 = .ok (.iload_n 3, 1) := by decide +kernel
theorem dX12_cutAll_39 : decode cX12_cutAll 39 = .ok (.bipush 32, 2) := by decide +kernel
theorem dX12_cutAll_41 : decode cX12_cutAll 41 = .ok (.if_icmp .ne 9, 3) := by decide +kernel
theorem dX12_cutAll_44 : decode cX12_cutAll 44 = .ok (.iinc 2 1, 3) := by decide +kernel
theorem dX12_cutAll_47 : decode cX12_cutAll 47 = .ok (.goto (-30), 3) := by decide +kernel
theorem dX12_cutAll_50 : decode cX12_cutAll 50 = .ok (.iload_n 2, 1) := by decide +kernel
theorem dX12_cutAll_51 : decode cX12_cutAll 51 = .ok (.istore 4, 2) := by decide +kernel
theorem dX12_cutAll_53 : decode cX12_cutAll 53 = .ok (.lconst 0, 1) := by decide +kernel
theorem dX12_cutAll_54 : decode cX12_cutAll 54 = .ok (.lstore 5, 2) := by decide +kernel
theorem dX12_cutAll_56 : decode cX12_cutAll 56 = .ok (.aload_n 0, 1) := by decide +kernel
theorem dX12_cutAll_57 : decode cX12_cutAll 57 = .ok (.getfield 27, 3) := by decide +kernel
theorem dX12_cutAll_60 : decode cX12_cutAll 60 = .ok (.iload_n 1, 1) := by decide +kernel
theorem dX12_cutAll_61 : decode cX12_cutAll 61 = .ok (.iload_n 2, 1) := by decide +kernel
theorem dX12_cutAll_62 : decode cX12_cutAll 62 = .ok (.iastore, 1) := by decide +kernel
theorem dX12_cutAll_63 : decode cX12_cutAll 63 = .ok (.iload_n 3, 1) := by decide +kernel
theorem dX12_cutAll_64 : decode cX12_cutAll 64 = .ok (.invokestatic 168, 3) := by decide +kernel
theorem dX12_cutAll_67 : decode cX12_cutAll 67 = .ok (.ifCond .eq 85, 3) := by decide +kernel
theorem dX12_cutAll_70 : decode cX12_cutAll 70 = .ok (.iload_n 2, 1) := by decide +kernel
theorem dX12_cutAll_71 : decode cX12_cutAll 71 = .ok (.aload_n 0, 1) := by decide +kernel
theorem dX12_cutAll_72 : decode cX12_cutAll 72 = .ok (.getfield 172, 3) := by decide +kernel
theorem dX12_cutAll_75 : decode cX12_cutAll 75 = .ok (.if_icmp .ge 54, 3) := by decide +kernel
theorem dX12_cutAll_78 : decode cX12_cutAll 78 = .ok (.aload_n 0, 1) := by decide +kernel
theorem dX12_cutAll_79 : decode cX12_cutAll 79 = .ok (.getfield 14, 3) := by decide +kernel
theorem dX12_cutAll_82 : decode cX12_cutAll 82 = .ok (.iload_n 2, 1) := by decide +kernel
theorem dX12_cutAll_83 : decode cX12_cutAll 83 = .ok (.iaload, 1) := by decide +kernel
theorem dX12_cutAll_84 : decode cX12_cutAll 84 = .ok (.invokestatic 168, 3) := by decide +kernel
theorem dX12_cutAll_87 : decode cX12_cutAll 87 = .ok (.ifCond .eq 42, 3) := by decide +kernel
theorem dX12_cutAll_90 : decode cX12_cutAll 90 = .ok (.iload_n 2, 1) := by decide +kernel
theorem dX12_cutAll_91 : decode cX12_cutAll 91 = .ok (.iload 4, 2) := by decide +kernel
theorem dX12_cutAll_93 : decode cX12_cutAll 93 = .ok (.isub, 1) := by decide +kernel
theorem dX12_cutAll_94 : decode cX12_cutAll 94 = .ok (.bipush 8, 2) := by decide +kernel
theorem dX12_cutAll_96 : decode cX12_cutAll 96 = .ok (.if_icmp .ge 23, 3) := by decide +kernel
theorem dX12_cutAll_99 : decode cX12_cutAll 99 = .ok (.ldc2_w 175, 3) := by decide +kernel
theorem dX12_cutAll_102 : decode cX12_cutAll 102 = .ok (.lload 5, 2) := by decide +kernel
theorem dX12_cutAll_104 : decode cX12_cutAll 104 = .ok (.lmul, 1) := by decide +kernel
theorem dX12_cutAll_105 : decode cX12_cutAll 105 = .ok (.aload_n 0, 1) := by decide +kernel
theorem dX12_cutAll_106 : decode cX12_cutAll 106 = .ok (.getfield 14, 3) := by decide +kernel
theorem dX12_cutAll_109 : decode cX12_cutAll 109 = .ok (.iload_n 2, 1) := by decide +kernel
theorem dX12_cutAll_110 : decode cX12_cutAll 110 = .ok (.iaload, 1) := by decide +kernel
theorem dX12_cutAll_111 : decode cX12_cutAll 111 = .ok (.invokestatic 177, 3) := by decide +kernel
theorem dX12_cutAll_114 : decode cX12_cutAll 114 = .ok (.i2l, 1) := by decide +kernel
theorem dX12_cutAll_115 : decode cX12_cutAll 115 = .ok (.ladd, 1) := by decide +kernel
theorem dX12_cutAll_116 : decode cX12_cutAll 116 = .ok (.goto 5, 3) := by decide +kernel
theorem dX12_cutAll_119 : decode cX12_cutAll 119 = .ok (.lload 5, 2) := by decide +kernel
theorem dX12_cutAll_121 : decode cX12_cutAll 121 = .ok (.lstore 5, 2) := by decide +kernel
theorem dX12_cutAll_123 : decode cX12_cutAll 123 = .ok (.iinc 2 1, 3) := by decide +kernel
theorem dX12_cutAll_126 : decode cX12_cutAll 126 = .ok (.goto (-56), 3) := by decide +kernel
theorem dX12_cutAll_129 : decode cX12_cutAll 129 = .ok (.aload_n 0, 1) := by decide +kernel
theorem dX12_cutAll_130 : decode cX12_cutAll 130 = .ok (.getfield 24, 3) := by decide +kernel
theorem dX12_cutAll_133 : decode cX12_cutAll 133 = .ok (.iload_n 1, 1) := by decide +kernel
theorem dX12_cutAll_134 : decode cX12_cutAll 134 = .ok (.iload_n 2, 1) := by decide +kernel
theorem dX12_cutAll_135 : decode cX12_cutAll 135 = .ok (.iload 4, 2) := by decide +kernel
theorem dX12_cutAll_137 : decode cX12_cutAll 137 = .ok (.isub, 1) := by decide +kernel
theorem dX12_cutAll_138 : decode cX12_cutAll 138 = .ok (.bipush 8, 2) := by decide +kernel
theorem dX12_cutAll_140 : decode cX12_cutAll 140 = .ok (.if_icmp .le 7, 3) := by decide +kernel
theorem dX12_cutAll_143 : decode cX12_cutAll 143 = .ok (.iconst 4, 1) := by decide +kernel
theorem dX12_cutAll_144 : decode cX12_cutAll 144 = .ok (.goto 4, 3) := by decide +kernel
theorem dX12_cutAll_147 : decode cX12_cutAll 147 = .ok (.iconst 1, 1) := by decide +kernel
theorem dX12_cutAll_148 : decode cX12_cutAll 148 = .ok (.iastore, 1) := by decide +kernel
theorem dX12_cutAll_149 : decode cX12_cutAll 149 = .ok (.goto 116, 3) := by decide +kernel
theorem dX12_cutAll_152 : decode cX12_cutAll 152 = .ok (.iload_n 3, 1) := by decide +kernel
theorem dX12_cutAll_153 : decode cX12_cutAll 153 = .ok (.invokestatic 181, 3) := by decide +kernel
theorem dX12_cutAll_156 : decode cX12_cutAll 156 = .ok (.ifCond .eq 84, 3) := by decide +kernel
theorem dX12_cutAll_159 : decode cX12_cutAll 159 = .ok (.iload_n 2, 1) := by decide +kernel
theorem dX12_cutAll_160 : decode cX12_cutAll 160 = .ok (.aload_n 0, 1) := by decide +kernel
theorem dX12_cutAll_161 : decode cX12_cutAll 161 = .ok (.getfield 172, 3) := by decide +kernel
theorem dX12_cutAll_164 : decode cX12_cutAll 164 = .ok (.if_icmp .ge 54, 3) := by decide +kernel
theorem dX12_cutAll_167 : decode cX12_cutAll 167 = .ok (.aload_n 0, 1) := by decide +kernel
theorem dX12_cutAll_168 : decode cX12_cutAll 168 = .ok (.getfield 14, 3) := by decide +kernel
theorem dX12_cutAll_171 : decode cX12_cutAll 171 = .ok (.iload_n 2, 1) := by decide +kernel
theorem dX12_cutAll_172 : decode cX12_cutAll 172 = .ok (.iaload, 1) := by decide +kernel
theorem dX12_cutAll_173 : decode cX12_cutAll 173 = .ok (.invokestatic 181, 3) := by decide +kernel
theorem dX12_cutAll_176 : decode cX12_cutAll 176 = .ok (.ifCond .eq 42, 3) := by decide +kernel
theorem dX12_cutAll_179 : decode cX12_cutAll 179 = .ok (.iload_n 2, 1) := by decide +kernel
theorem dX12_cutAll_180 : decode cX12_cutAll 180 = .ok (.iload 4, 2) := by decide +kernel
theorem dX12_cutAll_182 : decode cX12_cutAll 182 = .ok (.isub, 1) := by decide +kernel
theorem dX12_cutAll_183 : decode cX12_cutAll 183 = .ok (.iconst 2, 1) := by decide +kernel
theorem dX12_cutAll_184 : decode cX12_cutAll 184 = .ok (.if_icmp .ge 24, 3) := by decide +kernel
theorem dX12_cutAll_187 : decode cX12_cutAll 187 = .ok (.ldc2_w 184, 3) := by decide +kernel
theorem dX12_cutAll_190 : decode cX12_cutAll 190 = .ok (.lload 5, 2) := by decide +kernel
theorem dX12_cutAll_192 : decode cX12_cutAll 192 = .ok (.lmul, 1) := by decide +kernel
theorem dX12_cutAll_193 : decode cX12_cutAll 193 = .ok (.aload_n 0, 1) := by decide +kernel
theorem dX12_cutAll_194 : decode cX12_cutAll 194 = .ok (.getfield 14, 3) := by decide +kernel
theorem dX12_cutAll_197 : decode cX12_cutAll 197 = .ok (.iload_n 2, 1) := by decide +kernel
theorem dX12_cutAll_198 : decode cX12_cutAll 198 = .ok (.iaload, 1) := by decide +kernel
theorem dX12_cutAll_199 : decode cX12_cutAll 199 = .ok (.i2l, 1) := by decide +kernel
theorem dX12_cutAll_200 : decode cX12_cutAll 200 = .ok (.ladd, 1) := by decide +kernel
theorem dX12_cutAll_201 : decode cX12_cutAll 201 = .ok (.ldc2_w 186, 3) := by decide +kernel
theorem dX12_cutAll_204 : decode cX12_cutAll 204 = .ok (.lsub, 1) := by decide +kernel
theorem dX12_cutAll_205 : decode cX12_cutAll 205 = .ok (.goto 5, 3) := by decide +kernel
theorem dX12_cutAll_208 : decode cX12_cutAll 208 = .ok (.lload 5, 2) := by decide +kernel
theorem dX12_cutAll_210 : decode cX12_cutAll 210 = .ok (.lstore 5, 2) := by decide +kernel
theorem dX12_cutAll_212 : decode cX12_cutAll 212 = .ok (.iinc 2 1, 3) := by decide +kernel
theorem dX12_cutAll_215 : decode cX12_cutAll 215 = .ok (.goto (-56), 3) := by decide +kernel
theorem dX12_cutAll_218 : decode cX12_cutAll 218 = .ok (.aload_n 0, 1) := by decide +kernel
theorem dX12_cutAll_219 : decode cX12_cutAll 219 = .ok (.getfield 24, 3) := by decide +kernel
theorem dX12_cutAll_222 : decode cX12_cutAll 222 = .ok (.iload_n 1, 1) := by decide +kernel
theorem dX12_cutAll_223 : decode cX12_cutAll 223 = .ok (.iload_n 2, 1) := by decide +kernel
theorem dX12_cutAll_224 : decode cX12_cutAll 224 = .ok (.iload 4, 2) := by decide +kernel
theorem dX12_cutAll_226 : decode cX12_cutAll 226 = .ok (.isub, 1) := by decide +kernel
theorem dX12_cutAll_227 : decode cX12_cutAll 227 = .ok (.iconst 2, 1) := by decide +kernel
theorem dX12_cutAll_228 : decode cX12_cutAll 228 = .ok (.if_icmp .le 7, 3) := by decide +kernel
theorem dX12_cutAll_231 : decode cX12_cutAll 231 = .ok (.iconst 4, 1) := by decide +kernel
theorem dX12_cutAll_232 : decode cX12_cutAll 232 = .ok (.goto 4, 3) := by decide +kernel
theorem dX12_cutAll_235 : decode cX12_cutAll 235 = .ok (.iconst 2, 1) := by decide +kernel
theorem dX12_cutAll_236 : decode cX12_cutAll 236 = .ok (.iastore, 1) := by decide +kernel
theorem dX12_cutAll_237 : decode cX12_cutAll 237 = .ok (.goto 28, 3) := by decide +kernel
theorem dX12_cutAll_240 : decode cX12_cutAll 240 = .ok (.iload_n 3, 1) := by decide +kernel
theorem dX12_cutAll_241 : decode cX12_cutAll 241 = .ok (.i2l, 1) := by decide +kernel
theorem dX12_cutAll_242 : decode cX12_cutAll 242 = .ok (.lstore 5, 2) := by decide +kernel
theorem dX12_cutAll_244 : decode cX12_cutAll 244 = .ok (.aload_n 0, 1) := by decide +kernel
theorem dX12_cutAll_245 : decode cX12_cutAll 245 = .ok (.getfield 24, 3) := by decide +kernel
theorem dX12_cutAll_248 : decode cX12_cutAll 248 = .ok (.iload_n 1, 1) := by decide +kernel
theorem dX12_cutAll_249 : decode cX12_cutAll 249 = .ok (.iload_n 3, 1) := by decide +kernel
theorem dX12_cutAll_250 : decode cX12_cutAll 250 = .ok (.invokestatic 188, 3) := by decide +kernel
theorem dX12_cutAll_253 : decode cX12_cutAll 253 = .ok (.ifCond .eq 7, 3) := by decide +kernel
theorem dX12_cutAll_256 : decode cX12_cutAll 256 = .ok (.iconst 3, 1) := by decide +kernel
theorem dX12_cutAll_257 : decode cX12_cutAll 257 = .ok (.goto 4, 3) := by decide +kernel
theorem dX12_cutAll_260 : decode cX12_cutAll 260 = .ok (.iconst 4, 1) := by decide +kernel
theorem dX12_cutAll_261 : decode cX12_cutAll 261 = .ok (.iastore, 1) := by decide +kernel
theorem dX12_cutAll_262 : decode cX12_cutAll 262 = .ok (.iinc 2 1, 3) := by decide +kernel
theorem dX12_cutAll_265 : decode cX12_cutAll 265 = .ok (.aload_n 0, 1) := by decide +kernel
theorem dX12_cutAll_266 : decode cX12_cutAll 266 = .ok (.getfield 30, 3) := by decide +kernel
theorem dX12_cutAll_269 : decode cX12_cutAll 269 = .ok (.iload_n 1, 1) := by decide +kernel
theorem dX12_cutAll_270 : decode cX12_cutAll 270 = .ok (.lload 5, 2) := by decide +kernel
theorem dX12_cutAll_272 : decode cX12_cutAll 272 = .ok (.lastore, 1) := by decide +kernel
theorem dX12_cutAll_273 : decode cX12_cutAll 273 = .ok (.iinc 1 1, 3) := by decide +kernel
theorem dX12_cutAll_276 : decode cX12_cutAll 276 = .ok (.goto (-259), 3) := by decide +kernel
theorem dX12_cutAll_279 : decode cX12_cutAll 279 = .ok (.aload_n 0, 1) := by decide +kernel
theorem dX12_cutAll_280 : decode cX12_cutAll 280 = .ok (.getfield 24, 3) := by decide +kernel
theorem dX12_cutAll_283 : decode cX12_cutAll 283 = .ok (.iload_n 1, 1) := by decide +kernel
theorem dX12_cutAll_284 : decode cX12_cutAll 284 = .ok (.iconst 0, 1) := by decide +kernel
theorem dX12_cutAll_285 : decode cX12_cutAll 285 = .ok (.iastore, 1) := by decide +kernel
theorem dX12_cutAll_286 : decode cX12_cutAll 286 = .ok (.aload_n 0, 1) := by decide +kernel
theorem dX12_cutAll_287 : decode cX12_cutAll 287 = .ok (.getfield 27, 3) := by decide +kernel
theorem dX12_cutAll_290 : decode cX12_cutAll 290 = .ok (.iload_n 1, 1) := by decide +kernel
theorem dX12_cutAll_291 : decode cX12_cutAll 291 = .ok (.aload_n 0, 1) := by decide +kernel
theorem dX12_cutAll_292 : decode cX12_cutAll 292 = .ok (.getfield 172, 3) := by decide +kernel
theorem dX12_cutAll_295 : decode cX12_cutAll 295 = .ok (.iastore, 1) := by decide +kernel
theorem dX12_cutAll_296 : decode cX12_cutAll 296 = .ok (.aload_n 0, 1) := by decide +kernel
theorem dX12_cutAll_297 : decode cX12_cutAll 297 = .ok (.iconst 0, 1) := by decide +kernel
theorem dX12_cutAll_298 : decode cX12_cutAll 298 = .ok (.putfield 191, 3) := by decide +kernel
theorem dX12_cutAll_301 : decode cX12_cutAll 301 = .ok (.aload_n 0, 1) := by decide +kernel
theorem dX12_cutAll_302 : decode cX12_cutAll 302 = .ok (.iconst 0, 1) := by decide +kernel
theorem dX12_cutAll_303 : decode cX12_cutAll 303 = .ok (.putfield 194, 3) := by decide +kernel
theorem dX12_cutAll_306 : decode cX12_cutAll 306 = .ok (.return_, 1) := by decide +kernel
theorem dX12_wrong_0 : decode cX12_wrong 0 = .ok (.aload_n 0, 1) := by decide +kernel
theorem dX12_wrong_1 : decode cX12_wrong 1 = .ok (.getfield 194, 3) := by decide +kernel
theorem dX12_wrong_4 : decode cX12_wrong 4 = .ok (.ifCond .ne 21, 3) := by decide +kernel
theorem dX12_wrong_7 : decode cX12_wrong 7 = .ok (.aload_n 0, 1) := by decide +kernel
theorem dX12_wrong_8 : decode cX12_wrong 8 = .ok (.iload_n 1, 1) := by decide +kernel
theorem dX12_wrong_9 : decode cX12_wrong 9 = .ok (.bipush 16, 2) := by decide +kernel
theorem dX12_wrong_11 : decode cX12_wrong 11 = .ok (.aload_n 0, 1) := by decide +kernel
theorem dX12_wrong_12 : decode cX12_wrong 12 = .ok (.getfield 27, 3) := by decide +kernel
theorem dX12_wrong_15 : decode cX12_wrong 15 = .ok (.aload_n 0, 1) := by decide +kernel
theorem dX12_wrong_16 : decode cX12_wrong 16 = .ok (.getfield 191, 3) := by decide +kernel
theorem dX12_wrong_19 : decode cX12_wrong 19 = .ok (.iaload, 1) := by decide +kernel
theorem dX12_wrong_20 : decode cX12_wrong 20 = .ok (.imul, 1) := by decide +kernel
theorem dX12_wrong_21 : decode cX12_wrong 21 = .ok (.iadd, 1) := by decide +kernel
theorem dX12_wrong_22 : decode cX12_wrong 22 = .ok (.putfield 194, 3) := by decide +kernel
theorem dX12_wrong_25 : decode cX12_wrong 25 = .ok (.return_, 1) := by decide +kernel
theorem dX12_isSign_0 : decode cX12_isSign 0 = .ok (.aload_n 0, 1) := by decide +kernel
theorem dX12_isSign_1 : decode cX12_isSign 1 = .ok (.getfield 194, 3) := by decide +kernel
theorem dX12_isSign_4 : decode cX12_isSign 4 = .ok (.ifCond .ne 35, 3) := by decide +kernel
theorem dX12_isSign_7 : decode cX12_isSign 7 = .ok (.aload_n 0, 1) := by decide +kernel
theorem dX12_isSign_8 : decode cX12_isSign 8 = .ok (.getfield 24, 3) := by decide +kernel
theorem dX12_isSign_11 : decode cX12_isSign 11 = .ok (.aload_n 0, 1) := by decide +kernel
theorem dX12_isSign_12 : decode cX12_isSign 12 = .ok (.getfield 191, 3) := by decide +kernel
theorem dX12_isSign_15 : decode cX12_isSign 15 = .ok (.iaload, 1) := by decide +kernel
theorem dX12_isSign_16 : decode cX12_isSign 16 = .ok (.iconst 3, 1) := by decide +kernel
theorem dX12_isSign_17 : decode cX12_isSign 17 = .ok (.if_icmp .ne 22, 3) := by decide +kernel
theorem dX12_isSign_20 : decode cX12_isSign 20 = .ok (.aload_n 0, 1) := by decide +kernel
theorem dX12_isSign_21 : decode cX12_isSign 21 = .ok (.getfield 30, 3) := by decide +kernel
theorem dX12_isSign_24 : decode cX12_isSign 24 = .ok (.aload_n 0, 1) := by decide +kernel
theorem dX12_isSign_25 : decode cX12_isSign 25 = .ok (.getfield 191, 3) := by decide +kernel
theorem dX12_isSign_28 : decode cX12_isSign 28 = .ok (.laload, 1) := by decide +kernel
theorem dX12_isSign_29 : decode cX12_isSign 29 = .ok (.iload_n 1, 1) := by decide +kernel
theorem dX12_isSign_30 : decode cX12_isSign 30 = .ok (.i2l, 1) := by decide +kernel
theorem dX12_isSign_31 : decode cX12_isSign 31 = .ok (.lcmp, 1) := by decide +kernel
theorem dX12_isSign_32 : decode cX12_isSign 32 = .ok (.ifCond .ne 7, 3) := by decide +kernel
theorem dX12_isSign_35 : decode cX12_isSign 35 = .ok (.iconst 1, 1) := by decide +kernel
theorem dX12_isSign_36 : decode cX12_isSign 36 = .ok (.goto 4, 3) := by decide +kernel
theorem dX12_isSign_39 : decode cX12_isSign 39 = .ok (.iconst 0, 1) := by decide +kernel
theorem dX12_isSign_40 : decode cX12_isSign 40 = .ok (.ireturn, 1) := by decide +kernel
theorem dX12_isWord_0 : decode cX12_isWord 0 = .ok (.aload_n 0, 1) := by decide +kernel
theorem dX12_isWord_1 : decode cX12_isWord 1 = .ok (.getfield 194, 3) := by decide +kernel
theorem dX12_isWord_4 : decode cX12_isWord 4 = .ok (.ifCond .ne 39, 3) := by decide +kernel
theorem dX12_isWord_7 : decode cX12_isWord 7 = .ok (.aload_n 0, 1) := by decide +kernel
theorem dX12_isWord_8 : decode cX12_isWord 8 = .ok (.getfield 24, 3) := by decide +kernel
theorem dX12_isWord_11 : decode cX12_isWord 11 = .ok (.aload_n 0, 1) := by decide +kernel
theorem dX12_isWord_12 : decode cX12_isWord 12 = .ok (.getfield 191, 3) := by decide +kernel
theorem dX12_isWord_15 : decode cX12_isWord 15 = .ok (.iaload, 1) := by decide +kernel
theorem dX12_isWord_16 : decode cX12_isWord 16 = .ok (.iconst 1, 1) := by decide +kernel
theorem dX12_isWord_17 : decode cX12_isWord 17 = .ok (.if_icmp .ne 26, 3) := by decide +kernel
theorem dX12_isWord_20 : decode cX12_isWord 20 = .ok (.aload_n 0, 1) := by decide +kernel
theorem dX12_isWord_21 : decode cX12_isWord 21 = .ok (.getfield 30, 3) := by decide +kernel
theorem dX12_isWord_24 : decode cX12_isWord 24 = .ok (.aload_n 0, 1) := by decide +kernel
theorem dX12_isWord_25 : decode cX12_isWord 25 = .ok (.getfield 191, 3) := by decide +kernel
theorem dX12_isWord_28 : decode cX12_isWord 28 = .ok (.laload, 1) := by decide +kernel
theorem dX12_isWord_29 : decode cX12_isWord 29 = .ok (.aload_n 0, 1) := by decide +kernel
theorem dX12_isWord_30 : decode cX12_isWord 30 = .ok (.getfield 50, 3) := by decide +kernel
theorem dX12_isWord_33 : decode cX12_isWord 33 = .ok (.iload_n 1, 1) := by decide +kernel
theorem dX12_isWord_34 : decode cX12_isWord 34 = .ok (.laload, 1) := by decide +kernel
theorem dX12_isWord_35 : decode cX12_isWord 35 = .ok (.lcmp, 1) := by decide +kernel
theorem dX12_isWord_36 : decode cX12_isWord 36 = .ok (.ifCond .ne 7, 3) := by decide +kernel
theorem dX12_isWord_39 : decode cX12_isWord 39 = .ok (.iconst 1, 1) := by decide +kernel
theorem dX12_isWord_40 : decode cX12_isWord 40 = .ok (.goto 4, 3) := by decide +kernel
theorem dX12_isWord_43 : decode cX12_isWord 43 = .ok (.iconst 0, 1) := by decide +kernel
theorem dX12_isWord_44 : decode cX12_isWord 44 = .ok (.ireturn, 1) := by decide +kernel
theorem dX12_takeSign_0 : decode cX12_takeSign 0 = .ok (.aload_n 0, 1) := by decide +kernel
theorem dX12_takeSign_1 : decode cX12_takeSign 1 = .ok (.iload_n 1, 1) := by decide +kernel
theorem dX12_takeSign_2 : decode cX12_takeSign 2 = .ok (.invokevirtual 197, 3) := by decide +kernel
theorem dX12_takeSign_5 : decode cX12_takeSign 5 = .ok (.ifCond .eq 16, 3) := by decide +kernel
theorem dX12_takeSign_8 : decode cX12_takeSign 8 = .ok (.aload_n 0, 1) := by decide +kernel
theorem dX12_takeSign_9 : decode cX12_takeSign 9 = .ok (.dup, 1) := by decide +kernel
theorem dX12_takeSign_10 : decode cX12_takeSign 10 = .ok (.getfield 191, 3) := by decide +kernel
theorem dX12_takeSign_13 : decode cX12_takeSign 13 = .ok (.iconst 1, 1) := by decide +kernel
theorem dX12_takeSign_14 : decode cX12_takeSign 14 = .ok (.iadd, 1) := by decide +kernel
theorem dX12_takeSign_15 : decode cX12_takeSign 15 = .ok (.putfield 191, 3) := by decide +kernel
theorem dX12_takeSign_18 : decode cX12_takeSign 18 = .ok (.goto 8, 3) := by decide +kernel
theorem dX12_takeSign_21 : decode cX12_takeSign 21 = .ok (.aload_n 0, 1) := by decide +kernel
theorem dX12_takeSign_22 : decode cX12_takeSign 22 = .ok (.iconst 1, 1) := by decide +kernel
theorem dX12_takeSign_23 : decode cX12_takeSign 23 = .ok (.invokevirtual 200, 3) := by decide +kernel
theorem dX12_takeSign_26 : decode cX12_takeSign 26 = .ok (.return_, 1) := by decide +kernel
theorem dX12_emit_0 : decode cX12_emit 0 = .ok (.aload_n 0, 1) := by decide +kernel
theorem dX12_emit_1 : decode cX12_emit 1 = .ok (.getfield 53, 3) := by decide +kernel
theorem dX12_emit_4 : decode cX12_emit 4 = .ok (.aload_n 0, 1) := by decide +kernel
theorem dX12_emit_5 : decode cX12_emit 5 = .ok (.getfield 210, 3) := by decide +kernel
theorem dX12_emit_8 : decode cX12_emit 8 = .ok (.iload_n 1, 1) := by decide +kernel
theorem dX12_emit_9 : decode cX12_emit 9 = .ok (.iastore, 1) := by decide +kernel
theorem dX12_emit_10 : decode cX12_emit 10 = .ok (.aload_n 0, 1) := by decide +kernel
theorem dX12_emit_11 : decode cX12_emit 11 = .ok (.getfield 56, 3) := by decide +kernel
theorem dX12_emit_14 : decode cX12_emit 14 = .ok (.aload_n 0, 1) := by decide +kernel
theorem dX12_emit_15 : decode cX12_emit 15 = .ok (.getfield 210, 3) := by decide +kernel
theorem dX12_emit_18 : decode cX12_emit 18 = .ok (.iload_n 2, 1) := by decide +kernel
theorem dX12_emit_19 : decode cX12_emit 19 = .ok (.iastore, 1) := by decide +kernel
theorem dX12_emit_20 : decode cX12_emit 20 = .ok (.aload_n 0, 1) := by decide +kernel
theorem dX12_emit_21 : decode cX12_emit 21 = .ok (.getfield 59, 3) := by decide +kernel
theorem dX12_emit_24 : decode cX12_emit 24 = .ok (.aload_n 0, 1) := by decide +kernel
theorem dX12_emit_25 : decode cX12_emit 25 = .ok (.getfield 210, 3) := by decide +kernel
theorem dX12_emit_28 : decode cX12_emit 28 = .ok (.iload_n 3, 1) := by decide +kernel
theorem dX12_emit_29 : decode cX12_emit 29 = .ok (.iastore, 1) := by decide +kernel
theorem dX12_emit_30 : decode cX12_emit 30 = .ok (.aload_n 0, 1) := by decide +kernel
theorem dX12_emit_31 : decode cX12_emit 31 = .ok (.getfield 62, 3) := by decide +kernel
theorem dX12_emit_34 : decode cX12_emit 34 = .ok (.aload_n 0, 1) := by decide +kernel
theorem dX12_emit_35 : decode cX12_emit 35 = .ok (.getfield 210, 3) := by decide +kernel
theorem dX12_emit_38 : decode cX12_emit 38 = .ok (.iconst 0, 1) := by decide +kernel
theorem dX12_emit_39 : decode cX12_emit 39 = .ok (.iastore, 1) := by decide +kernel
theorem dX12_emit_40 : decode cX12_emit 40 = .ok (.aload_n 0, 1) := by decide +kernel
theorem dX12_emit_41 : decode cX12_emit 41 = .ok (.dup, 1) := by decide +kernel
theorem dX12_emit_42 : decode cX12_emit 42 = .ok (.getfield 210, 3) := by decide +kernel
theorem dX12_emit_45 : decode cX12_emit 45 = .ok (.iconst 1, 1) := by decide +kernel
theorem dX12_emit_46 : decode cX12_emit 46 = .ok (.iadd, 1) := by decide +kernel
theorem dX12_emit_47 : decode cX12_emit 47 = .ok (.putfield 210, 3) := by decide +kernel
theorem dX12_emit_50 : decode cX12_emit 50 = .ok (.aload_n 0, 1) := by decide +kernel
theorem dX12_emit_51 : decode cX12_emit 51 = .ok (.getfield 210, 3) := by decide +kernel
theorem dX12_emit_54 : decode cX12_emit 54 = .ok (.iconst 1, 1) := by decide +kernel
theorem dX12_emit_55 : decode cX12_emit 55 = .ok (.isub, 1) := by decide +kernel
theorem dX12_emit_56 : decode cX12_emit 56 = .ok (.ireturn, 1) := by decide +kernel
theorem dX12_takeNumber_0 : decode cX12_takeNumber 0 = .ok (.aload_n 0, 1) := by decide +kernel
theorem dX12_takeNumber_1 : decode cX12_takeNumber 1 = .ok (.getfield 194, 3) := by decide +kernel
theorem dX12_takeNumber_4 : decode cX12_takeNumber 4 = .ok (.ifCond .ne 24, 3) := by decide +kernel
theorem dX12_takeNumber_7 : decode cX12_takeNumber 7 = .ok (.aload_n 0, 1) := by decide +kernel
theorem dX12_takeNumber_8 : decode cX12_takeNumber 8 = .ok (.getfield 24, 3) := by decide +kernel
theorem dX12_takeNumber_11 : decode cX12_takeNumber 11 = .ok (.aload_n 0, 1) := by decide +kernel
theorem dX12_takeNumber_12 : decode cX12_takeNumber 12 = .ok (.getfield 191, 3) := by decide +kernel
theorem dX12_takeNumber_15 : decode cX12_takeNumber 15 = .ok (.iaload, 1) := by decide +kernel
theorem dX12_takeNumber_16 : decode cX12_takeNumber 16 = .ok (.iconst 2, 1) := by decide +kernel
theorem dX12_takeNumber_17 : decode cX12_takeNumber 17 = .ok (.if_icmp .eq 11, 3) := by decide +kernel
theorem dX12_takeNumber_20 : decode cX12_takeNumber 20 = .ok (.aload_n 0, 1) := by decide +kernel
theorem dX12_takeNumber_21 : decode cX12_takeNumber 21 = .ok (.iconst 1, 1) := by decide +kernel
theorem dX12_takeNumber_22 : decode cX12_takeNumber 22 = .ok (.invokevirtual 200, 3) := by decide +kernel
theorem dX12_takeNumber_25 : decode cX12_takeNumber 25 = .ok (.goto 45, 3) := by decide +kernel
theorem dX12_takeNumber_28 : decode cX12_takeNumber 28 = .ok (.aload_n 0, 1) := by decide +kernel
theorem dX12_takeNumber_29 : decode cX12_takeNumber 29 = .ok (.getfield 194, 3) := by decide +kernel
theorem dX12_takeNumber_32 : decode cX12_takeNumber 32 = .ok (.ifCond .ne 38, 3) := by decide +kernel
theorem dX12_takeNumber_35 : decode cX12_takeNumber 35 = .ok (.aload_n 0, 1) := by decide +kernel
theorem dX12_takeNumber_36 : decode cX12_takeNumber 36 = .ok (.getfield 30, 3) := by decide +kernel
theorem dX12_takeNumber_39 : decode cX12_takeNumber 39 = .ok (.aload_n 0, 1) := by decide +kernel
theorem dX12_takeNumber_40 : decode cX12_takeNumber 40 = .ok (.getfield 191, 3) := by decide +kernel
theorem dX12_takeNumber_43 : decode cX12_takeNumber 43 = .ok (.laload, 1) := by decide +kernel
theorem dX12_takeNumber_44 : decode cX12_takeNumber 44 = .ok (.iload_n 1, 1) := by decide +kernel
theorem dX12_takeNumber_45 : decode cX12_takeNumber 45 = .ok (.i2l, 1) := by decide +kernel
theorem dX12_takeNumber_46 : decode cX12_takeNumber 46 = .ok (.lcmp, 1) := by decide +kernel
theorem dX12_takeNumber_47 : decode cX12_takeNumber 47 = .ok (.ifCond .lt 18, 3) := by decide +kernel
theorem dX12_takeNumber_50 : decode cX12_takeNumber 50 = .ok (.aload_n 0, 1) := by decide +kernel
theorem dX12_takeNumber_51 : decode cX12_takeNumber 51 = .ok (.getfield 30, 3) := by decide +kernel
theorem dX12_takeNumber_54 : decode cX12_takeNumber 54 = .ok (.aload_n 0, 1) := by decide +kernel
theorem dX12_takeNumber_55 : decode cX12_takeNumber 55 = .ok (.getfield 191, 3) := by decide +kernel
theorem dX12_takeNumber_58 : decode cX12_takeNumber 58 = .ok (.laload, 1) := by decide +kernel
theorem dX12_takeNumber_59 : decode cX12_takeNumber 59 = .ok (.iload_n 2, 1) := by decide +kernel
theorem dX12_takeNumber_60 : decode cX12_takeNumber 60 = .ok (.i2l, 1) := by decide +kernel
theorem dX12_takeNumber_61 : decode cX12_takeNumber 61 = .ok (.lcmp, 1) := by decide +kernel
theorem dX12_takeNumber_62 : decode cX12_takeNumber 62 = .ok (.ifCond .le 8, 3) := by decide +kernel
theorem dX12_takeNumber_65 : decode cX12_takeNumber 65 = .ok (.aload_n 0, 1) := by decide +kernel
theorem dX12_takeNumber_66 : decode cX12_takeNumber 66 = .ok (.iconst 4, 1) := by decide +kernel
theorem dX12_takeNumber_67 : decode cX12_takeNumber 67 = .ok (.invokevirtual 200, 3) := by decide +kernel
theorem dX12_takeNumber_70 : decode cX12_takeNumber 70 = .ok (.aload_n 0, 1) := by decide +kernel
theorem dX12_takeNumber_71 : decode cX12_takeNumber 71 = .ok (.getfield 194, 3) := by decide +kernel
theorem dX12_takeNumber_74 : decode cX12_takeNumber 74 = .ok (.ifCond .le 5, 3) := by decide +kernel
theorem dX12_takeNumber_77 : decode cX12_takeNumber 77 = .ok (.iconst 0, 1) := by decide +kernel
theorem dX12_takeNumber_78 : decode cX12_takeNumber 78 = .ok (.ireturn, 1) := by decide +kernel
theorem dX12_takeNumber_79 : decode cX12_takeNumber 79 = .ok (.aload_n 0, 1) := by decide +kernel
theorem dX12_takeNumber_80 : decode cX12_takeNumber 80 = .ok (.dup, 1) := by decide +kernel
theorem dX12_takeNumber_81 : decode cX12_takeNumber 81 = .ok (.getfield 191, 3) := by decide +kernel
theorem dX12_takeNumber_84 : decode cX12_takeNumber 84 = .ok (.iconst 1, 1) := by decide +kernel
theorem dX12_takeNumber_85 : decode cX12_takeNumber 85 = .ok (.iadd, 1) := by decide +kernel
theorem dX12_takeNumber_86 : decode cX12_takeNumber 86 = .ok (.putfield 191, 3) := by decide +kernel
theorem dX12_takeNumber_89 : decode cX12_takeNumber 89 = .ok (.aload_n 0, 1) := by decide +kernel
theorem dX12_takeNumber_90 : decode cX12_takeNumber 90 = .ok (.getfield 30, 3) := by decide +kernel
theorem dX12_takeNumber_93 : decode cX12_takeNumber 93 = .ok (.aload_n 0, 1) := by decide +kernel
theorem dX12_takeNumber_94 : decode cX12_takeNumber 94 = .ok (.getfield 191, 3) := by decide +kernel
theorem dX12_takeNumber_97 : decode cX12_takeNumber 97 = .ok (.iconst 1, 1) := by decide +kernel
theorem dX12_takeNumber_98 : decode cX12_takeNumber 98 = .ok (.isub, 1) := by decide +kernel
theorem dX12_takeNumber_99 : decode cX12_takeNumber 99 = .ok (.laload, 1) := by decide +kernel
theorem dX12_takeNumber_100 : decode cX12_takeNumber 100 = .ok (.l2i, 1) := by decide +kernel
theorem dX12_takeNumber_101 : decode cX12_takeNumber 101 = .ok (.ireturn, 1) := by decide +kernel
theorem dX12_wayWord_0 : decode cX12_wayWord 0 = .ok (.iconst 4, 1) := by decide +kernel
theorem dX12_wayWord_1 : decode cX12_wayWord 1 = .ok (.istore_n 1, 1) := by decide +kernel
theorem dX12_wayWord_2 : decode cX12_wayWord 2 = .ok (.iload_n 1, 1) := by decide +kernel
theorem dX12_wayWord_3 : decode cX12_wayWord 3 = .ok (.bipush 7, 2) := by decide +kernel
theorem dX12_wayWord_5 : decode cX12_wayWord 5 = .ok (.if_icmp .gt 19, 3) := by decide +kernel
theorem dX12_wayWord_8 : decode cX12_wayWord 8 = .ok (.aload_n 0, 1) := by decide +kernel
theorem dX12_wayWord_9 : decode cX12_wayWord 9 = .ok (.iload_n 1, 1) := by decide +kernel
theorem dX12_wayWord_10 : decode cX12_wayWord 10 = .ok (.invokevirtual 204, 3) := by decide +kernel
theorem dX12_wayWord_13 : decode cX12_wayWord 13 = .ok (.ifCond .eq 5, 3) := by decide +kernel
theorem dX12_wayWord_16 : decode cX12_wayWord 16 = .ok (.iload_n 1, 1) := by decide +kernel
theorem dX12_wayWord_17 : decode cX12_wayWord 17 = .ok (.ireturn, 1) := by decide +kernel
theorem dX12_wayWord_18 : decode cX12_wayWord 18 = .ok (.iinc 1 1, 3) := by decide +kernel
theorem dX12_wayWord_21 : decode cX12_wayWord 21 = .ok (.goto (-19), 3) := by decide +kernel
theorem dX12_wayWord_24 : decode cX12_wayWord 24 = .ok (.iconst (-1), 1) := by decide +kernel
theorem dX12_wayWord_25 : decode cX12_wayWord 25 = .ok (.ireturn, 1) := by decide +kernel
theorem dX12_readWay_0 : decode cX12_readWay 0 = .ok (.aload_n 0, 1) := by decide +kernel
theorem dX12_readWay_1 : decode cX12_readWay 1 = .ok (.invokevirtual 213, 3) := by decide +kernel
theorem dX12_readWay_4 : decode cX12_readWay 4 = .ok (.istore_n 1, 1) := by decide +kernel
theorem dX12_readWay_5 : decode cX12_readWay 5 = .ok (.iload_n 1, 1) := by decide +kernel
theorem dX12_readWay_6 : decode cX12_readWay 6 = .ok (.ifCond .ge 9, 3) := by decide +kernel
theorem dX12_readWay_9 : decode cX12_readWay 9 = .ok (.aload_n 0, 1) := by decide +kernel
theorem dX12_readWay_10 : decode cX12_readWay 10 = .ok (.iconst 1, 1) := by decide +kernel
theorem dX12_readWay_11 : decode cX12_readWay 11 = .ok (.invokevirtual 200, 3) := by decide +kernel
theorem dX12_readWay_14 : decode cX12_readWay 14 = .ok (.return_, 1) := by decide +kernel
theorem dX12_readWay_15 : decode cX12_readWay 15 = .ok (.aload_n 0, 1) := by decide +kernel
theorem dX12_readWay_16 : decode cX12_readWay 16 = .ok (.dup, 1) := by decide +kernel
theorem dX12_readWay_17 : decode cX12_readWay 17 = .ok (.getfield 191, 3) := by decide +kernel
theorem dX12_readWay_20 : decode cX12_readWay 20 = .ok (.iconst 1, 1) := by decide +kernel
theorem dX12_readWay_21 : decode cX12_readWay 21 = .ok (.iadd, 1) := by decide +kernel
theorem dX12_readWay_22 : decode cX12_readWay 22 = .ok (.putfield 191, 3) := by decide +kernel
theorem dX12_readWay_25 : decode cX12_readWay 25 = .ok (.aload_n 0, 1) := by decide +kernel
theorem dX12_readWay_26 : decode cX12_readWay 26 = .ok (.iconst 0, 1) := by decide +kernel
theorem dX12_readWay_27 : decode cX12_readWay 27 = .ok (.bipush 16, 2) := by decide +kernel
theorem dX12_readWay_29 : decode cX12_readWay 29 = .ok (.invokevirtual 217, 3) := by decide +kernel
theorem dX12_readWay_32 : decode cX12_readWay 32 = .ok (.istore_n 2, 1) := by decide +kernel
theorem dX12_readWay_33 : decode cX12_readWay 33 = .ok (.aload_n 0, 1) := by decide +kernel
theorem dX12_readWay_34 : decode cX12_readWay 34 = .ok (.iload_n 1, 1) := by decide +kernel
theorem dX12_readWay_35 : decode cX12_readWay 35 = .ok (.bipush 6, 2) := by decide +kernel
theorem dX12_readWay_37 : decode cX12_readWay 37 = .ok (.if_icmp .ne 8, 3) := by decide +kernel
theorem dX12_readWay_40 : decode cX12_readWay 40 = .ok (.iload_n 2, 1) := by decide +kernel
theorem dX12_readWay_41 : decode cX12_readWay 41 = .ok (.ineg, 1) := by decide +kernel
theorem dX12_readWay_42 : decode cX12_readWay 42 = .ok (.goto 14, 3) := by decide +kernel
theorem dX12_readWay_45 : decode cX12_readWay 45 = .ok (.iload_n 1, 1) := by decide +kernel
theorem dX12_readWay_46 : decode cX12_readWay 46 = .ok (.bipush 7, 2) := by decide +kernel
theorem dX12_readWay_48 : decode cX12_readWay 48 = .ok (.if_icmp .ne 7, 3) := by decide +kernel
theorem dX12_readWay_51 : decode cX12_readWay 51 = .ok (.iload_n 2, 1) := by decide +kernel
theorem dX12_readWay_52 : decode cX12_readWay 52 = .ok (.goto 4, 3) := by decide +kernel
theorem dX12_readWay_55 : decode cX12_readWay 55 = .ok (.iconst 0, 1) := by decide +kernel
theorem dX12_readWay_56 : decode cX12_readWay 56 = .ok (.putfield 221, 3) := by decide +kernel
theorem dX12_readWay_59 : decode cX12_readWay 59 = .ok (.aload_n 0, 1) := by decide +kernel
theorem dX12_readWay_60 : decode cX12_readWay 60 = .ok (.iload_n 1, 1) := by decide +kernel
theorem dX12_readWay_61 : decode cX12_readWay 61 = .ok (.iconst 4, 1) := by decide +kernel
theorem dX12_readWay_62 : decode cX12_readWay 62 = .ok (.if_icmp .ne 8, 3) := by decide +kernel
theorem dX12_readWay_65 : decode cX12_readWay 65 = .ok (.iload_n 2, 1) := by decide +kernel
theorem dX12_readWay_66 : decode cX12_readWay 66 = .ok (.ineg, 1) := by decide +kernel
theorem dX12_readWay_67 : decode cX12_readWay 67 = .ok (.goto 13, 3) := by decide +kernel
theorem dX12_readWay_70 : decode cX12_readWay 70 = .ok (.iload_n 1, 1) := by decide +kernel
theorem dX12_readWay_71 : decode cX12_readWay 71 = .ok (.iconst 5, 1) := by decide +kernel
theorem dX12_readWay_72 : decode cX12_readWay 72 = .ok (.if_icmp .ne 7, 3) := by decide +kernel
theorem dX12_readWay_75 : decode cX12_readWay 75 = .ok (.iload_n 2, 1) := by decide +kernel
theorem dX12_readWay_76 : decode cX12_readWay 76 = .ok (.goto 4, 3) := by decide +kernel
theorem dX12_readWay_79 : decode cX12_readWay 79 = .ok (.iconst 0, 1) := by decide +kernel
theorem dX12_readWay_80 : decode cX12_readWay 80 = .ok (.putfield 224, 3) := by decide +kernel
theorem dX12_readWay_83 : decode cX12_readWay 83 = .ok (.return_, 1) := by decide +kernel
theorem dX12_isStep_0 : decode cX12_isStep 0 = .ok (.iconst 0, 1) := by decide +kernel
theorem dX12_isStep_1 : decode cX12_isStep 1 = .ok (.istore_n 1, 1) := by decide +kernel
theorem dX12_isStep_2 : decode cX12_isStep 2 = .ok (.iconst 0, 1) := by decide +kernel
theorem dX12_isStep_3 : decode cX12_isStep 3 = .ok (.istore_n 2, 1) := by decide +kernel
theorem dX12_isStep_4 : decode cX12_isStep 4 = .ok (.iload_n 2, 1) := by decide +kernel
theorem dX12_isStep_5 : decode cX12_isStep 5 = .ok (.iconst 3, 1) := by decide +kernel
theorem dX12_isStep_6 : decode cX12_isStep 6 = .ok (.if_icmp .gt 27, 3) := by decide +kernel
theorem dX12_isStep_9 : decode cX12_isStep 9 = .ok (.iload_n 1, 1) := by decide +kernel
theorem dX12_isStep_10 : decode cX12_isStep 10 = .ok (.ifCond .ne 11, 3) := by decide +kernel
theorem dX12_isStep_13 : decode cX12_isStep 13 = .ok (.aload_n 0, 1) := by decide +kernel
theorem dX12_isStep_14 : decode cX12_isStep 14 = .ok (.iload_n 2, 1) := by decide +kernel
theorem dX12_isStep_15 : decode cX12_isStep 15 = .ok (.invokevirtual 204, 3) := by decide +kernel
theorem dX12_isStep_18 : decode cX12_isStep 18 = .ok (.ifCond .eq 7, 3) := by decide +kernel
theorem dX12_isStep_21 : decode cX12_isStep 21 = .ok (.iconst 1, 1) := by decide +kernel
theorem dX12_isStep_22 : decode cX12_isStep 22 = .ok (.goto 4, 3) := by decide +kernel
theorem dX12_isStep_25 : decode cX12_isStep 25 = .ok (.iconst 0, 1) := by decide +kernel
theorem dX12_isStep_26 : decode cX12_isStep 26 = .ok (.istore_n 1, 1) := by decide +kernel
theorem dX12_isStep_27 : decode cX12_isStep 27 = .ok (.iinc 2 1, 3) := by decide +kernel
theorem dX12_isStep_30 : decode cX12_isStep 30 = .ok (.goto (-26), 3) := by decide +kernel
theorem dX12_isStep_33 : decode cX12_isStep 33 = .ok (.iload_n 1, 1) := by decide +kernel
theorem dX12_isStep_34 : decode cX12_isStep 34 = .ok (.ireturn, 1) := by decide +kernel
theorem dX12_readSteps_0 : decode cX12_readSteps 0 = .ok (.aload_n 0, 1) := by decide +kernel
theorem dX12_readSteps_1 : decode cX12_readSteps 1 = .ok (.invokevirtual 227, 3) := by decide +kernel
theorem dX12_readSteps_4 : decode cX12_readSteps 4 = .ok (.ifCond .eq 34, 3) := by decide +kernel
theorem dX12_readSteps_7 : decode cX12_readSteps 7 = .ok (.aload_n 0, 1) := by decide +kernel
theorem dX12_readSteps_8 : decode cX12_readSteps 8 = .ok (.iconst 0, 1) := by decide +kernel
theorem dX12_readSteps_9 : decode cX12_readSteps 9 = .ok (.invokevirtual 204, 3) := by decide +kernel
theorem dX12_readSteps_12 : decode cX12_readSteps 12 = .ok (.ifCond .ne 11, 3) := by decide +kernel
theorem dX12_readSteps_15 : decode cX12_readSteps 15 = .ok (.aload_n 0, 1) := by decide +kernel
theorem dX12_readSteps_16 : decode cX12_readSteps 16 = .ok (.iconst 1, 1) := by decide +kernel
theorem dX12_readSteps_17 : decode cX12_readSteps 17 = .ok (.invokevirtual 204, 3) := by decide +kernel
theorem dX12_readSteps_20 : decode cX12_readSteps 20 = .ok (.ifCond .eq 10, 3) := by decide +kernel
theorem dX12_readSteps_23 : decode cX12_readSteps 23 = .ok (.aload_n 0, 1) := by decide +kernel
theorem dX12_readSteps_24 : decode cX12_readSteps 24 = .ok (.invokevirtual 231, 3) := by decide +kernel
theorem dX12_readSteps_27 : decode cX12_readSteps 27 = .ok (.goto (-27), 3) := by decide +kernel
theorem dX12_readSteps_30 : decode cX12_readSteps 30 = .ok (.aload_n 0, 1) := by decide +kernel
theorem dX12_readSteps_31 : decode cX12_readSteps 31 = .ok (.iload_n 1, 1) := by decide +kernel
theorem dX12_readSteps_32 : decode cX12_readSteps 32 = .ok (.invokevirtual 234, 3) := by decide +kernel
theorem dX12_readSteps_35 : decode cX12_readSteps 35 = .ok (.goto (-35), 3) := by decide +kernel
theorem dX12_readSteps_38 : decode cX12_readSteps 38 = .ok (.return_, 1) := by decide +kernel
theorem dX12_readLine_0 : decode cX12_readLine 0 = .ok (.aload_n 0, 1) := by decide +kernel
theorem dX12_readLine_1 : decode cX12_readLine 1 = .ok (.iconst 0, 1) := by decide +kernel
theorem dX12_readLine_2 : decode cX12_readLine 2 = .ok (.invokevirtual 204, 3) := by decide +kernel
theorem dX12_readLine_5 : decode cX12_readLine 5 = .ok (.istore_n 1, 1) := by decide +kernel
theorem dX12_readLine_6 : decode cX12_readLine 6 = .ok (.aload_n 0, 1) := by decide +kernel
theorem dX12_readLine_7 : decode cX12_readLine 7 = .ok (.dup, 1) := by decide +kernel
theorem dX12_readLine_8 : decode cX12_readLine 8 = .ok (.getfield 191, 3) := by decide +kernel
theorem dX12_readLine_11 : decode cX12_readLine 11 = .ok (.iconst 1, 1) := by decide +kernel
theorem dX12_readLine_12 : decode cX12_readLine 12 = .ok (.iadd, 1) := by decide +kernel
theorem dX12_readLine_13 : decode cX12_readLine 13 = .ok (.putfield 191, 3) := by decide +kernel
theorem dX12_readLine_16 : decode cX12_readLine 16 = .ok (.aload_n 0, 1) := by decide +kernel
theorem dX12_readLine_17 : decode cX12_readLine 17 = .ok (.iconst 0, 1) := by decide +kernel
theorem dX12_readLine_18 : decode cX12_readLine 18 = .ok (.iload_n 1, 1) := by decide +kernel
theorem dX12_readLine_19 : decode cX12_readLine 19 = .ok (.ifCond .eq 8, 3) := by decide +kernel
theorem dX12_readLine_22 : decode cX12_readLine 22 = .ok (.bipush 16, 2) := by decide +kernel
theorem dX12_readLine_24 : decode cX12_readLine 24 = .ok (.goto 5, 3) := by decide +kernel
theorem dX12_readLine_27 : decode cX12_readLine 27 = .ok (.bipush 15, 2) := by decide +kernel
theorem dX12_readLine_29 : decode cX12_readLine 29 = .ok (.invokevirtual 217, 3) := by decide +kernel
theorem dX12_readLine_32 : decode cX12_readLine 32 = .ok (.istore_n 2, 1) := by decide +kernel
theorem dX12_readLine_33 : decode cX12_readLine 33 = .ok (.aload_n 0, 1) := by decide +kernel
theorem dX12_readLine_34 : decode cX12_readLine 34 = .ok (.iconst 0, 1) := by decide +kernel
theorem dX12_readLine_35 : decode cX12_readLine 35 = .ok (.iload_n 1, 1) := by decide +kernel
theorem dX12_readLine_36 : decode cX12_readLine 36 = .ok (.ifCond .eq 8, 3) := by decide +kernel
theorem dX12_readLine_39 : decode cX12_readLine 39 = .ok (.bipush 12, 2) := by decide +kernel
theorem dX12_readLine_41 : decode cX12_readLine 41 = .ok (.goto 5, 3) := by decide +kernel
theorem dX12_readLine_44 : decode cX12_readLine 44 = .ok (.bipush 11, 2) := by decide +kernel
theorem dX12_readLine_46 : decode cX12_readLine 46 = .ok (.invokevirtual 217, 3) := by decide +kernel
theorem dX12_readLine_49 : decode cX12_readLine 49 = .ok (.istore_n 3, 1) := by decide +kernel
theorem dX12_readLine_50 : decode cX12_readLine 50 = .ok (.aload_n 0, 1) := by decide +kernel
theorem dX12_readLine_51 : decode cX12_readLine 51 = .ok (.iload_n 1, 1) := by decide +kernel
theorem dX12_readLine_52 : decode cX12_readLine 52 = .ok (.ifCond .eq 7, 3) := by decide +kernel
theorem dX12_readLine_55 : decode cX12_readLine 55 = .ok (.iconst 0, 1) := by decide +kernel
theorem dX12_readLine_56 : decode cX12_readLine 56 = .ok (.goto 4, 3) := by decide +kernel
theorem dX12_readLine_59 : decode cX12_readLine 59 = .ok (.iconst 1, 1) := by decide +kernel
theorem dX12_readLine_60 : decode cX12_readLine 60 = .ok (.iload_n 2, 1) := by decide +kernel
theorem dX12_readLine_61 : decode cX12_readLine 61 = .ok (.iload_n 3, 1) := by decide +kernel
theorem dX12_readLine_62 : decode cX12_readLine 62 = .ok (.invokevirtual 237, 3) := by decide +kernel
theorem dX12_readLine_65 : decode cX12_readLine 65 = .ok (.istore 4, 2) := by decide +kernel
theorem dX12_readLine_67 : decode cX12_readLine 67 = .ok (.aload_n 0, 1) := by decide +kernel
theorem dX12_readLine_68 : decode cX12_readLine 68 = .ok (.invokevirtual 241, 3) := by decide +kernel
theorem dX12_readLine_71 : decode cX12_readLine 71 = .ok (.aload_n 0, 1) := by decide +kernel
theorem dX12_readLine_72 : decode cX12_readLine 72 = .ok (.iconst 4, 1) := by decide +kernel
theorem dX12_readLine_73 : decode cX12_readLine 73 = .ok (.aload_n 0, 1) := by decide +kernel
theorem dX12_readLine_74 : decode cX12_readLine 74 = .ok (.getfield 221, 3) := by decide +kernel
theorem dX12_readLine_77 : decode cX12_readLine 77 = .ok (.aload_n 0, 1) := by decide +kernel
theorem dX12_readLine_78 : decode cX12_readLine 78 = .ok (.getfield 224, 3) := by decide +kernel
theorem dX12_readLine_81 : decode cX12_readLine 81 = .ok (.invokevirtual 237, 3) := by decide +kernel
theorem dX12_readLine_84 : decode cX12_readLine 84 = .ok (.istore 5, 2) := by decide +kernel
theorem dX12_readLine_86 : decode cX12_readLine 86 = .ok (.aload_n 0, 1) := by decide +kernel
theorem dX12_readLine_87 : decode cX12_readLine 87 = .ok (.invokevirtual 213, 3) := by decide +kernel
theorem dX12_readLine_90 : decode cX12_readLine 90 = .ok (.ifCond .lt 25, 3) := by decide +kernel
theorem dX12_readLine_93 : decode cX12_readLine 93 = .ok (.aload_n 0, 1) := by decide +kernel
theorem dX12_readLine_94 : decode cX12_readLine 94 = .ok (.invokevirtual 241, 3) := by decide +kernel
theorem dX12_readLine_97 : decode cX12_readLine 97 = .ok (.aload_n 0, 1) := by decide +kernel
theorem dX12_readLine_98 : decode cX12_readLine 98 = .ok (.iconst 4, 1) := by decide +kernel
theorem dX12_readLine_99 : decode cX12_readLine 99 = .ok (.aload_n 0, 1) := by decide +kernel
theorem dX12_readLine_100 : decode cX12_readLine 100 = .ok (.getfield 221, 3) := by decide +kernel
theorem dX12_readLine_103 : decode cX12_readLine 103 = .ok (.aload_n 0, 1) := by decide +kernel
theorem dX12_readLine_104 : decode cX12_readLine 104 = .ok (.getfield 224, 3) := by decide +kernel
theorem dX12_readLine_107 : decode cX12_readLine 107 = .ok (.invokevirtual 237, 3) := by decide +kernel
theorem dX12_readLine_110 : decode cX12_readLine 110 = .ok (.istore 5, 2) := by decide +kernel
theorem dX12_readLine_112 : decode cX12_readLine 112 = .ok (.goto (-26), 3) := by decide +kernel
theorem dX12_readLine_115 : decode cX12_readLine 115 = .ok (.aload_n 0, 1) := by decide +kernel
theorem dX12_readLine_116 : decode cX12_readLine 116 = .ok (.bipush 59, 2) := by decide +kernel
theorem dX12_readLine_118 : decode cX12_readLine 118 = .ok (.invokevirtual 244, 3) := by decide +kernel
theorem dX12_readLine_121 : decode cX12_readLine 121 = .ok (.aload_n 0, 1) := by decide +kernel
theorem dX12_readLine_122 : decode cX12_readLine 122 = .ok (.getfield 62, 3) := by decide +kernel
theorem dX12_readLine_125 : decode cX12_readLine 125 = .ok (.iload 4, 2) := by decide +kernel
theorem dX12_readLine_127 : decode cX12_readLine 127 = .ok (.aload_n 0, 1) := by decide +kernel
theorem dX12_readLine_128 : decode cX12_readLine 128 = .ok (.getfield 210, 3) := by decide +kernel
theorem dX12_readLine_131 : decode cX12_readLine 131 = .ok (.iastore, 1) := by decide +kernel
theorem dX12_readLine_132 : decode cX12_readLine 132 = .ok (.return_, 1) := by decide +kernel
theorem dX12_readBlock_0 : decode cX12_readBlock 0 = .ok (.iload_n 1, 1) := by decide +kernel
theorem dX12_readBlock_1 : decode cX12_readBlock 1 = .ok (.iconst 4, 1) := by decide +kernel
theorem dX12_readBlock_2 : decode cX12_readBlock 2 = .ok (.if_icmp .ne 9, 3) := by decide +kernel
theorem dX12_readBlock_5 : decode cX12_readBlock 5 = .ok (.aload_n 0, 1) := by decide +kernel
theorem dX12_readBlock_6 : decode cX12_readBlock 6 = .ok (.iconst 5, 1) := by decide +kernel
theorem dX12_readBlock_7 : decode cX12_readBlock 7 = .ok (.invokevirtual 200, 3) := by decide +kernel
theorem dX12_readBlock_10 : decode cX12_readBlock 10 = .ok (.return_, 1) := by decide +kernel
theorem dX12_readBlock_11 : decode cX12_readBlock 11 = .ok (.aload_n 0, 1) := by decide +kernel
theorem dX12_readBlock_12 : decode cX12_readBlock 12 = .ok (.aload_n 0, 1) := by decide +kernel
theorem dX12_readBlock_13 : decode cX12_readBlock 13 = .ok (.iconst 2, 1) := by decide +kernel
theorem dX12_readBlock_14 : decode cX12_readBlock 14 = .ok (.invokevirtual 204, 3) := by decide +kernel
theorem dX12_readBlock_17 : decode cX12_readBlock 17 = .ok (.ifCond .eq 7, 3) := by decide +kernel
theorem dX12_readBlock_20 : decode cX12_readBlock 20 = .ok (.iconst 2, 1) := by decide +kernel
theorem dX12_readBlock_21 : decode cX12_readBlock 21 = .ok (.goto 4, 3) := by decide +kernel
theorem dX12_readBlock_24 : decode cX12_readBlock 24 = .ok (.iconst 3, 1) := by decide +kernel
theorem dX12_readBlock_25 : decode cX12_readBlock 25 = .ok (.iconst 0, 1) := by decide +kernel
theorem dX12_readBlock_26 : decode cX12_readBlock 26 = .ok (.iconst 0, 1) := by decide +kernel
theorem dX12_readBlock_27 : decode cX12_readBlock 27 = .ok (.invokevirtual 237, 3) := by decide +kernel
theorem dX12_readBlock_30 : decode cX12_readBlock 30 = .ok (.istore_n 2, 1) := by decide +kernel
theorem dX12_readBlock_31 : decode cX12_readBlock 31 = .ok (.aload_n 0, 1) := by decide +kernel
theorem dX12_readBlock_32 : decode cX12_readBlock 32 = .ok (.dup, 1) := by decide +kernel
theorem dX12_readBlock_33 : decode cX12_readBlock 33 = .ok (.getfield 191, 3) := by decide +kernel
theorem dX12_readBlock_36 : decode cX12_readBlock 36 = .ok (.iconst 1, 1) := by decide +kernel
theorem dX12_readBlock_37 : decode cX12_readBlock 37 = .ok (.iadd, 1) := by decide +kernel
theorem dX12_readBlock_38 : decode cX12_readBlock 38 = .ok (.putfield 191, 3) := by decide +kernel
theorem dX12_readBlock_41 : decode cX12_readBlock 41 = .ok (.aload_n 0, 1) := by decide +kernel
theorem dX12_readBlock_42 : decode cX12_readBlock 42 = .ok (.getfield 53, 3) := by decide +kernel
theorem dX12_readBlock_45 : decode cX12_readBlock 45 = .ok (.iload_n 2, 1) := by decide +kernel
theorem dX12_readBlock_46 : decode cX12_readBlock 46 = .ok (.iaload, 1) := by decide +kernel
theorem dX12_readBlock_47 : decode cX12_readBlock 47 = .ok (.iconst 2, 1) := by decide +kernel
theorem dX12_readBlock_48 : decode cX12_readBlock 48 = .ok (.if_icmp .ne 34, 3) := by decide +kernel
theorem dX12_readBlock_51 : decode cX12_readBlock 51 = .ok (.aload_n 0, 1) := by decide +kernel
theorem dX12_readBlock_52 : decode cX12_readBlock 52 = .ok (.getfield 56, 3) := by decide +kernel
theorem dX12_readBlock_55 : decode cX12_readBlock 55 = .ok (.iload_n 2, 1) := by decide +kernel
theorem dX12_readBlock_56 : decode cX12_readBlock 56 = .ok (.aload_n 0, 1) := by decide +kernel
theorem dX12_readBlock_57 : decode cX12_readBlock 57 = .ok (.iconst 1, 1) := by decide +kernel
theorem dX12_readBlock_58 : decode cX12_readBlock 58 = .ok (.bipush 9, 2) := by decide +kernel
theorem dX12_readBlock_60 : decode cX12_readBlock 60 = .ok (.invokevirtual 217, 3) := by decide +kernel
theorem dX12_readBlock_63 : decode cX12_readBlock 63 = .ok (.iastore, 1) := by decide +kernel
theorem dX12_readBlock_64 : decode cX12_readBlock 64 = .ok (.aload_n 0, 1) := by decide +kernel
theorem dX12_readBlock_65 : decode cX12_readBlock 65 = .ok (.invokevirtual 241, 3) := by decide +kernel
theorem dX12_readBlock_68 : decode cX12_readBlock 68 = .ok (.aload_n 0, 1) := by decide +kernel
theorem dX12_readBlock_69 : decode cX12_readBlock 69 = .ok (.iconst 4, 1) := by decide +kernel
theorem dX12_readBlock_70 : decode cX12_readBlock 70 = .ok (.aload_n 0, 1) := by decide +kernel
theorem dX12_readBlock_71 : decode cX12_readBlock 71 = .ok (.getfield 221, 3) := by decide +kernel
theorem dX12_readBlock_74 : decode cX12_readBlock 74 = .ok (.aload_n 0, 1) := by decide +kernel
theorem dX12_readBlock_75 : decode cX12_readBlock 75 = .ok (.getfield 224, 3) := by decide +kernel
theorem dX12_readBlock_78 : decode cX12_readBlock 78 = .ok (.invokevirtual 237, 3) := by decide +kernel
theorem dX12_readBlock_81 : decode cX12_readBlock 81 = .ok (.istore_n 3, 1) := by decide +kernel
theorem dX12_readBlock_82 : decode cX12_readBlock 82 = .ok (.aload_n 0, 1) := by decide +kernel
theorem dX12_readBlock_83 : decode cX12_readBlock 83 = .ok (.bipush 40, 2) := by decide +kernel
theorem dX12_readBlock_85 : decode cX12_readBlock 85 = .ok (.invokevirtual 244, 3) := by decide +kernel
theorem dX12_readBlock_88 : decode cX12_readBlock 88 = .ok (.aload_n 0, 1) := by decide +kernel
theorem dX12_readBlock_89 : decode cX12_readBlock 89 = .ok (.iload_n 1, 1) := by decide +kernel
theorem dX12_readBlock_90 : decode cX12_readBlock 90 = .ok (.iconst 1, 1) := by decide +kernel
theorem dX12_readBlock_91 : decode cX12_readBlock 91 = .ok (.iadd, 1) := by decide +kernel
theorem dX12_readBlock_92 : decode cX12_readBlock 92 = .ok (.invokevirtual 247, 3) := by decide +kernel
theorem dX12_readBlock_95 : decode cX12_readBlock 95 = .ok (.aload_n 0, 1) := by decide +kernel
theorem dX12_readBlock_96 : decode cX12_readBlock 96 = .ok (.bipush 41, 2) := by decide +kernel
theorem dX12_readBlock_98 : decode cX12_readBlock 98 = .ok (.invokevirtual 244, 3) := by decide +kernel
theorem dX12_readBlock_101 : decode cX12_readBlock 101 = .ok (.aload_n 0, 1) := by decide +kernel
theorem dX12_readBlock_102 : decode cX12_readBlock 102 = .ok (.bipush 59, 2) := by decide +kernel
theorem dX12_readBlock_104 : decode cX12_readBlock 104 = .ok (.invokevirtual 244, 3) := by decide +kernel
theorem dX12_readBlock_107 : decode cX12_readBlock 107 = .ok (.aload_n 0, 1) := by decide +kernel
theorem dX12_readBlock_108 : decode cX12_readBlock 108 = .ok (.getfield 62, 3) := by decide +kernel
theorem dX12_readBlock_111 : decode cX12_readBlock 111 = .ok (.iload_n 2, 1) := by decide +kernel
theorem dX12_readBlock_112 : decode cX12_readBlock 112 = .ok (.aload_n 0, 1) := by decide +kernel
theorem dX12_readBlock_113 : decode cX12_readBlock 113 = .ok (.getfield 210, 3) := by decide +kernel
theorem dX12_readBlock_116 : decode cX12_readBlock 116 = .ok (.iastore, 1) := by decide +kernel
theorem dX12_readBlock_117 : decode cX12_readBlock 117 = .ok (.return_, 1) := by decide +kernel
theorem dX12_draw_0 : decode cX12_draw 0 = .ok (.aload_n 0, 1) := by decide +kernel
theorem dX12_draw_1 : decode cX12_draw 1 = .ok (.iconst 0, 1) := by decide +kernel
theorem dX12_draw_2 : decode cX12_draw 2 = .ok (.putfield 1, 3) := by decide +kernel
theorem dX12_draw_5 : decode cX12_draw 5 = .ok (.aload_n 0, 1) := by decide +kernel
theorem dX12_draw_6 : decode cX12_draw 6 = .ok (.invokevirtual 250, 3) := by decide +kernel
theorem dX12_draw_9 : decode cX12_draw 9 = .ok (.aload_n 0, 1) := by decide +kernel
theorem dX12_draw_10 : decode cX12_draw 10 = .ok (.iconst 0, 1) := by decide +kernel
theorem dX12_draw_11 : decode cX12_draw 11 = .ok (.putfield 210, 3) := by decide +kernel
theorem dX12_draw_14 : decode cX12_draw 14 = .ok (.aload_n 0, 1) := by decide +kernel
theorem dX12_draw_15 : decode cX12_draw 15 = .ok (.iconst 0, 1) := by decide +kernel
theorem dX12_draw_16 : decode cX12_draw 16 = .ok (.invokevirtual 247, 3) := by decide +kernel
theorem dX12_draw_19 : decode cX12_draw 19 = .ok (.aload_n 0, 1) := by decide +kernel
theorem dX12_draw_20 : decode cX12_draw 20 = .ok (.getfield 194, 3) := by decide +kernel
theorem dX12_draw_23 : decode cX12_draw 23 = .ok (.ifCond .ne 20, 3) := by decide +kernel
theorem dX12_draw_26 : decode cX12_draw 26 = .ok (.aload_n 0, 1) := by decide +kernel
theorem dX12_draw_27 : decode cX12_draw 27 = .ok (.getfield 24, 3) := by decide +kernel
theorem dX12_draw_30 : decode cX12_draw 30 = .ok (.aload_n 0, 1) := by decide +kernel
theorem dX12_draw_31 : decode cX12_draw 31 = .ok (.getfield 191, 3) := by decide +kernel
theorem dX12_draw_34 : decode cX12_draw 34 = .ok (.iaload, 1) := by decide +kernel
theorem dX12_draw_35 : decode cX12_draw 35 = .ok (.ifCond .eq 8, 3) := by decide +kernel
theorem dX12_draw_38 : decode cX12_draw 38 = .ok (.aload_n 0, 1) := by decide +kernel
theorem dX12_draw_39 : decode cX12_draw 39 = .ok (.iconst 1, 1) := by decide +kernel
theorem dX12_draw_40 : decode cX12_draw 40 = .ok (.invokevirtual 200, 3) := by decide +kernel
theorem dX12_draw_43 : decode cX12_draw 43 = .ok (.aload_n 0, 1) := by decide +kernel
theorem dX12_draw_44 : decode cX12_draw 44 = .ok (.getfield 194, 3) := by decide +kernel
theorem dX12_draw_47 : decode cX12_draw 47 = .ok (.ifCond .le 8, 3) := by decide +kernel
theorem dX12_draw_50 : decode cX12_draw 50 = .ok (.aload_n 0, 1) := by decide +kernel
theorem dX12_draw_51 : decode cX12_draw 51 = .ok (.getfield 194, 3) := by decide +kernel
theorem dX12_draw_54 : decode cX12_draw 54 = .ok (.ireturn, 1) := by decide +kernel
theorem dX12_draw_55 : decode cX12_draw 55 = .ok (.aload_n 0, 1) := by decide +kernel
theorem dX12_draw_56 : decode cX12_draw 56 = .ok (.getfield 253, 3) := by decide +kernel
theorem dX12_draw_59 : decode cX12_draw 59 = .ok (.istore_n 1, 1) := by decide +kernel
theorem dX12_draw_60 : decode cX12_draw 60 = .ok (.aload_n 0, 1) := by decide +kernel
theorem dX12_draw_61 : decode cX12_draw 61 = .ok (.getfield 256, 3) := by decide +kernel
theorem dX12_draw_64 : decode cX12_draw 64 = .ok (.istore_n 2, 1) := by decide +kernel
theorem dX12_draw_65 : decode cX12_draw 65 = .ok (.aload_n 0, 1) := by decide +kernel
theorem dX12_draw_66 : decode cX12_draw 66 = .ok (.iconst 0, 1) := by decide +kernel
theorem dX12_draw_67 : decode cX12_draw 67 = .ok (.putfield 259, 3) := by decide +kernel
theorem dX12_draw_70 : decode cX12_draw 70 = .ok (.aload_n 0, 1) := by decide +kernel
theorem dX12_draw_71 : decode cX12_draw 71 = .ok (.iconst 0, 1) := by decide +kernel
theorem dX12_draw_72 : decode cX12_draw 72 = .ok (.putfield 262, 3) := by decide +kernel
theorem dX12_draw_75 : decode cX12_draw 75 = .ok (.aload_n 0, 1) := by decide +kernel
theorem dX12_draw_76 : decode cX12_draw 76 = .ok (.iconst 0, 1) := by decide +kernel
theorem dX12_draw_77 : decode cX12_draw 77 = .ok (.aload_n 0, 1) := by decide +kernel
theorem dX12_draw_78 : decode cX12_draw 78 = .ok (.getfield 210, 3) := by decide +kernel
theorem dX12_draw_81 : decode cX12_draw 81 = .ok (.iconst 0, 1) := by decide +kernel
theorem dX12_draw_82 : decode cX12_draw 82 = .ok (.iconst 0, 1) := by decide +kernel
theorem dX12_draw_83 : decode cX12_draw 83 = .ok (.iconst 0, 1) := by decide +kernel
theorem dX12_draw_84 : decode cX12_draw 84 = .ok (.invokevirtual 265, 3) := by decide +kernel
theorem dX12_draw_87 : decode cX12_draw 87 = .ok (.aload_n 0, 1) := by decide +kernel
theorem dX12_draw_88 : decode cX12_draw 88 = .ok (.getfield 259, 3) := by decide +kernel
theorem dX12_draw_91 : decode cX12_draw 91 = .ok (.ifCond .le 24, 3) := by decide +kernel
theorem dX12_draw_94 : decode cX12_draw 94 = .ok (.aload_n 0, 1) := by decide +kernel
theorem dX12_draw_95 : decode cX12_draw 95 = .ok (.iload_n 1, 1) := by decide +kernel
theorem dX12_draw_96 : decode cX12_draw 96 = .ok (.iload_n 2, 1) := by decide +kernel
theorem dX12_draw_97 : decode cX12_draw 97 = .ok (.invokevirtual 269, 3) := by decide +kernel
theorem dX12_draw_100 : decode cX12_draw 100 = .ok (.iconst (-1), 1) := by decide +kernel
theorem dX12_draw_101 : decode cX12_draw 101 = .ok (.aload_n 0, 1) := by decide +kernel
theorem dX12_draw_102 : decode cX12_draw 102 = .ok (.getfield 259, 3) := by decide +kernel
theorem dX12_draw_105 : decode cX12_draw 105 = .ok (.isub, 1) := by decide +kernel
theorem dX12_draw_106 : decode cX12_draw 106 = .ok (.bipush 16, 2) := by decide +kernel
theorem dX12_draw_108 : decode cX12_draw 108 = .ok (.aload_n 0, 1) := by decide +kernel
theorem dX12_draw_109 : decode cX12_draw 109 = .ok (.getfield 262, 3) := by decide +kernel
theorem dX12_draw_112 : decode cX12_draw 112 = .ok (.imul, 1) := by decide +kernel
theorem dX12_draw_113 : decode cX12_draw 113 = .ok (.isub, 1) := by decide +kernel
theorem dX12_draw_114 : decode cX12_draw 114 = .ok (.ireturn, 1) := by decide +kernel
theorem dX12_draw_115 : decode cX12_draw 115 = .ok (.aload_n 0, 1) := by decide +kernel
theorem dX12_draw_116 : decode cX12_draw 116 = .ok (.getfield 262, 3) := by decide +kernel
theorem dX12_draw_119 : decode cX12_draw 119 = .ok (.ifCond .le 33, 3) := by decide +kernel
theorem dX12_draw_122 : decode cX12_draw 122 = .ok (.aload_n 0, 1) := by decide +kernel
theorem dX12_draw_123 : decode cX12_draw 123 = .ok (.getfield 102, 3) := by decide +kernel
theorem dX12_draw_126 : decode cX12_draw 126 = .ok (.aload_n 0, 1) := by decide +kernel
theorem dX12_draw_127 : decode cX12_draw 127 = .ok (.getfield 273, 3) := by decide +kernel
theorem dX12_draw_130 : decode cX12_draw 130 = .ok (.iload_n 1, 1) := by decide +kernel
theorem dX12_draw_131 : decode cX12_draw 131 = .ok (.iastore, 1) := by decide +kernel
theorem dX12_draw_132 : decode cX12_draw 132 = .ok (.aload_n 0, 1) := by decide +kernel
theorem dX12_draw_133 : decode cX12_draw 133 = .ok (.getfield 105, 3) := by decide +kernel
theorem dX12_draw_136 : decode cX12_draw 136 = .ok (.aload_n 0, 1) := by decide +kernel
theorem dX12_draw_137 : decode cX12_draw 137 = .ok (.getfield 273, 3) := by decide +kernel
theorem dX12_draw_140 : decode cX12_draw 140 = .ok (.iload_n 2, 1) := by decide +kernel
theorem dX12_draw_141 : decode cX12_draw 141 = .ok (.iastore, 1) := by decide +kernel
theorem dX12_draw_142 : decode cX12_draw 142 = .ok (.aload_n 0, 1) := by decide +kernel
theorem dX12_draw_143 : decode cX12_draw 143 = .ok (.dup, 1) := by decide +kernel
theorem dX12_draw_144 : decode cX12_draw 144 = .ok (.getfield 273, 3) := by decide +kernel
theorem dX12_draw_147 : decode cX12_draw 147 = .ok (.iconst 1, 1) := by decide +kernel
theorem dX12_draw_148 : decode cX12_draw 148 = .ok (.iadd, 1) := by decide +kernel
theorem dX12_draw_149 : decode cX12_draw 149 = .ok (.putfield 273, 3) := by decide +kernel
theorem dX12_draw_152 : decode cX12_draw 152 = .ok (.iconst 0, 1) := by decide +kernel
theorem dX12_draw_153 : decode cX12_draw 153 = .ok (.ireturn, 1) := by decide +kernel
theorem dX12_draws_0 : decode cX12_draws 0 = .ok (.iload_n 1, 1) := by decide +kernel
theorem dX12_draws_1 : decode cX12_draws 1 = .ok (.istore 6, 2) := by decide +kernel
theorem dX12_draws_3 : decode cX12_draws 3 = .ok (.iload 6, 2) := by decide +kernel
theorem dX12_draws_5 : decode cX12_draws 5 = .ok (.iload_n 2, 1) := by decide +kernel
theorem dX12_draws_6 : decode cX12_draws 6 = .ok (.if_icmp .ge 250, 3) := by decide +kernel
theorem dX12_draws_9 : decode cX12_draws 9 = .ok (.aload_n 0, 1) := by decide +kernel
theorem dX12_draws_10 : decode cX12_draws 10 = .ok (.getfield 259, 3) := by decide +kernel
theorem dX12_draws_13 : decode cX12_draws 13 = .ok (.ifCond .ne 243, 3) := by decide +kernel
theorem dX12_draws_16 : decode cX12_draws 16 = .ok (.aload_n 0, 1) := by decide +kernel
theorem dX12_draws_17 : decode cX12_draws 17 = .ok (.getfield 53, 3) := by decide +kernel
theorem dX12_draws_20 : decode cX12_draws 20 = .ok (.iload 6, 2) := by decide +kernel
theorem dX12_draws_22 : decode cX12_draws 22 = .ok (.iaload, 1) := by decide +kernel
theorem dX12_draws_23 : decode cX12_draws 23 = .ok (.iconst 2, 1) := by decide +kernel
theorem dX12_draws_24 : decode cX12_draws 24 = .ok (.if_icmp .ne 101, 3) := by decide +kernel
theorem dX12_draws_27 : decode cX12_draws 27 = .ok (.iload_n 3, 1) := by decide +kernel
theorem dX12_draws_28 : decode cX12_draws 28 = .ok (.ifCond .eq 16, 3) := by decide +kernel
theorem dX12_draws_31 : decode cX12_draws 31 = .ok (.aload_n 0, 1) := by decide +kernel
theorem dX12_draws_32 : decode cX12_draws 32 = .ok (.getfield 56, 3) := by decide +kernel
theorem dX12_draws_35 : decode cX12_draws 35 = .ok (.iload 6, 2) := by decide +kernel
theorem dX12_draws_37 : decode cX12_draws 37 = .ok (.iconst 1, 1) := by decide +kernel
theorem dX12_draws_38 : decode cX12_draws 38 = .ok (.iadd, 1) := by decide +kernel
theorem dX12_draws_39 : decode cX12_draws 39 = .ok (.iaload, 1) := by decide +kernel
theorem dX12_draws_40 : decode cX12_draws 40 = .ok (.ineg, 1) := by decide +kernel
theorem dX12_draws_41 : decode cX12_draws 41 = .ok (.goto 12, 3) := by decide +kernel
theorem dX12_draws_44 : decode cX12_draws 44 = .ok (.aload_n 0, 1) := by decide +kernel
theorem dX12_draws_45 : decode cX12_draws 45 = .ok (.getfield 56, 3) := by decide +kernel
theorem dX12_draws_48 : decode cX12_draws 48 = .ok (.iload 6, 2) := by decide +kernel
theorem dX12_draws_50 : decode cX12_draws 50 = .ok (.iconst 1, 1) := by decide +kernel
theorem dX12_draws_51 : decode cX12_draws 51 = .ok (.iadd, 1) := by decide +kernel
theorem dX12_draws_52 : decode cX12_draws 52 = .ok (.iaload, 1) := by decide +kernel
theorem dX12_draws_53 : decode cX12_draws 53 = .ok (.istore 7, 2) := by decide +kernel
theorem dX12_draws_55 : decode cX12_draws 55 = .ok (.iconst 0, 1) := by decide +kernel
theorem dX12_draws_56 : decode cX12_draws 56 = .ok (.istore 8, 2) := by decide +kernel
theorem dX12_draws_58 : decode cX12_draws 58 = .ok (.iload 8, 2) := by decide +kernel
theorem dX12_draws_60 : decode cX12_draws 60 = .ok (.aload_n 0, 1) := by decide +kernel
theorem dX12_draws_61 : decode cX12_draws 61 = .ok (.getfield 56, 3) := by decide +kernel
theorem dX12_draws_64 : decode cX12_draws 64 = .ok (.iload 6, 2) := by decide +kernel
theorem dX12_draws_66 : decode cX12_draws 66 = .ok (.iaload, 1) := by decide +kernel
theorem dX12_draws_67 : decode cX12_draws 67 = .ok (.if_icmp .ge 55, 3) := by decide +kernel
theorem dX12_draws_70 : decode cX12_draws 70 = .ok (.aload_n 0, 1) := by decide +kernel
theorem dX12_draws_71 : decode cX12_draws 71 = .ok (.getfield 259, 3) := by decide +kernel
theorem dX12_draws_74 : decode cX12_draws 74 = .ok (.ifCond .ne 48, 3) := by decide +kernel
theorem dX12_draws_77 : decode cX12_draws 77 = .ok (.aload_n 0, 1) := by decide +kernel
theorem dX12_draws_78 : decode cX12_draws 78 = .ok (.iload 6, 2) := by decide +kernel
theorem dX12_draws_80 : decode cX12_draws 80 = .ok (.iconst 2, 1) := by decide +kernel
theorem dX12_draws_81 : decode cX12_draws 81 = .ok (.iadd, 1) := by decide +kernel
theorem dX12_draws_82 : decode cX12_draws 82 = .ok (.aload_n 0, 1) := by decide +kernel
theorem dX12_draws_83 : decode cX12_draws 83 = .ok (.getfield 62, 3) := by decide +kernel
theorem dX12_draws_86 : decode cX12_draws 86 = .ok (.iload 6, 2) := by decide +kernel
theorem dX12_draws_88 : decode cX12_draws 88 = .ok (.iaload, 1) := by decide +kernel
theorem dX12_draws_89 : decode cX12_draws 89 = .ok (.iload_n 3, 1) := by decide +kernel
theorem dX12_draws_90 : decode cX12_draws 90 = .ok (.iload 4, 2) := by decide +kernel
theorem dX12_draws_92 : decode cX12_draws 92 = .ok (.iload 8, 2) := by decide +kernel
theorem dX12_draws_94 : decode cX12_draws 94 = .ok (.iload 7, 2) := by decide +kernel
theorem dX12_draws_96 : decode cX12_draws 96 = .ok (.imul, 1) := by decide +kernel
theorem dX12_draws_97 : decode cX12_draws 97 = .ok (.iadd, 1) := by decide +kernel
theorem dX12_draws_98 : decode cX12_draws 98 = .ok (.iload 5, 2) := by decide +kernel
theorem dX12_draws_100 : decode cX12_draws 100 = .ok (.iload 8, 2) := by decide +kernel
theorem dX12_draws_102 : decode cX12_draws 102 = .ok (.aload_n 0, 1) := by decide +kernel
theorem dX12_draws_103 : decode cX12_draws 103 = .ok (.getfield 59, 3) := by decide +kernel
theorem dX12_draws_106 : decode cX12_draws 106 = .ok (.iload 6, 2) := by decide +kernel
theorem dX12_draws_108 : decode cX12_draws 108 = .ok (.iconst 1, 1) := by decide +kernel
theorem dX12_draws_109 : decode cX12_draws 109 = .ok (.iadd, 1) := by decide +kernel
theorem dX12_draws_110 : decode cX12_draws 110 = .ok (.iaload, 1) := by decide +kernel
theorem dX12_draws_111 : decode cX12_draws 111 = .ok (.imul, 1) := by decide +kernel
theorem dX12_draws_112 : decode cX12_draws 112 = .ok (.iadd, 1) := by decide +kernel
theorem dX12_draws_113 : decode cX12_draws 113 = .ok (.invokevirtual 265, 3) := by decide +kernel
theorem dX12_draws_116 : decode cX12_draws 116 = .ok (.iinc 8 1, 3) := by decide +kernel
theorem dX12_draws_119 : decode cX12_draws 119 = .ok (.goto (-61), 3) := by decide +kernel
theorem dX12_draws_122 : decode cX12_draws 122 = .ok (.goto 122, 3) := by decide +kernel
theorem dX12_draws_125 : decode cX12_draws 125 = .ok (.aload_n 0, 1) := by decide +kernel
theorem dX12_draws_126 : decode cX12_draws 126 = .ok (.getfield 53, 3) := by decide +kernel
theorem dX12_draws_129 : decode cX12_draws 129 = .ok (.iload 6, 2) := by decide +kernel
theorem dX12_draws_131 : decode cX12_draws 131 = .ok (.iaload, 1) := by decide +kernel
theorem dX12_draws_132 : decode cX12_draws 132 = .ok (.iconst 3, 1) := by decide +kernel
theorem dX12_draws_133 : decode cX12_draws 133 = .ok (.if_icmp .ne 54, 3) := by decide +kernel
theorem dX12_draws_136 : decode cX12_draws 136 = .ok (.aload_n 0, 1) := by decide +kernel
theorem dX12_draws_137 : decode cX12_draws 137 = .ok (.iload 6, 2) := by decide +kernel
theorem dX12_draws_139 : decode cX12_draws 139 = .ok (.iconst 1, 1) := by decide +kernel
theorem dX12_draws_140 : decode cX12_draws 140 = .ok (.iadd, 1) := by decide +kernel
theorem dX12_draws_141 : decode cX12_draws 141 = .ok (.aload_n 0, 1) := by decide +kernel
theorem dX12_draws_142 : decode cX12_draws 142 = .ok (.getfield 62, 3) := by decide +kernel
theorem dX12_draws_145 : decode cX12_draws 145 = .ok (.iload 6, 2) := by decide +kernel
theorem dX12_draws_147 : decode cX12_draws 147 = .ok (.iaload, 1) := by decide +kernel
theorem dX12_draws_148 : decode cX12_draws 148 = .ok (.iload_n 3, 1) := by decide +kernel
theorem dX12_draws_149 : decode cX12_draws 149 = .ok (.iload 4, 2) := by decide +kernel
theorem dX12_draws_151 : decode cX12_draws 151 = .ok (.iload 5, 2) := by decide +kernel
theorem dX12_draws_153 : decode cX12_draws 153 = .ok (.invokevirtual 265, 3) := by decide +kernel
theorem dX12_draws_156 : decode cX12_draws 156 = .ok (.aload_n 0, 1) := by decide +kernel
theorem dX12_draws_157 : decode cX12_draws 157 = .ok (.iload 6, 2) := by decide +kernel
theorem dX12_draws_159 : decode cX12_draws 159 = .ok (.iconst 1, 1) := by decide +kernel
theorem dX12_draws_160 : decode cX12_draws 160 = .ok (.iadd, 1) := by decide +kernel
theorem dX12_draws_161 : decode cX12_draws 161 = .ok (.aload_n 0, 1) := by decide +kernel
theorem dX12_draws_162 : decode cX12_draws 162 = .ok (.getfield 62, 3) := by decide +kernel
theorem dX12_draws_165 : decode cX12_draws 165 = .ok (.iload 6, 2) := by decide +kernel
theorem dX12_draws_167 : decode cX12_draws 167 = .ok (.iaload, 1) := by decide +kernel
theorem dX12_draws_168 : decode cX12_draws 168 = .ok (.iload_n 3, 1) := by decide +kernel
theorem dX12_draws_169 : decode cX12_draws 169 = .ok (.ifCond .ne 7, 3) := by decide +kernel
theorem dX12_draws_172 : decode cX12_draws 172 = .ok (.iconst 1, 1) := by decide +kernel
theorem dX12_draws_173 : decode cX12_draws 173 = .ok (.goto 4, 3) := by decide +kernel
theorem dX12_draws_176 : decode cX12_draws 176 = .ok (.iconst 0, 1) := by decide +kernel
theorem dX12_draws_177 : decode cX12_draws 177 = .ok (.iload 4, 2) := by decide +kernel
theorem dX12_draws_179 : decode cX12_draws 179 = .ok (.iload 5, 2) := by decide +kernel
theorem dX12_draws_181 : decode cX12_draws 181 = .ok (.invokevirtual 265, 3) := by decide +kernel
theorem dX12_draws_184 : decode cX12_draws 184 = .ok (.goto 60, 3) := by decide +kernel
theorem dX12_draws_187 : decode cX12_draws 187 = .ok (.aload_n 0, 1) := by decide +kernel
theorem dX12_draws_188 : decode cX12_draws 188 = .ok (.iload 6, 2) := by decide +kernel
theorem dX12_draws_190 : decode cX12_draws 190 = .ok (.iload_n 3, 1) := by decide +kernel
theorem dX12_draws_191 : decode cX12_draws 191 = .ok (.iload 4, 2) := by decide +kernel
theorem dX12_draws_193 : decode cX12_draws 193 = .ok (.iload 5, 2) := by decide +kernel
theorem dX12_draws_195 : decode cX12_draws 195 = .ok (.invokevirtual 276, 3) := by decide +kernel
theorem dX12_draws_198 : decode cX12_draws 198 = .ok (.aload_n 0, 1) := by decide +kernel
theorem dX12_draws_199 : decode cX12_draws 199 = .ok (.aload_n 0, 1) := by decide +kernel
theorem dX12_draws_200 : decode cX12_draws 200 = .ok (.getfield 53, 3) := by decide +kernel
theorem dX12_draws_203 : decode cX12_draws 203 = .ok (.iload 6, 2) := by decide +kernel
theorem dX12_draws_205 : decode cX12_draws 205 = .ok (.iaload, 1) := by decide +kernel
theorem dX12_draws_206 : decode cX12_draws 206 = .ok (.ifCond .ne 10, 3) := by decide +kernel
theorem dX12_draws_209 : decode cX12_draws 209 = .ok (.aload_n 0, 1) := by decide +kernel
theorem dX12_draws_210 : decode cX12_draws 210 = .ok (.invokevirtual 280, 3) := by decide +kernel
theorem dX12_draws_213 : decode cX12_draws 213 = .ok (.goto 7, 3) := by decide +kernel
theorem dX12_draws_216 : decode cX12_draws 216 = .ok (.aload_n 0, 1) := by decide +kernel
theorem dX12_draws_217 : decode cX12_draws 217 = .ok (.invokevirtual 283, 3) := by decide +kernel
theorem dX12_draws_220 : decode cX12_draws 220 = .ok (.putfield 259, 3) := by decide +kernel
theorem dX12_draws_223 : decode cX12_draws 223 = .ok (.aload_n 0, 1) := by decide +kernel
theorem dX12_draws_224 : decode cX12_draws 224 = .ok (.dup, 1) := by decide +kernel
theorem dX12_draws_225 : decode cX12_draws 225 = .ok (.getfield 262, 3) := by decide +kernel
theorem dX12_draws_228 : decode cX12_draws 228 = .ok (.aload_n 0, 1) := by decide +kernel
theorem dX12_draws_229 : decode cX12_draws 229 = .ok (.getfield 259, 3) := by decide +kernel
theorem dX12_draws_232 : decode cX12_draws 232 = .ok (.ifCond .ne 7, 3) := by decide +kernel
theorem dX12_draws_235 : decode cX12_draws 235 = .ok (.iconst 1, 1) := by decide +kernel
theorem dX12_draws_236 : decode cX12_draws 236 = .ok (.goto 4, 3) := by decide +kernel
theorem dX12_draws_239 : decode cX12_draws 239 = .ok (.iconst 0, 1) := by decide +kernel
theorem dX12_draws_240 : decode cX12_draws 240 = .ok (.iadd, 1) := by decide +kernel
theorem dX12_draws_241 : decode cX12_draws 241 = .ok (.putfield 262, 3) := by decide +kernel
theorem dX12_draws_244 : decode cX12_draws 244 = .ok (.aload_n 0, 1) := by decide +kernel
theorem dX12_draws_245 : decode cX12_draws 245 = .ok (.getfield 62, 3) := by decide +kernel
theorem dX12_draws_248 : decode cX12_draws 248 = .ok (.iload 6, 2) := by decide +kernel
theorem dX12_draws_250 : decode cX12_draws 250 = .ok (.iaload, 1) := by decide +kernel
theorem dX12_draws_251 : decode cX12_draws 251 = .ok (.istore 6, 2) := by decide +kernel
theorem dX12_draws_253 : decode cX12_draws 253 = .ok (.goto (-250), 3) := by decide +kernel
theorem dX12_draws_256 : decode cX12_draws 256 = .ok (.return_, 1) := by decide +kernel
theorem dX12_goes_0 : decode cX12_goes 0 = .ok (.aload_n 0, 1) := by decide +kernel
theorem dX12_goes_1 : decode cX12_goes 1 = .ok (.getfield 53, 3) := by decide +kernel
theorem dX12_goes_4 : decode cX12_goes 4 = .ok (.iload_n 1, 1) := by decide +kernel
theorem dX12_goes_5 : decode cX12_goes 5 = .ok (.iaload, 1) := by decide +kernel
theorem dX12_goes_6 : decode cX12_goes 6 = .ok (.ifCond .ne 8, 3) := by decide +kernel
theorem dX12_goes_9 : decode cX12_goes 9 = .ok (.bipush 16, 2) := by decide +kernel
theorem dX12_goes_11 : decode cX12_goes 11 = .ok (.goto 5, 3) := by decide +kernel
theorem dX12_goes_14 : decode cX12_goes 14 = .ok (.bipush 15, 2) := by decide +kernel
theorem dX12_goes_16 : decode cX12_goes 16 = .ok (.istore 5, 2) := by decide +kernel
theorem dX12_goes_18 : decode cX12_goes 18 = .ok (.iload_n 2, 1) := by decide +kernel
theorem dX12_goes_19 : decode cX12_goes 19 = .ok (.ifCond .eq 15, 3) := by decide +kernel
theorem dX12_goes_22 : decode cX12_goes 22 = .ok (.iload 5, 2) := by decide +kernel
theorem dX12_goes_24 : decode cX12_goes 24 = .ok (.aload_n 0, 1) := by decide +kernel
theorem dX12_goes_25 : decode cX12_goes 25 = .ok (.getfield 56, 3) := by decide +kernel
theorem dX12_goes_28 : decode cX12_goes 28 = .ok (.iload_n 1, 1) := by decide +kernel
theorem dX12_goes_29 : decode cX12_goes 29 = .ok (.iaload, 1) := by decide +kernel
theorem dX12_goes_30 : decode cX12_goes 30 = .ok (.isub, 1) := by decide +kernel
theorem dX12_goes_31 : decode cX12_goes 31 = .ok (.goto 9, 3) := by decide +kernel
theorem dX12_goes_34 : decode cX12_goes 34 = .ok (.aload_n 0, 1) := by decide +kernel
theorem dX12_goes_35 : decode cX12_goes 35 = .ok (.getfield 56, 3) := by decide +kernel
theorem dX12_goes_38 : decode cX12_goes 38 = .ok (.iload_n 1, 1) := by decide +kernel
theorem dX12_goes_39 : decode cX12_goes 39 = .ok (.iaload, 1) := by decide +kernel
theorem dX12_goes_40 : decode cX12_goes 40 = .ok (.iload_n 3, 1) := by decide +kernel
theorem dX12_goes_41 : decode cX12_goes 41 = .ok (.iadd, 1) := by decide +kernel
theorem dX12_goes_42 : decode cX12_goes 42 = .ok (.istore 6, 2) := by decide +kernel
theorem dX12_goes_44 : decode cX12_goes 44 = .ok (.aload_n 0, 1) := by decide +kernel
theorem dX12_goes_45 : decode cX12_goes 45 = .ok (.getfield 59, 3) := by decide +kernel
theorem dX12_goes_48 : decode cX12_goes 48 = .ok (.iload_n 1, 1) := by decide +kernel
theorem dX12_goes_49 : decode cX12_goes 49 = .ok (.iaload, 1) := by decide +kernel
theorem dX12_goes_50 : decode cX12_goes 50 = .ok (.iload 4, 2) := by decide +kernel
theorem dX12_goes_52 : decode cX12_goes 52 = .ok (.iadd, 1) := by decide +kernel
theorem dX12_goes_53 : decode cX12_goes 53 = .ok (.istore 7, 2) := by decide +kernel
theorem dX12_goes_55 : decode cX12_goes 55 = .ok (.aload_n 0, 1) := by decide +kernel
theorem dX12_goes_56 : decode cX12_goes 56 = .ok (.iconst 1, 1) := by decide +kernel
theorem dX12_goes_57 : decode cX12_goes 57 = .ok (.putfield 286, 3) := by decide +kernel
theorem dX12_goes_60 : decode cX12_goes 60 = .ok (.aload_n 0, 1) := by decide +kernel
theorem dX12_goes_61 : decode cX12_goes 61 = .ok (.getfield 65, 3) := by decide +kernel
theorem dX12_goes_64 : decode cX12_goes 64 = .ok (.iconst 0, 1) := by decide +kernel
theorem dX12_goes_65 : decode cX12_goes 65 = .ok (.iload 6, 2) := by decide +kernel
theorem dX12_goes_67 : decode cX12_goes 67 = .ok (.iastore, 1) := by decide +kernel
theorem dX12_goes_68 : decode cX12_goes 68 = .ok (.aload_n 0, 1) := by decide +kernel
theorem dX12_goes_69 : decode cX12_goes 69 = .ok (.getfield 68, 3) := by decide +kernel
theorem dX12_goes_72 : decode cX12_goes 72 = .ok (.iconst 0, 1) := by decide +kernel
theorem dX12_goes_73 : decode cX12_goes 73 = .ok (.iload 7, 2) := by decide +kernel
theorem dX12_goes_75 : decode cX12_goes 75 = .ok (.iastore, 1) := by decide +kernel
theorem dX12_goes_76 : decode cX12_goes 76 = .ok (.iload_n 1, 1) := by decide +kernel
theorem dX12_goes_77 : decode cX12_goes 77 = .ok (.iconst 1, 1) := by decide +kernel
theorem dX12_goes_78 : decode cX12_goes 78 = .ok (.iadd, 1) := by decide +kernel
theorem dX12_goes_79 : decode cX12_goes 79 = .ok (.istore 8, 2) := by decide +kernel
theorem dX12_goes_81 : decode cX12_goes 81 = .ok (.iload 8, 2) := by decide +kernel
theorem dX12_goes_83 : decode cX12_goes 83 = .ok (.aload_n 0, 1) := by decide +kernel
theorem dX12_goes_84 : decode cX12_goes 84 = .ok (.getfield 62, 3) := by decide +kernel
theorem dX12_goes_87 : decode cX12_goes 87 = .ok (.iload_n 1, 1) := by decide +kernel
theorem dX12_goes_88 : decode cX12_goes 88 = .ok (.iaload, 1) := by decide +kernel
theorem dX12_goes_89 : decode cX12_goes 89 = .ok (.if_icmp .ge 170, 3) := by decide +kernel
theorem dX12_goes_92 : decode cX12_goes 92 = .ok (.aload_n 0, 1) := by decide +kernel
theorem dX12_goes_93 : decode cX12_goes 93 = .ok (.getfield 56, 3) := by decide +kernel
theorem dX12_goes_96 : decode cX12_goes 96 = .ok (.iload 8, 2) := by decide +kernel
theorem dX12_goes_98 : decode cX12_goes 98 = .ok (.iaload, 1) := by decide +kernel
theorem dX12_goes_99 : decode cX12_goes 99 = .ok (.ifCond .ne 7, 3) := by decide +kernel
theorem dX12_goes_102 : decode cX12_goes 102 = .ok (.iconst 0, 1) := by decide +kernel
theorem dX12_goes_103 : decode cX12_goes 103 = .ok (.goto 27, 3) := by decide +kernel
theorem dX12_goes_106 : decode cX12_goes 106 = .ok (.aload_n 0, 1) := by decide +kernel
theorem dX12_goes_107 : decode cX12_goes 107 = .ok (.getfield 56, 3) := by decide +kernel
theorem dX12_goes_110 : decode cX12_goes 110 = .ok (.iload 8, 2) := by decide +kernel
theorem dX12_goes_112 : decode cX12_goes 112 = .ok (.iaload, 1) := by decide +kernel
theorem dX12_goes_113 : decode cX12_goes 113 = .ok (.ifCond .le 7, 3) := by decide +kernel
theorem dX12_goes_116 : decode cX12_goes 116 = .ok (.iconst 1, 1) := by decide +kernel
theorem dX12_goes_117 : decode cX12_goes 117 = .ok (.goto 4, 3) := by decide +kernel
theorem dX12_goes_120 : decode cX12_goes 120 = .ok (.iconst 0, 1) := by decide +kernel
theorem dX12_goes_121 : decode cX12_goes 121 = .ok (.iload_n 2, 1) := by decide +kernel
theorem dX12_goes_122 : decode cX12_goes 122 = .ok (.if_icmp .eq 7, 3) := by decide +kernel
theorem dX12_goes_125 : decode cX12_goes 125 = .ok (.iconst 1, 1) := by decide +kernel
theorem dX12_goes_126 : decode cX12_goes 126 = .ok (.goto 4, 3) := by decide +kernel
theorem dX12_goes_129 : decode cX12_goes 129 = .ok (.iconst (-1), 1) := by decide +kernel
theorem dX12_goes_130 : decode cX12_goes 130 = .ok (.istore 9, 2) := by decide +kernel
theorem dX12_goes_132 : decode cX12_goes 132 = .ok (.aload_n 0, 1) := by decide +kernel
theorem dX12_goes_133 : decode cX12_goes 133 = .ok (.getfield 59, 3) := by decide +kernel
theorem dX12_goes_136 : decode cX12_goes 136 = .ok (.iload 8, 2) := by decide +kernel
theorem dX12_goes_138 : decode cX12_goes 138 = .ok (.iaload, 1) := by decide +kernel
theorem dX12_goes_139 : decode cX12_goes 139 = .ok (.ifCond .ne 7, 3) := by decide +kernel
theorem dX12_goes_142 : decode cX12_goes 142 = .ok (.iconst 0, 1) := by decide +kernel
theorem dX12_goes_143 : decode cX12_goes 143 = .ok (.goto 18, 3) := by decide +kernel
theorem dX12_goes_146 : decode cX12_goes 146 = .ok (.aload_n 0, 1) := by decide +kernel
theorem dX12_goes_147 : decode cX12_goes 147 = .ok (.getfield 59, 3) := by decide +kernel
theorem dX12_goes_150 : decode cX12_goes 150 = .ok (.iload 8, 2) := by decide +kernel
theorem dX12_goes_152 : decode cX12_goes 152 = .ok (.iaload, 1) := by decide +kernel
theorem dX12_goes_153 : decode cX12_goes 153 = .ok (.ifCond .le 7, 3) := by decide +kernel
theorem dX12_goes_156 : decode cX12_goes 156 = .ok (.iconst 1, 1) := by decide +kernel
theorem dX12_goes_157 : decode cX12_goes 157 = .ok (.goto 4, 3) := by decide +kernel
theorem dX12_goes_160 : decode cX12_goes 160 = .ok (.iconst (-1), 1) := by decide +kernel
theorem dX12_goes_161 : decode cX12_goes 161 = .ok (.istore 10, 2) := by decide +kernel
theorem dX12_goes_163 : decode cX12_goes 163 = .ok (.aload_n 0, 1) := by decide +kernel
theorem dX12_goes_164 : decode cX12_goes 164 = .ok (.getfield 56, 3) := by decide +kernel
theorem dX12_goes_167 : decode cX12_goes 167 = .ok (.iload 8, 2) := by decide +kernel
theorem dX12_goes_169 : decode cX12_goes 169 = .ok (.iaload, 1) := by decide +kernel
theorem dX12_goes_170 : decode cX12_goes 170 = .ok (.aload_n 0, 1) := by decide +kernel
theorem dX12_goes_171 : decode cX12_goes 171 = .ok (.getfield 59, 3) := by decide +kernel
theorem dX12_goes_174 : decode cX12_goes 174 = .ok (.iload 8, 2) := by decide +kernel
theorem dX12_goes_176 : decode cX12_goes 176 = .ok (.iaload, 1) := by decide +kernel
theorem dX12_goes_177 : decode cX12_goes 177 = .ok (.iadd, 1) := by decide +kernel
theorem dX12_goes_178 : decode cX12_goes 178 = .ok (.istore 11, 2) := by decide +kernel
theorem dX12_goes_180 : decode cX12_goes 180 = .ok (.iconst 0, 1) := by decide +kernel
theorem dX12_goes_181 : decode cX12_goes 181 = .ok (.istore 12, 2) := by decide +kernel
theorem dX12_goes_183 : decode cX12_goes 183 = .ok (.iload 12, 2) := by decide +kernel
theorem dX12_goes_185 : decode cX12_goes 185 = .ok (.iload 11, 2) := by decide +kernel
theorem dX12_goes_187 : decode cX12_goes 187 = .ok (.ifCond .ge 9, 3) := by decide +kernel
theorem dX12_goes_190 : decode cX12_goes 190 = .ok (.iload 11, 2) := by decide +kernel
theorem dX12_goes_192 : decode cX12_goes 192 = .ok (.ineg, 1) := by decide +kernel
theorem dX12_goes_193 : decode cX12_goes 193 = .ok (.goto 5, 3) := by decide +kernel
theorem dX12_goes_196 : decode cX12_goes 196 = .ok (.iload 11, 2) := by decide +kernel
theorem dX12_goes_198 : decode cX12_goes 198 = .ok (.if_icmp .ge 55, 3) := by decide +kernel
theorem dX12_goes_201 : decode cX12_goes 201 = .ok (.iload 6, 2) := by decide +kernel
theorem dX12_goes_203 : decode cX12_goes 203 = .ok (.iload 9, 2) := by decide +kernel
theorem dX12_goes_205 : decode cX12_goes 205 = .ok (.iadd, 1) := by decide +kernel
theorem dX12_goes_206 : decode cX12_goes 206 = .ok (.istore 6, 2) := by decide +kernel
theorem dX12_goes_208 : decode cX12_goes 208 = .ok (.iload 7, 2) := by decide +kernel
theorem dX12_goes_210 : decode cX12_goes 210 = .ok (.iload 10, 2) := by decide +kernel
theorem dX12_goes_212 : decode cX12_goes 212 = .ok (.iadd, 1) := by decide +kernel
theorem dX12_goes_213 : decode cX12_goes 213 = .ok (.istore 7, 2) := by decide +kernel
theorem dX12_goes_215 : decode cX12_goes 215 = .ok (.aload_n 0, 1) := by decide +kernel
theorem dX12_goes_216 : decode cX12_goes 216 = .ok (.getfield 65, 3) := by decide +kernel
theorem dX12_goes_219 : decode cX12_goes 219 = .ok (.aload_n 0, 1) := by decide +kernel
theorem dX12_goes_220 : decode cX12_goes 220 = .ok (.getfield 286, 3) := by decide +kernel
theorem dX12_goes_223 : decode cX12_goes 223 = .ok (.iload 6, 2) := by decide +kernel
theorem dX12_goes_225 : decode cX12_goes 225 = .ok (.iastore, 1) := by decide +kernel
theorem dX12_goes_226 : decode cX12_goes 226 = .ok (.aload_n 0, 1) := by decide +kernel
theorem dX12_goes_227 : decode cX12_goes 227 = .ok (.getfield 68, 3) := by decide +kernel
theorem dX12_goes_230 : decode cX12_goes 230 = .ok (.aload_n 0, 1) := by decide +kernel
theorem dX12_goes_231 : decode cX12_goes 231 = .ok (.getfield 286, 3) := by decide +kernel
theorem dX12_goes_234 : decode cX12_goes 234 = .ok (.iload 7, 2) := by decide +kernel
theorem dX12_goes_236 : decode cX12_goes 236 = .ok (.iastore, 1) := by decide +kernel
theorem dX12_goes_237 : decode cX12_goes 237 = .ok (.aload_n 0, 1) := by decide +kernel
theorem dX12_goes_238 : decode cX12_goes 238 = .ok (.dup, 1) := by decide +kernel
theorem dX12_goes_239 : decode cX12_goes 239 = .ok (.getfield 286, 3) := by decide +kernel
theorem dX12_goes_242 : decode cX12_goes 242 = .ok (.iconst 1, 1) := by decide +kernel
theorem dX12_goes_243 : decode cX12_goes 243 = .ok (.iadd, 1) := by decide +kernel
theorem dX12_goes_244 : decode cX12_goes 244 = .ok (.putfield 286, 3) := by decide +kernel
theorem dX12_goes_247 : decode cX12_goes 247 = .ok (.iinc 12 1, 3) := by decide +kernel
theorem dX12_goes_250 : decode cX12_goes 250 = .ok (.goto (-67), 3) := by decide +kernel
theorem dX12_goes_253 : decode cX12_goes 253 = .ok (.iinc 8 1, 3) := by decide +kernel
theorem dX12_goes_256 : decode cX12_goes 256 = .ok (.goto (-175), 3) := by decide +kernel
theorem dX12_goes_259 : decode cX12_goes 259 = .ok (.return_, 1) := by decide +kernel
theorem dX12_isFlat_0 : decode cX12_isFlat 0 = .ok (.aload_n 0, 1) := by decide +kernel
theorem dX12_isFlat_1 : decode cX12_isFlat 1 = .ok (.getfield 68, 3) := by decide +kernel
theorem dX12_isFlat_4 : decode cX12_isFlat 4 = .ok (.iload_n 1, 1) := by decide +kernel
theorem dX12_isFlat_5 : decode cX12_isFlat 5 = .ok (.iaload, 1) := by decide +kernel
theorem dX12_isFlat_6 : decode cX12_isFlat 6 = .ok (.aload_n 0, 1) := by decide +kernel
theorem dX12_isFlat_7 : decode cX12_isFlat 7 = .ok (.getfield 68, 3) := by decide +kernel
theorem dX12_isFlat_10 : decode cX12_isFlat 10 = .ok (.iload_n 1, 1) := by decide +kernel
theorem dX12_isFlat_11 : decode cX12_isFlat 11 = .ok (.iconst 1, 1) := by decide +kernel
theorem dX12_isFlat_12 : decode cX12_isFlat 12 = .ok (.iadd, 1) := by decide +kernel
theorem dX12_isFlat_13 : decode cX12_isFlat 13 = .ok (.iaload, 1) := by decide +kernel
theorem dX12_isFlat_14 : decode cX12_isFlat 14 = .ok (.if_icmp .ne 7, 3) := by decide +kernel
theorem dX12_isFlat_17 : decode cX12_isFlat 17 = .ok (.iconst 1, 1) := by decide +kernel
theorem dX12_isFlat_18 : decode cX12_isFlat 18 = .ok (.goto 4, 3) := by decide +kernel
theorem dX12_isFlat_21 : decode cX12_isFlat 21 = .ok (.iconst 0, 1) := by decide +kernel
theorem dX12_isFlat_22 : decode cX12_isFlat 22 = .ok (.ireturn, 1) := by decide +kernel
theorem dX12_least_0 : decode cX12_least 0 = .ok (.iload_n 0, 1) := by decide +kernel
theorem dX12_least_1 : decode cX12_least 1 = .ok (.iload_n 1, 1) := by decide +kernel
theorem dX12_least_2 : decode cX12_least 2 = .ok (.if_icmp .ge 7, 3) := by decide +kernel
theorem dX12_least_5 : decode cX12_least 5 = .ok (.iload_n 0, 1) := by decide +kernel
theorem dX12_least_6 : decode cX12_least 6 = .ok (.goto 4, 3) := by decide +kernel
theorem dX12_least_9 : decode cX12_least 9 = .ok (.iload_n 1, 1) := by decide +kernel
theorem dX12_least_10 : decode cX12_least 10 = .ok (.ireturn, 1) := by decide +kernel
theorem dX12_sideAt_0 : decode cX12_sideAt 0 = .ok (.aload_n 0, 1) := by decide +kernel
theorem dX12_sideAt_1 : decode cX12_sideAt 1 = .ok (.getfield 65, 3) := by decide +kernel
theorem dX12_sideAt_4 : decode cX12_sideAt 4 = .ok (.iload_n 1, 1) := by decide +kernel
theorem dX12_sideAt_5 : decode cX12_sideAt 5 = .ok (.iaload, 1) := by decide +kernel
theorem dX12_sideAt_6 : decode cX12_sideAt 6 = .ok (.aload_n 0, 1) := by decide +kernel
theorem dX12_sideAt_7 : decode cX12_sideAt 7 = .ok (.getfield 65, 3) := by decide +kernel
theorem dX12_sideAt_10 : decode cX12_sideAt 10 = .ok (.iload_n 1, 1) := by decide +kernel
theorem dX12_sideAt_11 : decode cX12_sideAt 11 = .ok (.iconst 1, 1) := by decide +kernel
theorem dX12_sideAt_12 : decode cX12_sideAt 12 = .ok (.iadd, 1) := by decide +kernel
theorem dX12_sideAt_13 : decode cX12_sideAt 13 = .ok (.iaload, 1) := by decide +kernel
theorem dX12_sideAt_14 : decode cX12_sideAt 14 = .ok (.invokestatic 289, 3) := by decide +kernel
theorem dX12_sideAt_17 : decode cX12_sideAt 17 = .ok (.istore_n 2, 1) := by decide +kernel
theorem dX12_sideAt_18 : decode cX12_sideAt 18 = .ok (.aload_n 0, 1) := by decide +kernel
theorem dX12_sideAt_19 : decode cX12_sideAt 19 = .ok (.getfield 68, 3) := by decide +kernel
theorem dX12_sideAt_22 : decode cX12_sideAt 22 = .ok (.iload_n 1, 1) := by decide +kernel
theorem dX12_sideAt_23 : decode cX12_sideAt 23 = .ok (.iaload, 1) := by decide +kernel
theorem dX12_sideAt_24 : decode cX12_sideAt 24 = .ok (.aload_n 0, 1) := by decide +kernel
theorem dX12_sideAt_25 : decode cX12_sideAt 25 = .ok (.getfield 68, 3) := by decide +kernel
theorem dX12_sideAt_28 : decode cX12_sideAt 28 = .ok (.iload_n 1, 1) := by decide +kernel
theorem dX12_sideAt_29 : decode cX12_sideAt 29 = .ok (.iconst 1, 1) := by decide +kernel
theorem dX12_sideAt_30 : decode cX12_sideAt 30 = .ok (.iadd, 1) := by decide +kernel
theorem dX12_sideAt_31 : decode cX12_sideAt 31 = .ok (.iaload, 1) := by decide +kernel
theorem dX12_sideAt_32 : decode cX12_sideAt 32 = .ok (.invokestatic 289, 3) := by decide +kernel
theorem dX12_sideAt_35 : decode cX12_sideAt 35 = .ok (.istore_n 3, 1) := by decide +kernel
theorem dX12_sideAt_36 : decode cX12_sideAt 36 = .ok (.aload_n 0, 1) := by decide +kernel
theorem dX12_sideAt_37 : decode cX12_sideAt 37 = .ok (.iload_n 1, 1) := by decide +kernel
theorem dX12_sideAt_38 : decode cX12_sideAt 38 = .ok (.invokevirtual 292, 3) := by decide +kernel
theorem dX12_sideAt_41 : decode cX12_sideAt 41 = .ok (.ifCond .eq 12, 3) := by decide +kernel
theorem dX12_sideAt_44 : decode cX12_sideAt 44 = .ok (.bipush 16, 2) := by decide +kernel
theorem dX12_sideAt_46 : decode cX12_sideAt 46 = .ok (.iload_n 3, 1) := by decide +kernel
theorem dX12_sideAt_47 : decode cX12_sideAt 47 = .ok (.imul, 1) := by decide +kernel
theorem dX12_sideAt_48 : decode cX12_sideAt 48 = .ok (.iload_n 2, 1) := by decide +kernel
theorem dX12_sideAt_49 : decode cX12_sideAt 49 = .ok (.iadd, 1) := by decide +kernel
theorem dX12_sideAt_50 : decode cX12_sideAt 50 = .ok (.goto 13, 3) := by decide +kernel
theorem dX12_sideAt_53 : decode cX12_sideAt 53 = .ok (.sipush 208, 3) := by decide +kernel
theorem dX12_sideAt_56 : decode cX12_sideAt 56 = .ok (.bipush 17, 2) := by decide +kernel
theorem dX12_sideAt_58 : decode cX12_sideAt 58 = .ok (.iload_n 3, 1) := by decide +kernel
theorem dX12_sideAt_59 : decode cX12_sideAt 59 = .ok (.imul, 1) := by decide +kernel
theorem dX12_sideAt_60 : decode cX12_sideAt 60 = .ok (.iadd, 1) := by decide +kernel
theorem dX12_sideAt_61 : decode cX12_sideAt 61 = .ok (.iload_n 2, 1) := by decide +kernel
theorem dX12_sideAt_62 : decode cX12_sideAt 62 = .ok (.iadd, 1) := by decide +kernel
theorem dX12_sideAt_63 : decode cX12_sideAt 63 = .ok (.ireturn, 1) := by decide +kernel
theorem dX12_sideOf_0 : decode cX12_sideOf 0 = .ok (.iload_n 1, 1) := by decide +kernel
theorem dX12_sideOf_1 : decode cX12_sideOf 1 = .ok (.sipush 208, 3) := by decide +kernel
theorem dX12_sideOf_4 : decode cX12_sideOf 4 = .ok (.if_icmp .ge 12, 3) := by decide +kernel
theorem dX12_sideOf_7 : decode cX12_sideOf 7 = .ok (.aload_n 0, 1) := by decide +kernel
theorem dX12_sideOf_8 : decode cX12_sideOf 8 = .ok (.getfield 71, 3) := by decide +kernel
theorem dX12_sideOf_11 : decode cX12_sideOf 11 = .ok (.iload_n 1, 1) := by decide +kernel
theorem dX12_sideOf_12 : decode cX12_sideOf 12 = .ok (.iaload, 1) := by decide +kernel
theorem dX12_sideOf_13 : decode cX12_sideOf 13 = .ok (.goto 13, 3) := by decide +kernel
theorem dX12_sideOf_16 : decode cX12_sideOf 16 = .ok (.aload_n 0, 1) := by decide +kernel
theorem dX12_sideOf_17 : decode cX12_sideOf 17 = .ok (.getfield 74, 3) := by decide +kernel
theorem dX12_sideOf_20 : decode cX12_sideOf 20 = .ok (.iload_n 1, 1) := by decide +kernel
theorem dX12_sideOf_21 : decode cX12_sideOf 21 = .ok (.sipush 208, 3) := by decide +kernel
theorem dX12_sideOf_24 : decode cX12_sideOf 24 = .ok (.isub, 1) := by decide +kernel
theorem dX12_sideOf_25 : decode cX12_sideOf 25 = .ok (.iaload, 1) := by decide +kernel
theorem dX12_sideOf_26 : decode cX12_sideOf 26 = .ok (.ireturn, 1) := by decide +kernel
theorem dX12_setSide_0 : decode cX12_setSide 0 = .ok (.iload_n 1, 1) := by decide +kernel
theorem dX12_setSide_1 : decode cX12_setSide 1 = .ok (.sipush 208, 3) := by decide +kernel
theorem dX12_setSide_4 : decode cX12_setSide 4 = .ok (.if_icmp .ge 13, 3) := by decide +kernel
theorem dX12_setSide_7 : decode cX12_setSide 7 = .ok (.aload_n 0, 1) := by decide +kernel
theorem dX12_setSide_8 : decode cX12_setSide 8 = .ok (.getfield 71, 3) := by decide +kernel
theorem dX12_setSide_11 : decode cX12_setSide 11 = .ok (.iload_n 1, 1) := by decide +kernel
theorem dX12_setSide_12 : decode cX12_setSide 12 = .ok (.iload_n 2, 1) := by decide +kernel
theorem dX12_setSide_13 : decode cX12_setSide 13 = .ok (.iastore, 1) := by decide +kernel
theorem dX12_setSide_14 : decode cX12_setSide 14 = .ok (.goto 14, 3) := by decide +kernel
theorem dX12_setSide_17 : decode cX12_setSide 17 = .ok (.aload_n 0, 1) := by decide +kernel
theorem dX12_setSide_18 : decode cX12_setSide 18 = .ok (.getfield 74, 3) := by decide +kernel
theorem dX12_setSide_21 : decode cX12_setSide 21 = .ok (.iload_n 1, 1) := by decide +kernel
theorem dX12_setSide_22 : decode cX12_setSide 22 = .ok (.sipush 208, 3) := by decide +kernel
theorem dX12_setSide_25 : decode cX12_setSide 25 = .ok (.isub, 1) := by decide +kernel
theorem dX12_setSide_26 : decode cX12_setSide 26 = .ok (.iload_n 2, 1) := by decide +kernel
theorem dX12_setSide_27 : decode cX12_setSide 27 = .ok (.iastore, 1) := by decide +kernel
theorem dX12_setSide_28 : decode cX12_setSide 28 = .ok (.return_, 1) := by decide +kernel
theorem dX12_isOnParting_0 : decode cX12_isOnParting 0 = .ok (.iload_n 1, 1) := by decide +kernel
theorem dX12_isOnParting_1 : decode cX12_isOnParting 1 = .ok (.ifCond .le 19, 3) := by decide +kernel
theorem dX12_isOnParting_4 : decode cX12_isOnParting 4 = .ok (.aload_n 0, 1) := by decide +kernel
theorem dX12_isOnParting_5 : decode cX12_isOnParting 5 = .ok (.getfield 71, 3) := by decide +kernel
theorem dX12_isOnParting_8 : decode cX12_isOnParting 8 = .ok (.bipush 16, 2) := by decide +kernel
theorem dX12_isOnParting_10 : decode cX12_isOnParting 10 = .ok (.iload_n 2, 1) := by decide +kernel
theorem dX12_isOnParting_11 : decode cX12_isOnParting 11 = .ok (.imul, 1) := by decide +kernel
theorem dX12_isOnParting_12 : decode cX12_isOnParting 12 = .ok (.iload_n 1, 1) := by decide +kernel
theorem dX12_isOnParting_13 : decode cX12_isOnParting 13 = .ok (.iadd, 1) := by decide +kernel
theorem dX12_isOnParting_14 : decode cX12_isOnParting 14 = .ok (.iconst 1, 1) := by decide +kernel
theorem dX12_isOnParting_15 : decode cX12_isOnParting 15 = .ok (.isub, 1) := by decide +kernel
theorem dX12_isOnParting_16 : decode cX12_isOnParting 16 = .ok (.iaload, 1) := by decide +kernel
theorem dX12_isOnParting_17 : decode cX12_isOnParting 17 = .ok (.ifCond .gt 23, 3) := by decide +kernel
theorem dX12_isOnParting_20 : decode cX12_isOnParting 20 = .ok (.iload_n 1, 1) := by decide +kernel
theorem dX12_isOnParting_21 : decode cX12_isOnParting 21 = .ok (.bipush 16, 2) := by decide +kernel
theorem dX12_isOnParting_23 : decode cX12_isOnParting 23 = .ok (.if_icmp .ge 21, 3) := by decide +kernel
theorem dX12_isOnParting_26 : decode cX12_isOnParting 26 = .ok (.aload_n 0, 1) := by decide +kernel
theorem dX12_isOnParting_27 : decode cX12_isOnParting 27 = .ok (.getfield 71, 3) := by decide +kernel
theorem dX12_isOnParting_30 : decode cX12_isOnParting 30 = .ok (.bipush 16, 2) := by decide +kernel
theorem dX12_isOnParting_32 : decode cX12_isOnParting 32 = .ok (.iload_n 2, 1) := by decide +kernel
theorem dX12_isOnParting_33 : decode cX12_isOnParting 33 = .ok (.imul, 1) := by decide +kernel
theorem dX12_isOnParting_34 : decode cX12_isOnParting 34 = .ok (.iload_n 1, 1) := by decide +kernel
theorem dX12_isOnParting_35 : decode cX12_isOnParting 35 = .ok (.iadd, 1) := by decide +kernel
theorem dX12_isOnParting_36 : decode cX12_isOnParting 36 = .ok (.iaload, 1) := by decide +kernel
theorem dX12_isOnParting_37 : decode cX12_isOnParting 37 = .ok (.ifCond .le 7, 3) := by decide +kernel
theorem dX12_isOnParting_40 : decode cX12_isOnParting 40 = .ok (.iconst 1, 1) := by decide +kernel
theorem dX12_isOnParting_41 : decode cX12_isOnParting 41 = .ok (.goto 4, 3) := by decide +kernel
theorem dX12_isOnParting_44 : decode cX12_isOnParting 44 = .ok (.iconst 0, 1) := by decide +kernel
theorem dX12_isOnParting_45 : decode cX12_isOnParting 45 = .ok (.istore_n 3, 1) := by decide +kernel
theorem dX12_isOnParting_46 : decode cX12_isOnParting 46 = .ok (.iload_n 3, 1) := by decide +kernel
theorem dX12_isOnParting_47 : decode cX12_isOnParting 47 = .ok (.ifCond .ne 43, 3) := by decide +kernel
theorem dX12_isOnParting_50 : decode cX12_isOnParting 50 = .ok (.iload_n 2, 1) := by decide +kernel
theorem dX12_isOnParting_51 : decode cX12_isOnParting 51 = .ok (.ifCond .le 19, 3) := by decide +kernel
theorem dX12_isOnParting_54 : decode cX12_isOnParting 54 = .ok (.aload_n 0, 1) := by decide +kernel
theorem dX12_isOnParting_55 : decode cX12_isOnParting 55 = .ok (.getfield 74, 3) := by decide +kernel
theorem dX12_isOnParting_58 : decode cX12_isOnParting 58 = .ok (.bipush 17, 2) := by decide +kernel
theorem dX12_isOnParting_60 : decode cX12_isOnParting 60 = .ok (.iload_n 2, 1) := by decide +kernel
theorem dX12_isOnParting_61 : decode cX12_isOnParting 61 = .ok (.iconst 1, 1) := by decide +kernel
theorem dX12_isOnParting_62 : decode cX12_isOnParting 62 = .ok (.isub, 1) := by decide +kernel
theorem dX12_isOnParting_63 : decode cX12_isOnParting 63 = .ok (.imul, 1) := by decide +kernel
theorem dX12_isOnParting_64 : decode cX12_isOnParting 64 = .ok (.iload_n 1, 1) := by decide +kernel
theorem dX12_isOnParting_65 : decode cX12_isOnParting 65 = .ok (.iadd, 1) := by decide +kernel
theorem dX12_isOnParting_66 : decode cX12_isOnParting 66 = .ok (.iaload, 1) := by decide +kernel
theorem dX12_isOnParting_67 : decode cX12_isOnParting 67 = .ok (.ifCond .gt 23, 3) := by decide +kernel
theorem dX12_isOnParting_70 : decode cX12_isOnParting 70 = .ok (.iload_n 2, 1) := by decide +kernel
theorem dX12_isOnParting_71 : decode cX12_isOnParting 71 = .ok (.bipush 12, 2) := by decide +kernel
theorem dX12_isOnParting_73 : decode cX12_isOnParting 73 = .ok (.if_icmp .ge 21, 3) := by decide +kernel
theorem dX12_isOnParting_76 : decode cX12_isOnParting 76 = .ok (.aload_n 0, 1) := by decide +kernel
theorem dX12_isOnParting_77 : decode cX12_isOnParting 77 = .ok (.getfield 74, 3) := by decide +kernel
theorem dX12_isOnParting_80 : decode cX12_isOnParting 80 = .ok (.bipush 17, 2) := by decide +kernel
theorem dX12_isOnParting_82 : decode cX12_isOnParting 82 = .ok (.iload_n 2, 1) := by decide +kernel
theorem dX12_isOnParting_83 : decode cX12_isOnParting 83 = .ok (.imul, 1) := by decide +kernel
theorem dX12_isOnParting_84 : decode cX12_isOnParting 84 = .ok (.iload_n 1, 1) := by decide +kernel
theorem dX12_isOnParting_85 : decode cX12_isOnParting 85 = .ok (.iadd, 1) := by decide +kernel
theorem dX12_isOnParting_86 : decode cX12_isOnParting 86 = .ok (.iaload, 1) := by decide +kernel
theorem dX12_isOnParting_87 : decode cX12_isOnParting 87 = .ok (.ifCond .le 7, 3) := by decide +kernel
theorem dX12_isOnParting_90 : decode cX12_isOnParting 90 = .ok (.iconst 1, 1) := by decide +kernel
theorem dX12_isOnParting_91 : decode cX12_isOnParting 91 = .ok (.goto 4, 3) := by decide +kernel
theorem dX12_isOnParting_94 : decode cX12_isOnParting 94 = .ok (.iconst 0, 1) := by decide +kernel
theorem dX12_isOnParting_95 : decode cX12_isOnParting 95 = .ok (.ireturn, 1) := by decide +kernel
theorem dX12_whyNot_0 : decode cX12_whyNot 0 = .ok (.aload_n 0, 1) := by decide +kernel
theorem dX12_whyNot_1 : decode cX12_whyNot 1 = .ok (.getfield 253, 3) := by decide +kernel
theorem dX12_whyNot_4 : decode cX12_whyNot 4 = .ok (.bipush 60, 2) := by decide +kernel
theorem dX12_whyNot_6 : decode cX12_whyNot 6 = .ok (.if_icmp .ne 6, 3) := by decide +kernel
theorem dX12_whyNot_9 : decode cX12_whyNot 9 = .ok (.bipush 9, 2) := by decide +kernel
theorem dX12_whyNot_11 : decode cX12_whyNot 11 = .ok (.ireturn, 1) := by decide +kernel
theorem dX12_whyNot_12 : decode cX12_whyNot 12 = .ok (.iconst 0, 1) := by decide +kernel
theorem dX12_whyNot_13 : decode cX12_whyNot 13 = .ok (.istore_n 1, 1) := by decide +kernel
theorem dX12_whyNot_14 : decode cX12_whyNot 14 = .ok (.iload_n 1, 1) := by decide +kernel
theorem dX12_whyNot_15 : decode cX12_whyNot 15 = .ok (.aload_n 0, 1) := by decide +kernel
theorem dX12_whyNot_16 : decode cX12_whyNot 16 = .ok (.getfield 286, 3) := by decide +kernel
theorem dX12_whyNot_19 : decode cX12_whyNot 19 = .ok (.if_icmp .ge 51, 3) := by decide +kernel
theorem dX12_whyNot_22 : decode cX12_whyNot 22 = .ok (.aload_n 0, 1) := by decide +kernel
theorem dX12_whyNot_23 : decode cX12_whyNot 23 = .ok (.getfield 65, 3) := by decide +kernel
theorem dX12_whyNot_26 : decode cX12_whyNot 26 = .ok (.iload_n 1, 1) := by decide +kernel
theorem dX12_whyNot_27 : decode cX12_whyNot 27 = .ok (.iaload, 1) := by decide +kernel
theorem dX12_whyNot_28 : decode cX12_whyNot 28 = .ok (.ifCond .lt 34, 3) := by decide +kernel
theorem dX12_whyNot_31 : decode cX12_whyNot 31 = .ok (.aload_n 0, 1) := by decide +kernel
theorem dX12_whyNot_32 : decode cX12_whyNot 32 = .ok (.getfield 65, 3) := by decide +kernel
theorem dX12_whyNot_35 : decode cX12_whyNot 35 = .ok (.iload_n 1, 1) := by decide +kernel
theorem dX12_whyNot_36 : decode cX12_whyNot 36 = .ok (.iaload, 1) := by decide +kernel
theorem dX12_whyNot_37 : decode cX12_whyNot 37 = .ok (.bipush 16, 2) := by decide +kernel
theorem dX12_whyNot_39 : decode cX12_whyNot 39 = .ok (.if_icmp .gt 23, 3) := by decide +kernel
theorem dX12_whyNot_42 : decode cX12_whyNot 42 = .ok (.aload_n 0, 1) := by decide +kernel
theorem dX12_whyNot_43 : decode cX12_whyNot 43 = .ok (.getfield 68, 3) := by decide +kernel
theorem dX12_whyNot_46 : decode cX12_whyNot 46 = .ok (.iload_n 1, 1) := by decide +kernel
theorem dX12_whyNot_47 : decode cX12_whyNot 47 = .ok (.iaload, 1) := by decide +kernel
theorem dX12_whyNot_48 : decode cX12_whyNot 48 = .ok (.ifCond .lt 14, 3) := by decide +kernel
theorem dX12_whyNot_51 : decode cX12_whyNot 51 = .ok (.aload_n 0, 1) := by decide +kernel
theorem dX12_whyNot_52 : decode cX12_whyNot 52 = .ok (.getfield 68, 3) := by decide +kernel
theorem dX12_whyNot_55 : decode cX12_whyNot 55 = .ok (.iload_n 1, 1) := by decide +kernel
theorem dX12_whyNot_56 : decode cX12_whyNot 56 = .ok (.iaload, 1) := by decide +kernel
theorem dX12_whyNot_57 : decode cX12_whyNot 57 = .ok (.bipush 12, 2) := by decide +kernel
theorem dX12_whyNot_59 : decode cX12_whyNot 59 = .ok (.if_icmp .le 5, 3) := by decide +kernel
theorem dX12_whyNot_62 : decode cX12_whyNot 62 = .ok (.iconst 1, 1) := by decide +kernel
theorem dX12_whyNot_63 : decode cX12_whyNot 63 = .ok (.ireturn, 1) := by decide +kernel
theorem dX12_whyNot_64 : decode cX12_whyNot 64 = .ok (.iinc 1 1, 3) := by decide +kernel
theorem dX12_whyNot_67 : decode cX12_whyNot 67 = .ok (.goto (-53), 3) := by decide +kernel
theorem dX12_whyNot_70 : decode cX12_whyNot 70 = .ok (.aload_n 0, 1) := by decide +kernel
theorem dX12_whyNot_71 : decode cX12_whyNot 71 = .ok (.getfield 286, 3) := by decide +kernel
theorem dX12_whyNot_74 : decode cX12_whyNot 74 = .ok (.iconst 1, 1) := by decide +kernel
theorem dX12_whyNot_75 : decode cX12_whyNot 75 = .ok (.if_icmp .ne 5, 3) := by decide +kernel
theorem dX12_whyNot_78 : decode cX12_whyNot 78 = .ok (.iconst 2, 1) := by decide +kernel
theorem dX12_whyNot_79 : decode cX12_whyNot 79 = .ok (.ireturn, 1) := by decide +kernel
theorem dX12_whyNot_80 : decode cX12_whyNot 80 = .ok (.iconst 0, 1) := by decide +kernel
theorem dX12_whyNot_81 : decode cX12_whyNot 81 = .ok (.istore_n 1, 1) := by decide +kernel
theorem dX12_whyNot_82 : decode cX12_whyNot 82 = .ok (.iload_n 1, 1) := by decide +kernel
theorem dX12_whyNot_83 : decode cX12_whyNot 83 = .ok (.sipush 412, 3) := by decide +kernel
theorem dX12_whyNot_86 : decode cX12_whyNot 86 = .ok (.if_icmp .ge 16, 3) := by decide +kernel
theorem dX12_whyNot_89 : decode cX12_whyNot 89 = .ok (.aload_n 0, 1) := by decide +kernel
theorem dX12_whyNot_90 : decode cX12_whyNot 90 = .ok (.getfield 80, 3) := by decide +kernel
theorem dX12_whyNot_93 : decode cX12_whyNot 93 = .ok (.iload_n 1, 1) := by decide +kernel
theorem dX12_whyNot_94 : decode cX12_whyNot 94 = .ok (.iconst 0, 1) := by decide +kernel
theorem dX12_whyNot_95 : decode cX12_whyNot 95 = .ok (.bastore, 1) := by decide +kernel
theorem dX12_whyNot_96 : decode cX12_whyNot 96 = .ok (.iinc 1 1, 3) := by decide +kernel
theorem dX12_whyNot_99 : decode cX12_whyNot 99 = .ok (.goto (-17), 3) := by decide +kernel
theorem dX12_whyNot_102 : decode cX12_whyNot 102 = .ok (.iconst 0, 1) := by decide +kernel
theorem dX12_whyNot_103 : decode cX12_whyNot 103 = .ok (.istore_n 1, 1) := by decide +kernel
theorem dX12_whyNot_104 : decode cX12_whyNot 104 = .ok (.iload_n 1, 1) := by decide +kernel
theorem dX12_whyNot_105 : decode cX12_whyNot 105 = .ok (.iconst 1, 1) := by decide +kernel
theorem dX12_whyNot_106 : decode cX12_whyNot 106 = .ok (.iadd, 1) := by decide +kernel
theorem dX12_whyNot_107 : decode cX12_whyNot 107 = .ok (.aload_n 0, 1) := by decide +kernel
theorem dX12_whyNot_108 : decode cX12_whyNot 108 = .ok (.getfield 286, 3) := by decide +kernel
theorem dX12_whyNot_111 : decode cX12_whyNot 111 = .ok (.if_icmp .ge 47, 3) := by decide +kernel
theorem dX12_whyNot_114 : decode cX12_whyNot 114 = .ok (.aload_n 0, 1) := by decide +kernel
theorem dX12_whyNot_115 : decode cX12_whyNot 115 = .ok (.getfield 80, 3) := by decide +kernel
theorem dX12_whyNot_118 : decode cX12_whyNot 118 = .ok (.aload_n 0, 1) := by decide +kernel
theorem dX12_whyNot_119 : decode cX12_whyNot 119 = .ok (.iload_n 1, 1) := by decide +kernel
theorem dX12_whyNot_120 : decode cX12_whyNot 120 = .ok (.invokevirtual 295, 3) := by decide +kernel
theorem dX12_whyNot_123 : decode cX12_whyNot 123 = .ok (.baload, 1) := by decide +kernel
theorem dX12_whyNot_124 : decode cX12_whyNot 124 = .ok (.ifCond .ne 15, 3) := by decide +kernel
theorem dX12_whyNot_127 : decode cX12_whyNot 127 = .ok (.aload_n 0, 1) := by decide +kernel
theorem dX12_whyNot_128 : decode cX12_whyNot 128 = .ok (.aload_n 0, 1) := by decide +kernel
theorem dX12_whyNot_129 : decode cX12_whyNot 129 = .ok (.iload_n 1, 1) := by decide +kernel
theorem dX12_whyNot_130 : decode cX12_whyNot 130 = .ok (.invokevirtual 295, 3) := by decide +kernel
theorem dX12_whyNot_133 : decode cX12_whyNot 133 = .ok (.invokevirtual 298, 3) := by decide +kernel
theorem dX12_whyNot_136 : decode cX12_whyNot 136 = .ok (.ifCond .le 5, 3) := by decide +kernel
theorem dX12_whyNot_139 : decode cX12_whyNot 139 = .ok (.iconst 3, 1) := by decide +kernel
theorem dX12_whyNot_140 : decode cX12_whyNot 140 = .ok (.ireturn, 1) := by decide +kernel
theorem dX12_whyNot_141 : decode cX12_whyNot 141 = .ok (.aload_n 0, 1) := by decide +kernel
theorem dX12_whyNot_142 : decode cX12_whyNot 142 = .ok (.getfield 80, 3) := by decide +kernel
theorem dX12_whyNot_145 : decode cX12_whyNot 145 = .ok (.aload_n 0, 1) := by decide +kernel
theorem dX12_whyNot_146 : decode cX12_whyNot 146 = .ok (.iload_n 1, 1) := by decide +kernel
theorem dX12_whyNot_147 : decode cX12_whyNot 147 = .ok (.invokevirtual 295, 3) := by decide +kernel
theorem dX12_whyNot_150 : decode cX12_whyNot 150 = .ok (.iconst 1, 1) := by decide +kernel
theorem dX12_whyNot_151 : decode cX12_whyNot 151 = .ok (.bastore, 1) := by decide +kernel
theorem dX12_whyNot_152 : decode cX12_whyNot 152 = .ok (.iinc 1 1, 3) := by decide +kernel
theorem dX12_whyNot_155 : decode cX12_whyNot 155 = .ok (.goto (-51), 3) := by decide +kernel
theorem dX12_whyNot_158 : decode cX12_whyNot 158 = .ok (.iconst 0, 1) := by decide +kernel
theorem dX12_whyNot_159 : decode cX12_whyNot 159 = .ok (.istore_n 1, 1) := by decide +kernel
theorem dX12_whyNot_160 : decode cX12_whyNot 160 = .ok (.iload_n 1, 1) := by decide +kernel
theorem dX12_whyNot_161 : decode cX12_whyNot 161 = .ok (.sipush 221, 3) := by decide +kernel
theorem dX12_whyNot_164 : decode cX12_whyNot 164 = .ok (.if_icmp .ge 16, 3) := by decide +kernel
theorem dX12_whyNot_167 : decode cX12_whyNot 167 = .ok (.aload_n 0, 1) := by decide +kernel
theorem dX12_whyNot_168 : decode cX12_whyNot 168 = .ok (.getfield 77, 3) := by decide +kernel
theorem dX12_whyNot_171 : decode cX12_whyNot 171 = .ok (.iload_n 1, 1) := by decide +kernel
theorem dX12_whyNot_172 : decode cX12_whyNot 172 = .ok (.iconst 0, 1) := by decide +kernel
theorem dX12_whyNot_173 : decode cX12_whyNot 173 = .ok (.iastore, 1) := by decide +kernel
theorem dX12_whyNot_174 : decode cX12_whyNot 174 = .ok (.iinc 1 1, 3) := by decide +kernel
theorem dX12_whyNot_177 : decode cX12_whyNot 177 = .ok (.goto (-17), 3) := by decide +kernel
theorem dX12_whyNot_180 : decode cX12_whyNot 180 = .ok (.iconst 0, 1) := by decide +kernel
theorem dX12_whyNot_181 : decode cX12_whyNot 181 = .ok (.istore_n 1, 1) := by decide +kernel
theorem dX12_whyNot_182 : decode cX12_whyNot 182 = .ok (.iload_n 1, 1) := by decide +kernel
theorem dX12_whyNot_183 : decode cX12_whyNot 183 = .ok (.aload_n 0, 1) := by decide +kernel
theorem dX12_whyNot_184 : decode cX12_whyNot 184 = .ok (.getfield 286, 3) := by decide +kernel
theorem dX12_whyNot_187 : decode cX12_whyNot 187 = .ok (.if_icmp .ge 34, 3) := by decide +kernel
theorem dX12_whyNot_190 : decode cX12_whyNot 190 = .ok (.aload_n 0, 1) := by decide +kernel
theorem dX12_whyNot_191 : decode cX12_whyNot 191 = .ok (.getfield 77, 3) := by decide +kernel
theorem dX12_whyNot_194 : decode cX12_whyNot 194 = .ok (.bipush 17, 2) := by decide +kernel
theorem dX12_whyNot_196 : decode cX12_whyNot 196 = .ok (.aload_n 0, 1) := by decide +kernel
theorem dX12_whyNot_197 : decode cX12_whyNot 197 = .ok (.getfield 68, 3) := by decide +kernel
theorem dX12_whyNot_200 : decode cX12_whyNot 200 = .ok (.iload_n 1, 1) := by decide +kernel
theorem dX12_whyNot_201 : decode cX12_whyNot 201 = .ok (.iaload, 1) := by decide +kernel
theorem dX12_whyNot_202 : decode cX12_whyNot 202 = .ok (.imul, 1) := by decide +kernel
theorem dX12_whyNot_203 : decode cX12_whyNot 203 = .ok (.aload_n 0, 1) := by decide +kernel
theorem dX12_whyNot_204 : decode cX12_whyNot 204 = .ok (.getfield 65, 3) := by decide +kernel
theorem dX12_whyNot_207 : decode cX12_whyNot 207 = .ok (.iload_n 1, 1) := by decide +kernel
theorem dX12_whyNot_208 : decode cX12_whyNot 208 = .ok (.iaload, 1) := by decide +kernel
theorem dX12_whyNot_209 : decode cX12_whyNot 209 = .ok (.iadd, 1) := by decide +kernel
theorem dX12_whyNot_210 : decode cX12_whyNot 210 = .ok (.dup2, 1) := by decide +kernel
theorem dX12_whyNot_211 : decode cX12_whyNot 211 = .ok (.iaload, 1) := by decide +kernel
theorem dX12_whyNot_212 : decode cX12_whyNot 212 = .ok (.iconst 1, 1) := by decide +kernel
theorem dX12_whyNot_213 : decode cX12_whyNot 213 = .ok (.iadd, 1) := by decide +kernel
theorem dX12_whyNot_214 : decode cX12_whyNot 214 = .ok (.iastore, 1) := by decide +kernel
theorem dX12_whyNot_215 : decode cX12_whyNot 215 = .ok (.iinc 1 1, 3) := by decide +kernel
theorem dX12_whyNot_218 : decode cX12_whyNot 218 = .ok (.goto (-36), 3) := by decide +kernel
theorem dX12_whyNot_221 : decode cX12_whyNot 221 = .ok (.iconst 1, 1) := by decide +kernel
theorem dX12_whyNot_222 : decode cX12_whyNot 222 = .ok (.istore_n 1, 1) := by decide +kernel
theorem dX12_whyNot_223 : decode cX12_whyNot 223 = .ok (.iload_n 1, 1) := by decide +kernel
theorem dX12_whyNot_224 : decode cX12_whyNot 224 = .ok (.iconst 1, 1) := by decide +kernel
theorem dX12_whyNot_225 : decode cX12_whyNot 225 = .ok (.iadd, 1) := by decide +kernel
theorem dX12_whyNot_226 : decode cX12_whyNot 226 = .ok (.aload_n 0, 1) := by decide +kernel
theorem dX12_whyNot_227 : decode cX12_whyNot 227 = .ok (.getfield 286, 3) := by decide +kernel
theorem dX12_whyNot_230 : decode cX12_whyNot 230 = .ok (.if_icmp .ge 55, 3) := by decide +kernel
theorem dX12_whyNot_233 : decode cX12_whyNot 233 = .ok (.aload_n 0, 1) := by decide +kernel
theorem dX12_whyNot_234 : decode cX12_whyNot 234 = .ok (.aload_n 0, 1) := by decide +kernel
theorem dX12_whyNot_235 : decode cX12_whyNot 235 = .ok (.getfield 65, 3) := by decide +kernel
theorem dX12_whyNot_238 : decode cX12_whyNot 238 = .ok (.iload_n 1, 1) := by decide +kernel
theorem dX12_whyNot_239 : decode cX12_whyNot 239 = .ok (.iaload, 1) := by decide +kernel
theorem dX12_whyNot_240 : decode cX12_whyNot 240 = .ok (.aload_n 0, 1) := by decide +kernel
theorem dX12_whyNot_241 : decode cX12_whyNot 241 = .ok (.getfield 68, 3) := by decide +kernel
theorem dX12_whyNot_244 : decode cX12_whyNot 244 = .ok (.iload_n 1, 1) := by decide +kernel
theorem dX12_whyNot_245 : decode cX12_whyNot 245 = .ok (.iaload, 1) := by decide +kernel
theorem dX12_whyNot_246 : decode cX12_whyNot 246 = .ok (.invokevirtual 301, 3) := by decide +kernel
theorem dX12_whyNot_249 : decode cX12_whyNot 249 = .ok (.ifCond .ne 28, 3) := by decide +kernel
theorem dX12_whyNot_252 : decode cX12_whyNot 252 = .ok (.aload_n 0, 1) := by decide +kernel
theorem dX12_whyNot_253 : decode cX12_whyNot 253 = .ok (.getfield 77, 3) := by decide +kernel
theorem dX12_whyNot_256 : decode cX12_whyNot 256 = .ok (.bipush 17, 2) := by decide +kernel
theorem dX12_whyNot_258 : decode cX12_whyNot 258 = .ok (.aload_n 0, 1) := by decide +kernel
theorem dX12_whyNot_259 : decode cX12_whyNot 259 = .ok (.getfield 68, 3) := by decide +kernel
theorem dX12_whyNot_262 : decode cX12_whyNot 262 = .ok (.iload_n 1, 1) := by decide +kernel
theorem dX12_whyNot_263 : decode cX12_whyNot 263 = .ok (.iaload, 1) := by decide +kernel
theorem dX12_whyNot_264 : decode cX12_whyNot 264 = .ok (.imul, 1) := by decide +kernel
theorem dX12_whyNot_265 : decode cX12_whyNot 265 = .ok (.aload_n 0, 1) := by decide +kernel
theorem dX12_whyNot_266 : decode cX12_whyNot 266 = .ok (.getfield 65, 3) := by decide +kernel
theorem dX12_whyNot_269 : decode cX12_whyNot 269 = .ok (.iload_n 1, 1) := by decide +kernel
theorem dX12_whyNot_270 : decode cX12_whyNot 270 = .ok (.iaload, 1) := by decide +kernel
theorem dX12_whyNot_271 : decode cX12_whyNot 271 = .ok (.iadd, 1) := by decide +kernel
theorem dX12_whyNot_272 : decode cX12_whyNot 272 = .ok (.iaload, 1) := by decide +kernel
theorem dX12_whyNot_273 : decode cX12_whyNot 273 = .ok (.iconst 1, 1) := by decide +kernel
theorem dX12_whyNot_274 : decode cX12_whyNot 274 = .ok (.if_icmp .le 5, 3) := by decide +kernel
theorem dX12_whyNot_277 : decode cX12_whyNot 277 = .ok (.iconst 4, 1) := by decide +kernel
theorem dX12_whyNot_278 : decode cX12_whyNot 278 = .ok (.ireturn, 1) := by decide +kernel
theorem dX12_whyNot_279 : decode cX12_whyNot 279 = .ok (.iinc 1 1, 3) := by decide +kernel
theorem dX12_whyNot_282 : decode cX12_whyNot 282 = .ok (.goto (-59), 3) := by decide +kernel
theorem dX12_whyNot_285 : decode cX12_whyNot 285 = .ok (.iconst 0, 1) := by decide +kernel
theorem dX12_whyNot_286 : decode cX12_whyNot 286 = .ok (.ireturn, 1) := by decide +kernel
theorem dX12_parting_0 : decode cX12_parting 0 = .ok (.aload_n 0, 1) := by decide +kernel
theorem dX12_parting_1 : decode cX12_parting 1 = .ok (.invokevirtual 305, 3) := by decide +kernel
theorem dX12_parting_4 : decode cX12_parting 4 = .ok (.istore_n 1, 1) := by decide +kernel
theorem dX12_parting_5 : decode cX12_parting 5 = .ok (.iload_n 1, 1) := by decide +kernel
theorem dX12_parting_6 : decode cX12_parting 6 = .ok (.ifCond .ne 44, 3) := by decide +kernel
theorem dX12_parting_9 : decode cX12_parting 9 = .ok (.aload_n 0, 1) := by decide +kernel
theorem dX12_parting_10 : decode cX12_parting 10 = .ok (.dup, 1) := by decide +kernel
theorem dX12_parting_11 : decode cX12_parting 11 = .ok (.getfield 253, 3) := by decide +kernel
theorem dX12_parting_14 : decode cX12_parting 14 = .ok (.iconst 1, 1) := by decide +kernel
theorem dX12_parting_15 : decode cX12_parting 15 = .ok (.iadd, 1) := by decide +kernel
theorem dX12_parting_16 : decode cX12_parting 16 = .ok (.putfield 253, 3) := by decide +kernel
theorem dX12_parting_19 : decode cX12_parting 19 = .ok (.iconst 0, 1) := by decide +kernel
theorem dX12_parting_20 : decode cX12_parting 20 = .ok (.istore_n 2, 1) := by decide +kernel
theorem dX12_parting_21 : decode cX12_parting 21 = .ok (.iload_n 2, 1) := by decide +kernel
theorem dX12_parting_22 : decode cX12_parting 22 = .ok (.iconst 1, 1) := by decide +kernel
theorem dX12_parting_23 : decode cX12_parting 23 = .ok (.iadd, 1) := by decide +kernel
theorem dX12_parting_24 : decode cX12_parting 24 = .ok (.aload_n 0, 1) := by decide +kernel
theorem dX12_parting_25 : decode cX12_parting 25 = .ok (.getfield 286, 3) := by decide +kernel
theorem dX12_parting_28 : decode cX12_parting 28 = .ok (.if_icmp .ge 22, 3) := by decide +kernel
theorem dX12_parting_31 : decode cX12_parting 31 = .ok (.aload_n 0, 1) := by decide +kernel
theorem dX12_parting_32 : decode cX12_parting 32 = .ok (.aload_n 0, 1) := by decide +kernel
theorem dX12_parting_33 : decode cX12_parting 33 = .ok (.iload_n 2, 1) := by decide +kernel
theorem dX12_parting_34 : decode cX12_parting 34 = .ok (.invokevirtual 295, 3) := by decide +kernel
theorem dX12_parting_37 : decode cX12_parting 37 = .ok (.aload_n 0, 1) := by decide +kernel
theorem dX12_parting_38 : decode cX12_parting 38 = .ok (.getfield 253, 3) := by decide +kernel
theorem dX12_parting_41 : decode cX12_parting 41 = .ok (.invokevirtual 308, 3) := by decide +kernel
theorem dX12_parting_44 : decode cX12_parting 44 = .ok (.iinc 2 1, 3) := by decide +kernel
theorem dX12_parting_47 : decode cX12_parting 47 = .ok (.goto (-26), 3) := by decide +kernel
theorem dX12_parting_50 : decode cX12_parting 50 = .ok (.iload_n 1, 1) := by decide +kernel
theorem dX12_parting_51 : decode cX12_parting 51 = .ok (.ireturn, 1) := by decide +kernel
theorem dX12_isCell_0 : decode cX12_isCell 0 = .ok (.iload_n 0, 1) := by decide +kernel
theorem dX12_isCell_1 : decode cX12_isCell 1 = .ok (.ifCond .lt 23, 3) := by decide +kernel
theorem dX12_isCell_4 : decode cX12_isCell 4 = .ok (.iload_n 0, 1) := by decide +kernel
theorem dX12_isCell_5 : decode cX12_isCell 5 = .ok (.bipush 16, 2) := by decide +kernel
theorem dX12_isCell_7 : decode cX12_isCell 7 = .ok (.if_icmp .ge 17, 3) := by decide +kernel
theorem dX12_isCell_10 : decode cX12_isCell 10 = .ok (.iload_n 1, 1) := by decide +kernel
theorem dX12_isCell_11 : decode cX12_isCell 11 = .ok (.ifCond .lt 13, 3) := by decide +kernel
theorem dX12_isCell_14 : decode cX12_isCell 14 = .ok (.iload_n 1, 1) := by decide +kernel
theorem dX12_isCell_15 : decode cX12_isCell 15 = .ok (.bipush 12, 2) := by decide +kernel
theorem dX12_isCell_17 : decode cX12_isCell 17 = .ok (.if_icmp .ge 7, 3) := by decide +kernel
theorem dX12_isCell_20 : decode cX12_isCell 20 = .ok (.iconst 1, 1) := by decide +kernel
theorem dX12_isCell_21 : decode cX12_isCell 21 = .ok (.goto 4, 3) := by decide +kernel
theorem dX12_isCell_24 : decode cX12_isCell 24 = .ok (.iconst 0, 1) := by decide +kernel
theorem dX12_isCell_25 : decode cX12_isCell 25 = .ok (.ireturn, 1) := by decide +kernel
theorem dX12_isScalp_0 : decode cX12_isScalp 0 = .ok (.iload_n 1, 1) := by decide +kernel
theorem dX12_isScalp_1 : decode cX12_isScalp 1 = .ok (.iload_n 2, 1) := by decide +kernel
theorem dX12_isScalp_2 : decode cX12_isScalp 2 = .ok (.invokestatic 311, 3) := by decide +kernel
theorem dX12_isScalp_5 : decode cX12_isScalp 5 = .ok (.ifCond .eq 21, 3) := by decide +kernel
theorem dX12_isScalp_8 : decode cX12_isScalp 8 = .ok (.aload_n 0, 1) := by decide +kernel
theorem dX12_isScalp_9 : decode cX12_isScalp 9 = .ok (.getfield 84, 3) := by decide +kernel
theorem dX12_isScalp_12 : decode cX12_isScalp 12 = .ok (.bipush 16, 2) := by decide +kernel
theorem dX12_isScalp_14 : decode cX12_isScalp 14 = .ok (.iload_n 2, 1) := by decide +kernel
theorem dX12_isScalp_15 : decode cX12_isScalp 15 = .ok (.imul, 1) := by decide +kernel
theorem dX12_isScalp_16 : decode cX12_isScalp 16 = .ok (.iload_n 1, 1) := by decide +kernel
theorem dX12_isScalp_17 : decode cX12_isScalp 17 = .ok (.iadd, 1) := by decide +kernel
theorem dX12_isScalp_18 : decode cX12_isScalp 18 = .ok (.iaload, 1) := by decide +kernel
theorem dX12_isScalp_19 : decode cX12_isScalp 19 = .ok (.ifCond .lt 7, 3) := by decide +kernel
theorem dX12_isScalp_22 : decode cX12_isScalp 22 = .ok (.iconst 1, 1) := by decide +kernel
theorem dX12_isScalp_23 : decode cX12_isScalp 23 = .ok (.goto 4, 3) := by decide +kernel
theorem dX12_isScalp_26 : decode cX12_isScalp 26 = .ok (.iconst 0, 1) := by decide +kernel
theorem dX12_isScalp_27 : decode cX12_isScalp 27 = .ok (.ireturn, 1) := by decide +kernel
theorem dX12_isParted_0 : decode cX12_isParted 0 = .ok (.iload_n 2, 1) := by decide +kernel
theorem dX12_isParted_1 : decode cX12_isParted 1 = .ok (.iload 4, 2) := by decide +kernel
theorem dX12_isParted_3 : decode cX12_isParted 3 = .ok (.if_icmp .ne 34, 3) := by decide +kernel
theorem dX12_isParted_6 : decode cX12_isParted 6 = .ok (.aload_n 0, 1) := by decide +kernel
theorem dX12_isParted_7 : decode cX12_isParted 7 = .ok (.getfield 74, 3) := by decide +kernel
theorem dX12_isParted_10 : decode cX12_isParted 10 = .ok (.bipush 17, 2) := by decide +kernel
theorem dX12_isParted_12 : decode cX12_isParted 12 = .ok (.iload_n 2, 1) := by decide +kernel
theorem dX12_isParted_13 : decode cX12_isParted 13 = .ok (.imul, 1) := by decide +kernel
theorem dX12_isParted_14 : decode cX12_isParted 14 = .ok (.iload_n 1, 1) := by decide +kernel
theorem dX12_isParted_15 : decode cX12_isParted 15 = .ok (.iload_n 3, 1) := by decide +kernel
theorem dX12_isParted_16 : decode cX12_isParted 16 = .ok (.if_icmp .le 7, 3) := by decide +kernel
theorem dX12_isParted_19 : decode cX12_isParted 19 = .ok (.iload_n 1, 1) := by decide +kernel
theorem dX12_isParted_20 : decode cX12_isParted 20 = .ok (.goto 4, 3) := by decide +kernel
theorem dX12_isParted_23 : decode cX12_isParted 23 = .ok (.iload_n 3, 1) := by decide +kernel
theorem dX12_isParted_24 : decode cX12_isParted 24 = .ok (.iadd, 1) := by decide +kernel
theorem dX12_isParted_25 : decode cX12_isParted 25 = .ok (.iaload, 1) := by decide +kernel
theorem dX12_isParted_26 : decode cX12_isParted 26 = .ok (.ifCond .le 7, 3) := by decide +kernel
theorem dX12_isParted_29 : decode cX12_isParted 29 = .ok (.iconst 1, 1) := by decide +kernel
theorem dX12_isParted_30 : decode cX12_isParted 30 = .ok (.goto 37, 3) := by decide +kernel
theorem dX12_isParted_33 : decode cX12_isParted 33 = .ok (.iconst 0, 1) := by decide +kernel
theorem dX12_isParted_34 : decode cX12_isParted 34 = .ok (.goto 33, 3) := by decide +kernel
theorem dX12_isParted_37 : decode cX12_isParted 37 = .ok (.aload_n 0, 1) := by decide +kernel
theorem dX12_isParted_38 : decode cX12_isParted 38 = .ok (.getfield 71, 3) := by decide +kernel
theorem dX12_isParted_41 : decode cX12_isParted 41 = .ok (.bipush 16, 2) := by decide +kernel
theorem dX12_isParted_43 : decode cX12_isParted 43 = .ok (.iload_n 2, 1) := by decide +kernel
theorem dX12_isParted_44 : decode cX12_isParted 44 = .ok (.iload 4, 2) := by decide +kernel
theorem dX12_isParted_46 : decode cX12_isParted 46 = .ok (.if_icmp .le 7, 3) := by decide +kernel
theorem dX12_isParted_49 : decode cX12_isParted 49 = .ok (.iload_n 2, 1) := by decide +kernel
theorem dX12_isParted_50 : decode cX12_isParted 50 = .ok (.goto 5, 3) := by decide +kernel
theorem dX12_isParted_53 : decode cX12_isParted 53 = .ok (.iload 4, 2) := by decide +kernel
theorem dX12_isParted_55 : decode cX12_isParted 55 = .ok (.imul, 1) := by decide +kernel
theorem dX12_isParted_56 : decode cX12_isParted 56 = .ok (.iload_n 1, 1) := by decide +kernel
theorem dX12_isParted_57 : decode cX12_isParted 57 = .ok (.iadd, 1) := by decide +kernel
theorem dX12_isParted_58 : decode cX12_isParted 58 = .ok (.iaload, 1) := by decide +kernel
theorem dX12_isParted_59 : decode cX12_isParted 59 = .ok (.ifCond .le 7, 3) := by decide +kernel
theorem dX12_isParted_62 : decode cX12_isParted 62 = .ok (.iconst 1, 1) := by decide +kernel
theorem dX12_isParted_63 : decode cX12_isParted 63 = .ok (.goto 4, 3) := by decide +kernel
theorem dX12_isParted_66 : decode cX12_isParted 66 = .ok (.iconst 0, 1) := by decide +kernel
theorem dX12_isParted_67 : decode cX12_isParted 67 = .ok (.ireturn, 1) := by decide +kernel
theorem dX12_rowing_0 : decode cX12_rowing 0 = .ok (.aload_n 0, 1) := by decide +kernel
theorem dX12_rowing_1 : decode cX12_rowing 1 = .ok (.getfield 256, 3) := by decide +kernel
theorem dX12_rowing_4 : decode cX12_rowing 4 = .ok (.bipush 24, 2) := by decide +kernel
theorem dX12_rowing_6 : decode cX12_rowing 6 = .ok (.if_icmp .ne 6, 3) := by decide +kernel
theorem dX12_rowing_9 : decode cX12_rowing 9 = .ok (.bipush 9, 2) := by decide +kernel
theorem dX12_rowing_11 : decode cX12_rowing 11 = .ok (.ireturn, 1) := by decide +kernel
theorem dX12_rowing_12 : decode cX12_rowing 12 = .ok (.iconst 0, 1) := by decide +kernel
theorem dX12_rowing_13 : decode cX12_rowing 13 = .ok (.istore_n 1, 1) := by decide +kernel
theorem dX12_rowing_14 : decode cX12_rowing 14 = .ok (.iload_n 1, 1) := by decide +kernel
theorem dX12_rowing_15 : decode cX12_rowing 15 = .ok (.aload_n 0, 1) := by decide +kernel
theorem dX12_rowing_16 : decode cX12_rowing 16 = .ok (.getfield 286, 3) := by decide +kernel
theorem dX12_rowing_19 : decode cX12_rowing 19 = .ok (.if_icmp .ge 134, 3) := by decide +kernel
theorem dX12_rowing_22 : decode cX12_rowing 22 = .ok (.aload_n 0, 1) := by decide +kernel
theorem dX12_rowing_23 : decode cX12_rowing 23 = .ok (.getfield 65, 3) := by decide +kernel
theorem dX12_rowing_26 : decode cX12_rowing 26 = .ok (.iload_n 1, 1) := by decide +kernel
theorem dX12_rowing_27 : decode cX12_rowing 27 = .ok (.iaload, 1) := by decide +kernel
theorem dX12_rowing_28 : decode cX12_rowing 28 = .ok (.istore_n 2, 1) := by decide +kernel
theorem dX12_rowing_29 : decode cX12_rowing 29 = .ok (.aload_n 0, 1) := by decide +kernel
theorem dX12_rowing_30 : decode cX12_rowing 30 = .ok (.getfield 68, 3) := by decide +kernel
theorem dX12_rowing_33 : decode cX12_rowing 33 = .ok (.iload_n 1, 1) := by decide +kernel
theorem dX12_rowing_34 : decode cX12_rowing 34 = .ok (.iaload, 1) := by decide +kernel
theorem dX12_rowing_35 : decode cX12_rowing 35 = .ok (.istore_n 3, 1) := by decide +kernel
theorem dX12_rowing_36 : decode cX12_rowing 36 = .ok (.aload_n 0, 1) := by decide +kernel
theorem dX12_rowing_37 : decode cX12_rowing 37 = .ok (.iload_n 2, 1) := by decide +kernel
theorem dX12_rowing_38 : decode cX12_rowing 38 = .ok (.iload_n 3, 1) := by decide +kernel
theorem dX12_rowing_39 : decode cX12_rowing 39 = .ok (.invokevirtual 314, 3) := by decide +kernel
theorem dX12_rowing_42 : decode cX12_rowing 42 = .ok (.ifCond .ne 10, 3) := by decide +kernel
theorem dX12_rowing_45 : decode cX12_rowing 45 = .ok (.aload_n 0, 1) := by decide +kernel
theorem dX12_rowing_46 : decode cX12_rowing 46 = .ok (.iload_n 1, 1) := by decide +kernel
theorem dX12_rowing_47 : decode cX12_rowing 47 = .ok (.iconst 5, 1) := by decide +kernel
theorem dX12_rowing_48 : decode cX12_rowing 48 = .ok (.invokevirtual 317, 3) := by decide +kernel
theorem dX12_rowing_51 : decode cX12_rowing 51 = .ok (.ireturn, 1) := by decide +kernel
theorem dX12_rowing_52 : decode cX12_rowing 52 = .ok (.iload_n 1, 1) := by decide +kernel
theorem dX12_rowing_53 : decode cX12_rowing 53 = .ok (.ifCond .le 36, 3) := by decide +kernel
theorem dX12_rowing_56 : decode cX12_rowing 56 = .ok (.aload_n 0, 1) := by decide +kernel
theorem dX12_rowing_57 : decode cX12_rowing 57 = .ok (.iload_n 2, 1) := by decide +kernel
theorem dX12_rowing_58 : decode cX12_rowing 58 = .ok (.iload_n 3, 1) := by decide +kernel
theorem dX12_rowing_59 : decode cX12_rowing 59 = .ok (.aload_n 0, 1) := by decide +kernel
theorem dX12_rowing_60 : decode cX12_rowing 60 = .ok (.getfield 65, 3) := by decide +kernel
theorem dX12_rowing_63 : decode cX12_rowing 63 = .ok (.iload_n 1, 1) := by decide +kernel
theorem dX12_rowing_64 : decode cX12_rowing 64 = .ok (.iconst 1, 1) := by decide +kernel
theorem dX12_rowing_65 : decode cX12_rowing 65 = .ok (.isub, 1) := by decide +kernel
theorem dX12_rowing_66 : decode cX12_rowing 66 = .ok (.iaload, 1) := by decide +kernel
theorem dX12_rowing_67 : decode cX12_rowing 67 = .ok (.aload_n 0, 1) := by decide +kernel
theorem dX12_rowing_68 : decode cX12_rowing 68 = .ok (.getfield 68, 3) := by decide +kernel
theorem dX12_rowing_71 : decode cX12_rowing 71 = .ok (.iload_n 1, 1) := by decide +kernel
theorem dX12_rowing_72 : decode cX12_rowing 72 = .ok (.iconst 1, 1) := by decide +kernel
theorem dX12_rowing_73 : decode cX12_rowing 73 = .ok (.isub, 1) := by decide +kernel
theorem dX12_rowing_74 : decode cX12_rowing 74 = .ok (.iaload, 1) := by decide +kernel
theorem dX12_rowing_75 : decode cX12_rowing 75 = .ok (.invokevirtual 320, 3) := by decide +kernel
theorem dX12_rowing_78 : decode cX12_rowing 78 = .ok (.ifCond .eq 11, 3) := by decide +kernel
theorem dX12_rowing_81 : decode cX12_rowing 81 = .ok (.aload_n 0, 1) := by decide +kernel
theorem dX12_rowing_82 : decode cX12_rowing 82 = .ok (.iload_n 1, 1) := by decide +kernel
theorem dX12_rowing_83 : decode cX12_rowing 83 = .ok (.bipush 6, 2) := by decide +kernel
theorem dX12_rowing_85 : decode cX12_rowing 85 = .ok (.invokevirtual 317, 3) := by decide +kernel
theorem dX12_rowing_88 : decode cX12_rowing 88 = .ok (.ireturn, 1) := by decide +kernel
theorem dX12_rowing_89 : decode cX12_rowing 89 = .ok (.aload_n 0, 1) := by decide +kernel
theorem dX12_rowing_90 : decode cX12_rowing 90 = .ok (.getfield 87, 3) := by decide +kernel
theorem dX12_rowing_93 : decode cX12_rowing 93 = .ok (.bipush 16, 2) := by decide +kernel
theorem dX12_rowing_95 : decode cX12_rowing 95 = .ok (.iload_n 3, 1) := by decide +kernel
theorem dX12_rowing_96 : decode cX12_rowing 96 = .ok (.imul, 1) := by decide +kernel
theorem dX12_rowing_97 : decode cX12_rowing 97 = .ok (.iload_n 2, 1) := by decide +kernel
theorem dX12_rowing_98 : decode cX12_rowing 98 = .ok (.iadd, 1) := by decide +kernel
theorem dX12_rowing_99 : decode cX12_rowing 99 = .ok (.iaload, 1) := by decide +kernel
theorem dX12_rowing_100 : decode cX12_rowing 100 = .ok (.ifCond .lt 11, 3) := by decide +kernel
theorem dX12_rowing_103 : decode cX12_rowing 103 = .ok (.aload_n 0, 1) := by decide +kernel
theorem dX12_rowing_104 : decode cX12_rowing 104 = .ok (.iload_n 1, 1) := by decide +kernel
theorem dX12_rowing_105 : decode cX12_rowing 105 = .ok (.bipush 7, 2) := by decide +kernel
theorem dX12_rowing_107 : decode cX12_rowing 107 = .ok (.invokevirtual 317, 3) := by decide +kernel
theorem dX12_rowing_110 : decode cX12_rowing 110 = .ok (.ireturn, 1) := by decide +kernel
theorem dX12_rowing_111 : decode cX12_rowing 111 = .ok (.aload_n 0, 1) := by decide +kernel
theorem dX12_rowing_112 : decode cX12_rowing 112 = .ok (.getfield 87, 3) := by decide +kernel
theorem dX12_rowing_115 : decode cX12_rowing 115 = .ok (.bipush 16, 2) := by decide +kernel
theorem dX12_rowing_117 : decode cX12_rowing 117 = .ok (.iload_n 3, 1) := by decide +kernel
theorem dX12_rowing_118 : decode cX12_rowing 118 = .ok (.imul, 1) := by decide +kernel
theorem dX12_rowing_119 : decode cX12_rowing 119 = .ok (.iload_n 2, 1) := by decide +kernel
theorem dX12_rowing_120 : decode cX12_rowing 120 = .ok (.iadd, 1) := by decide +kernel
theorem dX12_rowing_121 : decode cX12_rowing 121 = .ok (.aload_n 0, 1) := by decide +kernel
theorem dX12_rowing_122 : decode cX12_rowing 122 = .ok (.getfield 256, 3) := by decide +kernel
theorem dX12_rowing_125 : decode cX12_rowing 125 = .ok (.iastore, 1) := by decide +kernel
theorem dX12_rowing_126 : decode cX12_rowing 126 = .ok (.aload_n 0, 1) := by decide +kernel
theorem dX12_rowing_127 : decode cX12_rowing 127 = .ok (.getfield 93, 3) := by decide +kernel
theorem dX12_rowing_130 : decode cX12_rowing 130 = .ok (.sipush 192, 3) := by decide +kernel
theorem dX12_rowing_133 : decode cX12_rowing 133 = .ok (.aload_n 0, 1) := by decide +kernel
theorem dX12_rowing_134 : decode cX12_rowing 134 = .ok (.getfield 256, 3) := by decide +kernel
theorem dX12_rowing_137 : decode cX12_rowing 137 = .ok (.imul, 1) := by decide +kernel
theorem dX12_rowing_138 : decode cX12_rowing 138 = .ok (.iload_n 1, 1) := by decide +kernel
theorem dX12_rowing_139 : decode cX12_rowing 139 = .ok (.iadd, 1) := by decide +kernel
theorem dX12_rowing_140 : decode cX12_rowing 140 = .ok (.bipush 16, 2) := by decide +kernel
theorem dX12_rowing_142 : decode cX12_rowing 142 = .ok (.iload_n 3, 1) := by decide +kernel
theorem dX12_rowing_143 : decode cX12_rowing 143 = .ok (.imul, 1) := by decide +kernel
theorem dX12_rowing_144 : decode cX12_rowing 144 = .ok (.iload_n 2, 1) := by decide +kernel
theorem dX12_rowing_145 : decode cX12_rowing 145 = .ok (.iadd, 1) := by decide +kernel
theorem dX12_rowing_146 : decode cX12_rowing 146 = .ok (.iastore, 1) := by decide +kernel
theorem dX12_rowing_147 : decode cX12_rowing 147 = .ok (.iinc 1 1, 3) := by decide +kernel
theorem dX12_rowing_150 : decode cX12_rowing 150 = .ok (.goto (-136), 3) := by decide +kernel
theorem dX12_rowing_153 : decode cX12_rowing 153 = .ok (.aload_n 0, 1) := by decide +kernel
theorem dX12_rowing_154 : decode cX12_rowing 154 = .ok (.getfield 286, 3) := by decide +kernel
theorem dX12_rowing_157 : decode cX12_rowing 157 = .ok (.iconst 1, 1) := by decide +kernel
theorem dX12_rowing_158 : decode cX12_rowing 158 = .ok (.if_icmp .ne 11, 3) := by decide +kernel
theorem dX12_rowing_161 : decode cX12_rowing 161 = .ok (.aload_n 0, 1) := by decide +kernel
theorem dX12_rowing_162 : decode cX12_rowing 162 = .ok (.iconst 1, 1) := by decide +kernel
theorem dX12_rowing_163 : decode cX12_rowing 163 = .ok (.bipush 8, 2) := by decide +kernel
theorem dX12_rowing_165 : decode cX12_rowing 165 = .ok (.invokevirtual 317, 3) := by decide +kernel
theorem dX12_rowing_168 : decode cX12_rowing 168 = .ok (.ireturn, 1) := by decide +kernel
theorem dX12_rowing_169 : decode cX12_rowing 169 = .ok (.aload_n 0, 1) := by decide +kernel
theorem dX12_rowing_170 : decode cX12_rowing 170 = .ok (.getfield 90, 3) := by decide +kernel
theorem dX12_rowing_173 : decode cX12_rowing 173 = .ok (.aload_n 0, 1) := by decide +kernel
theorem dX12_rowing_174 : decode cX12_rowing 174 = .ok (.getfield 256, 3) := by decide +kernel
theorem dX12_rowing_177 : decode cX12_rowing 177 = .ok (.aload_n 0, 1) := by decide +kernel
theorem dX12_rowing_178 : decode cX12_rowing 178 = .ok (.getfield 286, 3) := by decide +kernel
theorem dX12_rowing_181 : decode cX12_rowing 181 = .ok (.iastore, 1) := by decide +kernel
theorem dX12_rowing_182 : decode cX12_rowing 182 = .ok (.aload_n 0, 1) := by decide +kernel
theorem dX12_rowing_183 : decode cX12_rowing 183 = .ok (.getfield 96, 3) := by decide +kernel
theorem dX12_rowing_186 : decode cX12_rowing 186 = .ok (.aload_n 0, 1) := by decide +kernel
theorem dX12_rowing_187 : decode cX12_rowing 187 = .ok (.getfield 256, 3) := by decide +kernel
theorem dX12_rowing_190 : decode cX12_rowing 190 = .ok (.iconst (-1), 1) := by decide +kernel
theorem dX12_rowing_191 : decode cX12_rowing 191 = .ok (.iastore, 1) := by decide +kernel
theorem dX12_rowing_192 : decode cX12_rowing 192 = .ok (.aload_n 0, 1) := by decide +kernel
theorem dX12_rowing_193 : decode cX12_rowing 193 = .ok (.getfield 99, 3) := by decide +kernel
theorem dX12_rowing_196 : decode cX12_rowing 196 = .ok (.aload_n 0, 1) := by decide +kernel
theorem dX12_rowing_197 : decode cX12_rowing 197 = .ok (.getfield 256, 3) := by decide +kernel
theorem dX12_rowing_200 : decode cX12_rowing 200 = .ok (.iconst (-1), 1) := by decide +kernel
theorem dX12_rowing_201 : decode cX12_rowing 201 = .ok (.iastore, 1) := by decide +kernel
theorem dX12_rowing_202 : decode cX12_rowing 202 = .ok (.aload_n 0, 1) := by decide +kernel
theorem dX12_rowing_203 : decode cX12_rowing 203 = .ok (.dup, 1) := by decide +kernel
theorem dX12_rowing_204 : decode cX12_rowing 204 = .ok (.getfield 256, 3) := by decide +kernel
theorem dX12_rowing_207 : decode cX12_rowing 207 = .ok (.iconst 1, 1) := by decide +kernel
theorem dX12_rowing_208 : decode cX12_rowing 208 = .ok (.iadd, 1) := by decide +kernel
theorem dX12_rowing_209 : decode cX12_rowing 209 = .ok (.putfield 256, 3) := by decide +kernel
theorem dX12_rowing_212 : decode cX12_rowing 212 = .ok (.iconst 0, 1) := by decide +kernel
theorem dX12_rowing_213 : decode cX12_rowing 213 = .ok (.ireturn, 1) := by decide +kernel
theorem dX12_frees_0 : decode cX12_frees 0 = .ok (.iconst 0, 1) := by decide +kernel
theorem dX12_frees_1 : decode cX12_frees 1 = .ok (.istore_n 3, 1) := by decide +kernel
theorem dX12_frees_2 : decode cX12_frees 2 = .ok (.iload_n 3, 1) := by decide +kernel
theorem dX12_frees_3 : decode cX12_frees 3 = .ok (.iload_n 1, 1) := by decide +kernel
theorem dX12_frees_4 : decode cX12_frees 4 = .ok (.if_icmp .ge 30, 3) := by decide +kernel
theorem dX12_frees_7 : decode cX12_frees 7 = .ok (.aload_n 0, 1) := by decide +kernel
theorem dX12_frees_8 : decode cX12_frees 8 = .ok (.getfield 87, 3) := by decide +kernel
theorem dX12_frees_11 : decode cX12_frees 11 = .ok (.aload_n 0, 1) := by decide +kernel
theorem dX12_frees_12 : decode cX12_frees 12 = .ok (.getfield 93, 3) := by decide +kernel
theorem dX12_frees_15 : decode cX12_frees 15 = .ok (.sipush 192, 3) := by decide +kernel
theorem dX12_frees_18 : decode cX12_frees 18 = .ok (.aload_n 0, 1) := by decide +kernel
theorem dX12_frees_19 : decode cX12_frees 19 = .ok (.getfield 256, 3) := by decide +kernel
theorem dX12_frees_22 : decode cX12_frees 22 = .ok (.imul, 1) := by decide +kernel
theorem dX12_frees_23 : decode cX12_frees 23 = .ok (.iload_n 3, 1) := by decide +kernel
theorem dX12_frees_24 : decode cX12_frees 24 = .ok (.iadd, 1) := by decide +kernel
theorem dX12_frees_25 : decode cX12_frees 25 = .ok (.iaload, 1) := by decide +kernel
theorem dX12_frees_26 : decode cX12_frees 26 = .ok (.iconst (-1), 1) := by decide +kernel
theorem dX12_frees_27 : decode cX12_frees 27 = .ok (.iastore, 1) := by decide +kernel
theorem dX12_frees_28 : decode cX12_frees 28 = .ok (.iinc 3 1, 3) := by decide +kernel
theorem dX12_frees_31 : decode cX12_frees 31 = .ok (.goto (-29), 3) := by decide +kernel
theorem dX12_frees_34 : decode cX12_frees 34 = .ok (.iload_n 2, 1) := by decide +kernel
theorem dX12_frees_35 : decode cX12_frees 35 = .ok (.ireturn, 1) := by decide +kernel
theorem dX12_forgets_0 : decode cX12_forgets 0 = .ok (.iconst 0, 1) := by decide +kernel
theorem dX12_forgets_1 : decode cX12_forgets 1 = .ok (.istore_n 3, 1) := by decide +kernel
theorem dX12_forgets_2 : decode cX12_forgets 2 = .ok (.iload_n 3, 1) := by decide +kernel
theorem dX12_forgets_3 : decode cX12_forgets 3 = .ok (.sipush 412, 3) := by decide +kernel
theorem dX12_forgets_6 : decode cX12_forgets 6 = .ok (.if_icmp .ge 24, 3) := by decide +kernel
theorem dX12_forgets_9 : decode cX12_forgets 9 = .ok (.aload_n 0, 1) := by decide +kernel
theorem dX12_forgets_10 : decode cX12_forgets 10 = .ok (.iload_n 3, 1) := by decide +kernel
theorem dX12_forgets_11 : decode cX12_forgets 11 = .ok (.invokevirtual 298, 3) := by decide +kernel
theorem dX12_forgets_14 : decode cX12_forgets 14 = .ok (.iload_n 1, 1) := by decide +kernel
theorem dX12_forgets_15 : decode cX12_forgets 15 = .ok (.if_icmp .le 9, 3) := by decide +kernel
theorem dX12_forgets_18 : decode cX12_forgets 18 = .ok (.aload_n 0, 1) := by decide +kernel
theorem dX12_forgets_19 : decode cX12_forgets 19 = .ok (.iload_n 3, 1) := by decide +kernel
theorem dX12_forgets_20 : decode cX12_forgets 20 = .ok (.iconst 0, 1) := by decide +kernel
theorem dX12_forgets_21 : decode cX12_forgets 21 = .ok (.invokevirtual 308, 3) := by decide +kernel
theorem dX12_forgets_24 : decode cX12_forgets 24 = .ok (.iinc 3 1, 3) := by decide +kernel
theorem dX12_forgets_27 : decode cX12_forgets 27 = .ok (.goto (-25), 3) := by decide +kernel
theorem dX12_forgets_30 : decode cX12_forgets 30 = .ok (.iconst 0, 1) := by decide +kernel
theorem dX12_forgets_31 : decode cX12_forgets 31 = .ok (.istore_n 3, 1) := by decide +kernel
theorem dX12_forgets_32 : decode cX12_forgets 32 = .ok (.iload_n 3, 1) := by decide +kernel
theorem dX12_forgets_33 : decode cX12_forgets 33 = .ok (.sipush 192, 3) := by decide +kernel
theorem dX12_forgets_36 : decode cX12_forgets 36 = .ok (.if_icmp .ge 35, 3) := by decide +kernel
theorem dX12_forgets_39 : decode cX12_forgets 39 = .ok (.aload_n 0, 1) := by decide +kernel
theorem dX12_forgets_40 : decode cX12_forgets 40 = .ok (.getfield 87, 3) := by decide +kernel
theorem dX12_forgets_43 : decode cX12_forgets 43 = .ok (.iload_n 3, 1) := by decide +kernel
theorem dX12_forgets_44 : decode cX12_forgets 44 = .ok (.aload_n 0, 1) := by decide +kernel
theorem dX12_forgets_45 : decode cX12_forgets 45 = .ok (.getfield 87, 3) := by decide +kernel
theorem dX12_forgets_48 : decode cX12_forgets 48 = .ok (.iload_n 3, 1) := by decide +kernel
theorem dX12_forgets_49 : decode cX12_forgets 49 = .ok (.iaload, 1) := by decide +kernel
theorem dX12_forgets_50 : decode cX12_forgets 50 = .ok (.iload_n 2, 1) := by decide +kernel
theorem dX12_forgets_51 : decode cX12_forgets 51 = .ok (.if_icmp .lt 7, 3) := by decide +kernel
theorem dX12_forgets_54 : decode cX12_forgets 54 = .ok (.iconst (-1), 1) := by decide +kernel
theorem dX12_forgets_55 : decode cX12_forgets 55 = .ok (.goto 9, 3) := by decide +kernel
theorem dX12_forgets_58 : decode cX12_forgets 58 = .ok (.aload_n 0, 1) := by decide +kernel
theorem dX12_forgets_59 : decode cX12_forgets 59 = .ok (.getfield 87, 3) := by decide +kernel
theorem dX12_forgets_62 : decode cX12_forgets 62 = .ok (.iload_n 3, 1) := by decide +kernel
theorem dX12_forgets_63 : decode cX12_forgets 63 = .ok (.iaload, 1) := by decide +kernel
theorem dX12_forgets_64 : decode cX12_forgets 64 = .ok (.iastore, 1) := by decide +kernel
theorem dX12_forgets_65 : decode cX12_forgets 65 = .ok (.iinc 3 1, 3) := by decide +kernel
theorem dX12_forgets_68 : decode cX12_forgets 68 = .ok (.goto (-36), 3) := by decide +kernel
theorem dX12_forgets_71 : decode cX12_forgets 71 = .ok (.aload_n 0, 1) := by decide +kernel
theorem dX12_forgets_72 : decode cX12_forgets 72 = .ok (.iload_n 1, 1) := by decide +kernel
theorem dX12_forgets_73 : decode cX12_forgets 73 = .ok (.putfield 253, 3) := by decide +kernel
theorem dX12_forgets_76 : decode cX12_forgets 76 = .ok (.aload_n 0, 1) := by decide +kernel
theorem dX12_forgets_77 : decode cX12_forgets 77 = .ok (.iload_n 2, 1) := by decide +kernel
theorem dX12_forgets_78 : decode cX12_forgets 78 = .ok (.putfield 256, 3) := by decide +kernel
theorem dX12_forgets_81 : decode cX12_forgets 81 = .ok (.return_, 1) := by decide +kernel
theorem dX12_takeBack_0 : decode cX12_takeBack 0 = .ok (.aload_n 0, 1) := by decide +kernel
theorem dX12_takeBack_1 : decode cX12_takeBack 1 = .ok (.iconst 0, 1) := by decide +kernel
theorem dX12_takeBack_2 : decode cX12_takeBack 2 = .ok (.putfield 1, 3) := by decide +kernel
theorem dX12_takeBack_5 : decode cX12_takeBack 5 = .ok (.aload_n 0, 1) := by decide +kernel
theorem dX12_takeBack_6 : decode cX12_takeBack 6 = .ok (.getfield 273, 3) := by decide +kernel
theorem dX12_takeBack_9 : decode cX12_takeBack 9 = .ok (.ifCond .ne 5, 3) := by decide +kernel
theorem dX12_takeBack_12 : decode cX12_takeBack 12 = .ok (.iconst (-1), 1) := by decide +kernel
theorem dX12_takeBack_13 : decode cX12_takeBack 13 = .ok (.ireturn, 1) := by decide +kernel
theorem dX12_takeBack_14 : decode cX12_takeBack 14 = .ok (.aload_n 0, 1) := by decide +kernel
theorem dX12_takeBack_15 : decode cX12_takeBack 15 = .ok (.getfield 102, 3) := by decide +kernel
theorem dX12_takeBack_18 : decode cX12_takeBack 18 = .ok (.aload_n 0, 1) := by decide +kernel
theorem dX12_takeBack_19 : decode cX12_takeBack 19 = .ok (.getfield 273, 3) := by decide +kernel
theorem dX12_takeBack_22 : decode cX12_takeBack 22 = .ok (.iconst 1, 1) := by decide +kernel
theorem dX12_takeBack_23 : decode cX12_takeBack 23 = .ok (.isub, 1) := by decide +kernel
theorem dX12_takeBack_24 : decode cX12_takeBack 24 = .ok (.iaload, 1) := by decide +kernel
theorem dX12_takeBack_25 : decode cX12_takeBack 25 = .ok (.istore_n 1, 1) := by decide +kernel
theorem dX12_takeBack_26 : decode cX12_takeBack 26 = .ok (.aload_n 0, 1) := by decide +kernel
theorem dX12_takeBack_27 : decode cX12_takeBack 27 = .ok (.getfield 105, 3) := by decide +kernel
theorem dX12_takeBack_30 : decode cX12_takeBack 30 = .ok (.aload_n 0, 1) := by decide +kernel
theorem dX12_takeBack_31 : decode cX12_takeBack 31 = .ok (.getfield 273, 3) := by decide +kernel
theorem dX12_takeBack_34 : decode cX12_takeBack 34 = .ok (.iconst 1, 1) := by decide +kernel
theorem dX12_takeBack_35 : decode cX12_takeBack 35 = .ok (.isub, 1) := by decide +kernel
theorem dX12_takeBack_36 : decode cX12_takeBack 36 = .ok (.iaload, 1) := by decide +kernel
theorem dX12_takeBack_37 : decode cX12_takeBack 37 = .ok (.istore_n 2, 1) := by decide +kernel
theorem dX12_takeBack_38 : decode cX12_takeBack 38 = .ok (.iload_n 2, 1) := by decide +kernel
theorem dX12_takeBack_39 : decode cX12_takeBack 39 = .ok (.istore_n 3, 1) := by decide +kernel
theorem dX12_takeBack_40 : decode cX12_takeBack 40 = .ok (.iload_n 3, 1) := by decide +kernel
theorem dX12_takeBack_41 : decode cX12_takeBack 41 = .ok (.aload_n 0, 1) := by decide +kernel
theorem dX12_takeBack_42 : decode cX12_takeBack 42 = .ok (.getfield 256, 3) := by decide +kernel
theorem dX12_takeBack_45 : decode cX12_takeBack 45 = .ok (.if_icmp .ge 28, 3) := by decide +kernel
theorem dX12_takeBack_48 : decode cX12_takeBack 48 = .ok (.aload_n 0, 1) := by decide +kernel
theorem dX12_takeBack_49 : decode cX12_takeBack 49 = .ok (.getfield 99, 3) := by decide +kernel
theorem dX12_takeBack_52 : decode cX12_takeBack 52 = .ok (.iload_n 3, 1) := by decide +kernel
theorem dX12_takeBack_53 : decode cX12_takeBack 53 = .ok (.iaload, 1) := by decide +kernel
theorem dX12_takeBack_54 : decode cX12_takeBack 54 = .ok (.ifCond .ge 11, 3) := by decide +kernel
theorem dX12_takeBack_57 : decode cX12_takeBack 57 = .ok (.aload_n 0, 1) := by decide +kernel
theorem dX12_takeBack_58 : decode cX12_takeBack 58 = .ok (.iload_n 3, 1) := by decide +kernel
theorem dX12_takeBack_59 : decode cX12_takeBack 59 = .ok (.invokevirtual 324, 3) := by decide +kernel
theorem dX12_takeBack_62 : decode cX12_takeBack 62 = .ok (.ifCond .le 5, 3) := by decide +kernel
theorem dX12_takeBack_65 : decode cX12_takeBack 65 = .ok (.iconst (-1), 1) := by decide +kernel
theorem dX12_takeBack_66 : decode cX12_takeBack 66 = .ok (.ireturn, 1) := by decide +kernel
theorem dX12_takeBack_67 : decode cX12_takeBack 67 = .ok (.iinc 3 1, 3) := by decide +kernel
theorem dX12_takeBack_70 : decode cX12_takeBack 70 = .ok (.goto (-30), 3) := by decide +kernel
theorem dX12_takeBack_73 : decode cX12_takeBack 73 = .ok (.aload_n 0, 1) := by decide +kernel
theorem dX12_takeBack_74 : decode cX12_takeBack 74 = .ok (.getfield 253, 3) := by decide +kernel
theorem dX12_takeBack_77 : decode cX12_takeBack 77 = .ok (.iload_n 1, 1) := by decide +kernel
theorem dX12_takeBack_78 : decode cX12_takeBack 78 = .ok (.isub, 1) := by decide +kernel
theorem dX12_takeBack_79 : decode cX12_takeBack 79 = .ok (.aload_n 0, 1) := by decide +kernel
theorem dX12_takeBack_80 : decode cX12_takeBack 80 = .ok (.getfield 256, 3) := by decide +kernel
theorem dX12_takeBack_83 : decode cX12_takeBack 83 = .ok (.iadd, 1) := by decide +kernel
theorem dX12_takeBack_84 : decode cX12_takeBack 84 = .ok (.iload_n 2, 1) := by decide +kernel
theorem dX12_takeBack_85 : decode cX12_takeBack 85 = .ok (.isub, 1) := by decide +kernel
theorem dX12_takeBack_86 : decode cX12_takeBack 86 = .ok (.istore_n 3, 1) := by decide +kernel
theorem dX12_takeBack_87 : decode cX12_takeBack 87 = .ok (.aload_n 0, 1) := by decide +kernel
theorem dX12_takeBack_88 : decode cX12_takeBack 88 = .ok (.iload_n 1, 1) := by decide +kernel
theorem dX12_takeBack_89 : decode cX12_takeBack 89 = .ok (.iload_n 2, 1) := by decide +kernel
theorem dX12_takeBack_90 : decode cX12_takeBack 90 = .ok (.invokevirtual 269, 3) := by decide +kernel
theorem dX12_takeBack_93 : decode cX12_takeBack 93 = .ok (.aload_n 0, 1) := by decide +kernel
theorem dX12_takeBack_94 : decode cX12_takeBack 94 = .ok (.dup, 1) := by decide +kernel
theorem dX12_takeBack_95 : decode cX12_takeBack 95 = .ok (.getfield 273, 3) := by decide +kernel
theorem dX12_takeBack_98 : decode cX12_takeBack 98 = .ok (.iconst 1, 1) := by decide +kernel
theorem dX12_takeBack_99 : decode cX12_takeBack 99 = .ok (.isub, 1) := by decide +kernel
theorem dX12_takeBack_100 : decode cX12_takeBack 100 = .ok (.putfield 273, 3) := by decide +kernel
theorem dX12_takeBack_103 : decode cX12_takeBack 103 = .ok (.iload_n 3, 1) := by decide +kernel
theorem dX12_takeBack_104 : decode cX12_takeBack 104 = .ok (.ireturn, 1) := by decide +kernel
theorem dX12_mayTell_0 : decode cX12_mayTell 0 = .ok (.aload_n 0, 1) := by decide +kernel
theorem dX12_mayTell_1 : decode cX12_mayTell 1 = .ok (.getfield 253, 3) := by decide +kernel
theorem dX12_mayTell_4 : decode cX12_mayTell 4 = .ok (.ifCond .ne 21, 3) := by decide +kernel
theorem dX12_mayTell_7 : decode cX12_mayTell 7 = .ok (.aload_n 0, 1) := by decide +kernel
theorem dX12_mayTell_8 : decode cX12_mayTell 8 = .ok (.getfield 256, 3) := by decide +kernel
theorem dX12_mayTell_11 : decode cX12_mayTell 11 = .ok (.ifCond .ne 14, 3) := by decide +kernel
theorem dX12_mayTell_14 : decode cX12_mayTell 14 = .ok (.aload_n 0, 1) := by decide +kernel
theorem dX12_mayTell_15 : decode cX12_mayTell 15 = .ok (.getfield 327, 3) := by decide +kernel
theorem dX12_mayTell_18 : decode cX12_mayTell 18 = .ok (.ifCond .ne 7, 3) := by decide +kernel
theorem dX12_mayTell_21 : decode cX12_mayTell 21 = .ok (.iconst 1, 1) := by decide +kernel
theorem dX12_mayTell_22 : decode cX12_mayTell 22 = .ok (.goto 4, 3) := by decide +kernel
theorem dX12_mayTell_25 : decode cX12_mayTell 25 = .ok (.iconst 0, 1) := by decide +kernel
theorem dX12_mayTell_26 : decode cX12_mayTell 26 = .ok (.ireturn, 1) := by decide +kernel
theorem dX12_cell_0 : decode cX12_cell 0 = .ok (.aload_n 0, 1) := by decide +kernel
theorem dX12_cell_1 : decode cX12_cell 1 = .ok (.iconst 0, 1) := by decide +kernel
theorem dX12_cell_2 : decode cX12_cell 2 = .ok (.putfield 1, 3) := by decide +kernel
theorem dX12_cell_5 : decode cX12_cell 5 = .ok (.iload_n 1, 1) := by decide +kernel
theorem dX12_cell_6 : decode cX12_cell 6 = .ok (.iload_n 2, 1) := by decide +kernel
theorem dX12_cell_7 : decode cX12_cell 7 = .ok (.invokestatic 311, 3) := by decide +kernel
theorem dX12_cell_10 : decode cX12_cell 10 = .ok (.ifCond .eq 21, 3) := by decide +kernel
theorem dX12_cell_13 : decode cX12_cell 13 = .ok (.iload_n 3, 1) := by decide +kernel
theorem dX12_cell_14 : decode cX12_cell 14 = .ok (.iconst (-1), 1) := by decide +kernel
theorem dX12_cell_15 : decode cX12_cell 15 = .ok (.if_icmp .lt 16, 3) := by decide +kernel
theorem dX12_cell_18 : decode cX12_cell 18 = .ok (.iload_n 3, 1) := by decide +kernel
theorem dX12_cell_19 : decode cX12_cell 19 = .ok (.bipush 99, 2) := by decide +kernel
theorem dX12_cell_21 : decode cX12_cell 21 = .ok (.if_icmp .gt 10, 3) := by decide +kernel
theorem dX12_cell_24 : decode cX12_cell 24 = .ok (.aload_n 0, 1) := by decide +kernel
theorem dX12_cell_25 : decode cX12_cell 25 = .ok (.invokevirtual 330, 3) := by decide +kernel
theorem dX12_cell_28 : decode cX12_cell 28 = .ok (.ifCond .ne 5, 3) := by decide +kernel
theorem dX12_cell_31 : decode cX12_cell 31 = .ok (.iconst 0, 1) := by decide +kernel
theorem dX12_cell_32 : decode cX12_cell 32 = .ok (.ireturn, 1) := by decide +kernel
theorem dX12_cell_33 : decode cX12_cell 33 = .ok (.aload_n 0, 1) := by decide +kernel
theorem dX12_cell_34 : decode cX12_cell 34 = .ok (.getfield 84, 3) := by decide +kernel
theorem dX12_cell_37 : decode cX12_cell 37 = .ok (.bipush 16, 2) := by decide +kernel
theorem dX12_cell_39 : decode cX12_cell 39 = .ok (.iload_n 2, 1) := by decide +kernel
theorem dX12_cell_40 : decode cX12_cell 40 = .ok (.imul, 1) := by decide +kernel
theorem dX12_cell_41 : decode cX12_cell 41 = .ok (.iload_n 1, 1) := by decide +kernel
theorem dX12_cell_42 : decode cX12_cell 42 = .ok (.iadd, 1) := by decide +kernel
theorem dX12_cell_43 : decode cX12_cell 43 = .ok (.iload_n 3, 1) := by decide +kernel
theorem dX12_cell_44 : decode cX12_cell 44 = .ok (.iastore, 1) := by decide +kernel
theorem dX12_cell_45 : decode cX12_cell 45 = .ok (.iconst 1, 1) := by decide +kernel
theorem dX12_cell_46 : decode cX12_cell 46 = .ok (.ireturn, 1) := by decide +kernel
theorem dX12_length_0 : decode cX12_length 0 = .ok (.aload_n 0, 1) := by decide +kernel
theorem dX12_length_1 : decode cX12_length 1 = .ok (.iconst 0, 1) := by decide +kernel
theorem dX12_length_2 : decode cX12_length 2 = .ok (.putfield 1, 3) := by decide +kernel
theorem dX12_length_5 : decode cX12_length 5 = .ok (.iload_n 1, 1) := by decide +kernel
theorem dX12_length_6 : decode cX12_length 6 = .ok (.bipush 20, 2) := by decide +kernel
theorem dX12_length_8 : decode cX12_length 8 = .ok (.if_icmp .lt 17, 3) := by decide +kernel
theorem dX12_length_11 : decode cX12_length 11 = .ok (.iload_n 1, 1) := by decide +kernel
theorem dX12_length_12 : decode cX12_length 12 = .ok (.sipush 2000, 3) := by decide +kernel
theorem dX12_length_15 : decode cX12_length 15 = .ok (.if_icmp .gt 10, 3) := by decide +kernel
theorem dX12_length_18 : decode cX12_length 18 = .ok (.aload_n 0, 1) := by decide +kernel
theorem dX12_length_19 : decode cX12_length 19 = .ok (.invokevirtual 330, 3) := by decide +kernel
theorem dX12_length_22 : decode cX12_length 22 = .ok (.ifCond .ne 5, 3) := by decide +kernel
theorem dX12_length_25 : decode cX12_length 25 = .ok (.iconst 0, 1) := by decide +kernel
theorem dX12_length_26 : decode cX12_length 26 = .ok (.ireturn, 1) := by decide +kernel
theorem dX12_length_27 : decode cX12_length 27 = .ok (.aload_n 0, 1) := by decide +kernel
theorem dX12_length_28 : decode cX12_length 28 = .ok (.iload_n 1, 1) := by decide +kernel
theorem dX12_length_29 : decode cX12_length 29 = .ok (.putfield 165, 3) := by decide +kernel
theorem dX12_length_32 : decode cX12_length 32 = .ok (.iconst 1, 1) := by decide +kernel
theorem dX12_length_33 : decode cX12_length 33 = .ok (.ireturn, 1) := by decide +kernel
theorem dX12_stepX_0 : decode cX12_stepX 0 = .ok (.iload_n 0, 1) := by decide +kernel
theorem dX12_stepX_1 : decode cX12_stepX 1 = .ok (.iconst 2, 1) := by decide +kernel
theorem dX12_stepX_2 : decode cX12_stepX 2 = .ok (.if_icmp .ne 7, 3) := by decide +kernel
theorem dX12_stepX_5 : decode cX12_stepX 5 = .ok (.iconst (-1), 1) := by decide +kernel
theorem dX12_stepX_6 : decode cX12_stepX 6 = .ok (.goto 13, 3) := by decide +kernel
theorem dX12_stepX_9 : decode cX12_stepX 9 = .ok (.iload_n 0, 1) := by decide +kernel
theorem dX12_stepX_10 : decode cX12_stepX 10 = .ok (.iconst 3, 1) := by decide +kernel
theorem dX12_stepX_11 : decode cX12_stepX 11 = .ok (.if_icmp .ne 7, 3) := by decide +kernel
theorem dX12_stepX_14 : decode cX12_stepX 14 = .ok (.iconst 1, 1) := by decide +kernel
theorem dX12_stepX_15 : decode cX12_stepX 15 = .ok (.goto 4, 3) := by decide +kernel
theorem dX12_stepX_18 : decode cX12_stepX 18 = .ok (.iconst 0, 1) := by decide +kernel
theorem dX12_stepX_19 : decode cX12_stepX 19 = .ok (.ireturn, 1) := by decide +kernel
theorem dX12_stepY_0 : decode cX12_stepY 0 = .ok (.iload_n 0, 1) := by decide +kernel
theorem dX12_stepY_1 : decode cX12_stepY 1 = .ok (.ifCond .ne 7, 3) := by decide +kernel
theorem dX12_stepY_4 : decode cX12_stepY 4 = .ok (.iconst (-1), 1) := by decide +kernel
theorem dX12_stepY_5 : decode cX12_stepY 5 = .ok (.goto 13, 3) := by decide +kernel
theorem dX12_stepY_8 : decode cX12_stepY 8 = .ok (.iload_n 0, 1) := by decide +kernel
theorem dX12_stepY_9 : decode cX12_stepY 9 = .ok (.iconst 1, 1) := by decide +kernel
theorem dX12_stepY_10 : decode cX12_stepY 10 = .ok (.if_icmp .ne 7, 3) := by decide +kernel
theorem dX12_stepY_13 : decode cX12_stepY 13 = .ok (.iconst 1, 1) := by decide +kernel
theorem dX12_stepY_14 : decode cX12_stepY 14 = .ok (.goto 4, 3) := by decide +kernel
theorem dX12_stepY_17 : decode cX12_stepY 17 = .ok (.iconst 0, 1) := by decide +kernel
theorem dX12_stepY_18 : decode cX12_stepY 18 = .ok (.ireturn, 1) := by decide +kernel
theorem dX12_beside_0 : decode cX12_beside 0 = .ok (.iload_n 1, 1) := by decide +kernel
theorem dX12_beside_1 : decode cX12_beside 1 = .ok (.bipush 16, 2) := by decide +kernel
theorem dX12_beside_3 : decode cX12_beside 3 = .ok (.irem, 1) := by decide +kernel
theorem dX12_beside_4 : decode cX12_beside 4 = .ok (.istore_n 3, 1) := by decide +kernel
theorem dX12_beside_5 : decode cX12_beside 5 = .ok (.iload_n 1, 1) := by decide +kernel
theorem dX12_beside_6 : decode cX12_beside 6 = .ok (.bipush 16, 2) := by decide +kernel
theorem dX12_beside_8 : decode cX12_beside 8 = .ok (.idiv, 1) := by decide +kernel
theorem dX12_beside_9 : decode cX12_beside 9 = .ok (.istore 4, 2) := by decide +kernel
theorem dX12_beside_11 : decode cX12_beside 11 = .ok (.iload_n 3, 1) := by decide +kernel
theorem dX12_beside_12 : decode cX12_beside 12 = .ok (.iload_n 2, 1) := by decide +kernel
theorem dX12_beside_13 : decode cX12_beside 13 = .ok (.invokestatic 333, 3) := by decide +kernel
theorem dX12_beside_16 : decode cX12_beside 16 = .ok (.iadd, 1) := by decide +kernel
theorem dX12_beside_17 : decode cX12_beside 17 = .ok (.istore 5, 2) := by decide +kernel
theorem dX12_beside_19 : decode cX12_beside 19 = .ok (.iload 4, 2) := by decide +kernel
theorem dX12_beside_21 : decode cX12_beside 21 = .ok (.iload_n 2, 1) := by decide +kernel
theorem dX12_beside_22 : decode cX12_beside 22 = .ok (.invokestatic 336, 3) := by decide +kernel
theorem dX12_beside_25 : decode cX12_beside 25 = .ok (.iadd, 1) := by decide +kernel
theorem dX12_beside_26 : decode cX12_beside 26 = .ok (.istore 6, 2) := by decide +kernel
theorem dX12_beside_28 : decode cX12_beside 28 = .ok (.aload_n 0, 1) := by decide +kernel
theorem dX12_beside_29 : decode cX12_beside 29 = .ok (.iload 5, 2) := by decide +kernel
theorem dX12_beside_31 : decode cX12_beside 31 = .ok (.iload 6, 2) := by decide +kernel
theorem dX12_beside_33 : decode cX12_beside 33 = .ok (.invokevirtual 314, 3) := by decide +kernel
theorem dX12_beside_36 : decode cX12_beside 36 = .ok (.ifCond .eq 28, 3) := by decide +kernel
theorem dX12_beside_39 : decode cX12_beside 39 = .ok (.aload_n 0, 1) := by decide +kernel
theorem dX12_beside_40 : decode cX12_beside 40 = .ok (.iload_n 3, 1) := by decide +kernel
theorem dX12_beside_41 : decode cX12_beside 41 = .ok (.iload 4, 2) := by decide +kernel
theorem dX12_beside_43 : decode cX12_beside 43 = .ok (.iload 5, 2) := by decide +kernel
theorem dX12_beside_45 : decode cX12_beside 45 = .ok (.iload 6, 2) := by decide +kernel
theorem dX12_beside_47 : decode cX12_beside 47 = .ok (.invokevirtual 320, 3) := by decide +kernel
theorem dX12_beside_50 : decode cX12_beside 50 = .ok (.ifCond .ne 14, 3) := by decide +kernel
theorem dX12_beside_53 : decode cX12_beside 53 = .ok (.bipush 16, 2) := by decide +kernel
theorem dX12_beside_55 : decode cX12_beside 55 = .ok (.iload 6, 2) := by decide +kernel
theorem dX12_beside_57 : decode cX12_beside 57 = .ok (.imul, 1) := by decide +kernel
theorem dX12_beside_58 : decode cX12_beside 58 = .ok (.iload 5, 2) := by decide +kernel
theorem dX12_beside_60 : decode cX12_beside 60 = .ok (.iadd, 1) := by decide +kernel
theorem dX12_beside_61 : decode cX12_beside 61 = .ok (.goto 4, 3) := by decide +kernel
theorem dX12_beside_64 : decode cX12_beside 64 = .ok (.iconst (-1), 1) := by decide +kernel
theorem dX12_beside_65 : decode cX12_beside 65 = .ok (.ireturn, 1) := by decide +kernel
theorem dX12_findRegions_0 : decode cX12_findRegions 0 = .ok (.iconst 0, 1) := by decide +kernel
theorem dX12_findRegions_1 : decode cX12_findRegions 1 = .ok (.istore_n 1, 1) := by decide +kernel
theorem dX12_findRegions_2 : decode cX12_findRegions 2 = .ok (.iload_n 1, 1) := by decide +kernel
theorem dX12_findRegions_3 : decode cX12_findRegions 3 = .ok (.sipush 192, 3) := by decide +kernel
theorem dX12_findRegions_6 : decode cX12_findRegions 6 = .ok (.if_icmp .ge 16, 3) := by decide +kernel
theorem dX12_findRegions_9 : decode cX12_findRegions 9 = .ok (.aload_n 0, 1) := by decide +kernel
theorem dX12_findRegions_10 : decode cX12_findRegions 10 = .ok (.getfield 108, 3) := by decide +kernel
theorem dX12_findRegions_13 : decode cX12_findRegions 13 = .ok (.iload_n 1, 1) := by decide +kernel
theorem dX12_findRegions_14 : decode cX12_findRegions 14 = .ok (.iconst (-1), 1) := by decide +kernel
theorem dX12_findRegions_15 : decode cX12_findRegions 15 = .ok (.iastore, 1) := by decide +kernel
theorem dX12_findRegions_16 : decode cX12_findRegions 16 = .ok (.iinc 1 1, 3) := by decide +kernel
theorem dX12_findRegions_19 : decode cX12_findRegions 19 = .ok (.goto (-17), 3) := by decide +kernel
theorem dX12_findRegions_22 : decode cX12_findRegions 22 = .ok (.iconst 0, 1) := by decide +kernel
theorem dX12_findRegions_23 : decode cX12_findRegions 23 = .ok (.istore_n 1, 1) := by decide +kernel
theorem dX12_findRegions_24 : decode cX12_findRegions 24 = .ok (.iconst 0, 1) := by decide +kernel
theorem dX12_findRegions_25 : decode cX12_findRegions 25 = .ok (.istore_n 2, 1) := by decide +kernel
theorem dX12_findRegions_26 : decode cX12_findRegions 26 = .ok (.iload_n 2, 1) := by decide +kernel
theorem dX12_findRegions_27 : decode cX12_findRegions 27 = .ok (.sipush 192, 3) := by decide +kernel
theorem dX12_findRegions_30 : decode cX12_findRegions 30 = .ok (.if_icmp .ge 35, 3) := by decide +kernel
theorem dX12_findRegions_33 : decode cX12_findRegions 33 = .ok (.aload_n 0, 1) := by decide +kernel
theorem dX12_findRegions_34 : decode cX12_findRegions 34 = .ok (.getfield 84, 3) := by decide +kernel
theorem dX12_findRegions_37 : decode cX12_findRegions 37 = .ok (.iload_n 2, 1) := by decide +kernel
theorem dX12_findRegions_38 : decode cX12_findRegions 38 = .ok (.iaload, 1) := by decide +kernel
theorem dX12_findRegions_39 : decode cX12_findRegions 39 = .ok (.ifCond .lt 20, 3) := by decide +kernel
theorem dX12_findRegions_42 : decode cX12_findRegions 42 = .ok (.aload_n 0, 1) := by decide +kernel
theorem dX12_findRegions_43 : decode cX12_findRegions 43 = .ok (.getfield 108, 3) := by decide +kernel
theorem dX12_findRegions_46 : decode cX12_findRegions 46 = .ok (.iload_n 2, 1) := by decide +kernel
theorem dX12_findRegions_47 : decode cX12_findRegions 47 = .ok (.iaload, 1) := by decide +kernel
theorem dX12_findRegions_48 : decode cX12_findRegions 48 = .ok (.ifCond .ge 11, 3) := by decide +kernel
theorem dX12_findRegions_51 : decode cX12_findRegions 51 = .ok (.aload_n 0, 1) := by decide +kernel
theorem dX12_findRegions_52 : decode cX12_findRegions 52 = .ok (.iload_n 2, 1) := by decide +kernel
theorem dX12_findRegions_53 : decode cX12_findRegions 53 = .ok (.invokevirtual 339, 3) := by decide +kernel
theorem dX12_findRegions_56 : decode cX12_findRegions 56 = .ok (.iinc 1 1, 3) := by decide +kernel
theorem dX12_findRegions_59 : decode cX12_findRegions 59 = .ok (.iinc 2 1, 3) := by decide +kernel
theorem dX12_findRegions_62 : decode cX12_findRegions 62 = .ok (.goto (-36), 3) := by decide +kernel
theorem dX12_findRegions_65 : decode cX12_findRegions 65 = .ok (.iload_n 1, 1) := by decide +kernel
theorem dX12_findRegions_66 : decode cX12_findRegions 66 = .ok (.ireturn, 1) := by decide +kernel
theorem dX12_spreads_0 : decode cX12_spreads 0 = .ok (.iconst 1, 1) := by decide +kernel
theorem dX12_spreads_1 : decode cX12_spreads 1 = .ok (.istore_n 2, 1) := by decide +kernel
theorem dX12_spreads_2 : decode cX12_spreads 2 = .ok (.aload_n 0, 1) := by decide +kernel
theorem dX12_spreads_3 : decode cX12_spreads 3 = .ok (.getfield 111, 3) := by decide +kernel
theorem dX12_spreads_6 : decode cX12_spreads 6 = .ok (.iconst 0, 1) := by decide +kernel
theorem dX12_spreads_7 : decode cX12_spreads 7 = .ok (.iload_n 1, 1) := by decide +kernel
theorem dX12_spreads_8 : decode cX12_spreads 8 = .ok (.iastore, 1) := by decide +kernel
theorem dX12_spreads_9 : decode cX12_spreads 9 = .ok (.aload_n 0, 1) := by decide +kernel
theorem dX12_spreads_10 : decode cX12_spreads 10 = .ok (.getfield 108, 3) := by decide +kernel
theorem dX12_spreads_13 : decode cX12_spreads 13 = .ok (.iload_n 1, 1) := by decide +kernel
theorem dX12_spreads_14 : decode cX12_spreads 14 = .ok (.iload_n 1, 1) := by decide +kernel
theorem dX12_spreads_15 : decode cX12_spreads 15 = .ok (.iastore, 1) := by decide +kernel
theorem dX12_spreads_16 : decode cX12_spreads 16 = .ok (.iconst 0, 1) := by decide +kernel
theorem dX12_spreads_17 : decode cX12_spreads 17 = .ok (.istore_n 3, 1) := by decide +kernel
theorem dX12_spreads_18 : decode cX12_spreads 18 = .ok (.iload_n 3, 1) := by decide +kernel
theorem dX12_spreads_19 : decode cX12_spreads 19 = .ok (.iload_n 2, 1) := by decide +kernel
theorem dX12_spreads_20 : decode cX12_spreads 20 = .ok (.if_icmp .ge 72, 3) := by decide +kernel
theorem dX12_spreads_23 : decode cX12_spreads 23 = .ok (.iconst 0, 1) := by decide +kernel
theorem dX12_spreads_24 : decode cX12_spreads 24 = .ok (.istore 4, 2) := by decide +kernel
theorem dX12_spreads_26 : decode cX12_spreads 26 = .ok (.iload 4, 2) := by decide +kernel
theorem dX12_spreads_28 : decode cX12_spreads 28 = .ok (.iconst 4, 1) := by decide +kernel
theorem dX12_spreads_29 : decode cX12_spreads 29 = .ok (.if_icmp .ge 57, 3) := by decide +kernel
theorem dX12_spreads_32 : decode cX12_spreads 32 = .ok (.aload_n 0, 1) := by decide +kernel
theorem dX12_spreads_33 : decode cX12_spreads 33 = .ok (.aload_n 0, 1) := by decide +kernel
theorem dX12_spreads_34 : decode cX12_spreads 34 = .ok (.getfield 111, 3) := by decide +kernel
theorem dX12_spreads_37 : decode cX12_spreads 37 = .ok (.iload_n 3, 1) := by decide +kernel
theorem dX12_spreads_38 : decode cX12_spreads 38 = .ok (.iaload, 1) := by decide +kernel
theorem dX12_spreads_39 : decode cX12_spreads 39 = .ok (.iload 4, 2) := by decide +kernel
theorem dX12_spreads_41 : decode cX12_spreads 41 = .ok (.invokevirtual 342, 3) := by decide +kernel
theorem dX12_spreads_44 : decode cX12_spreads 44 = .ok (.istore 5, 2) := by decide +kernel
theorem dX12_spreads_46 : decode cX12_spreads 46 = .ok (.iload 5, 2) := by decide +kernel
theorem dX12_spreads_48 : decode cX12_spreads 48 = .ok (.ifCond .lt 32, 3) := by decide +kernel
theorem dX12_spreads_51 : decode cX12_spreads 51 = .ok (.aload_n 0, 1) := by decide +kernel
theorem dX12_spreads_52 : decode cX12_spreads 52 = .ok (.getfield 108, 3) := by decide +kernel
theorem dX12_spreads_55 : decode cX12_spreads 55 = .ok (.iload 5, 2) := by decide +kernel
theorem dX12_spreads_57 : decode cX12_spreads 57 = .ok (.iaload, 1) := by decide +kernel
theorem dX12_spreads_58 : decode cX12_spreads 58 = .ok (.ifCond .ge 22, 3) := by decide +kernel
theorem dX12_spreads_61 : decode cX12_spreads 61 = .ok (.aload_n 0, 1) := by decide +kernel
theorem dX12_spreads_62 : decode cX12_spreads 62 = .ok (.getfield 108, 3) := by decide +kernel
theorem dX12_spreads_65 : decode cX12_spreads 65 = .ok (.iload 5, 2) := by decide +kernel
theorem dX12_spreads_67 : decode cX12_spreads 67 = .ok (.iload_n 1, 1) := by decide +kernel
theorem dX12_spreads_68 : decode cX12_spreads 68 = .ok (.iastore, 1) := by decide +kernel
theorem dX12_spreads_69 : decode cX12_spreads 69 = .ok (.aload_n 0, 1) := by decide +kernel
theorem dX12_spreads_70 : decode cX12_spreads 70 = .ok (.getfield 111, 3) := by decide +kernel
theorem dX12_spreads_73 : decode cX12_spreads 73 = .ok (.iload_n 2, 1) := by decide +kernel
theorem dX12_spreads_74 : decode cX12_spreads 74 = .ok (.iload 5, 2) := by decide +kernel
theorem dX12_spreads_76 : decode cX12_spreads 76 = .ok (.iastore, 1) := by decide +kernel
theorem dX12_spreads_77 : decode cX12_spreads 77 = .ok (.iinc 2 1, 3) := by decide +kernel
theorem dX12_spreads_80 : decode cX12_spreads 80 = .ok (.iinc 4 1, 3) := by decide +kernel
theorem dX12_spreads_83 : decode cX12_spreads 83 = .ok (.goto (-57), 3) := by decide +kernel
theorem dX12_spreads_86 : decode cX12_spreads 86 = .ok (.iinc 3 1, 3) := by decide +kernel
theorem dX12_spreads_89 : decode cX12_spreads 89 = .ok (.goto (-71), 3) := by decide +kernel
theorem dX12_spreads_92 : decode cX12_spreads 92 = .ok (.return_, 1) := by decide +kernel
theorem dX12_region_0 : decode cX12_region 0 = .ok (.aload_n 0, 1) := by decide +kernel
theorem dX12_region_1 : decode cX12_region 1 = .ok (.iconst 0, 1) := by decide +kernel
theorem dX12_region_2 : decode cX12_region 2 = .ok (.putfield 1, 3) := by decide +kernel
theorem dX12_region_5 : decode cX12_region 5 = .ok (.aload_n 0, 1) := by decide +kernel
theorem dX12_region_6 : decode cX12_region 6 = .ok (.iload_n 1, 1) := by decide +kernel
theorem dX12_region_7 : decode cX12_region 7 = .ok (.iload_n 2, 1) := by decide +kernel
theorem dX12_region_8 : decode cX12_region 8 = .ok (.invokevirtual 314, 3) := by decide +kernel
theorem dX12_region_11 : decode cX12_region 11 = .ok (.ifCond .ne 5, 3) := by decide +kernel
theorem dX12_region_14 : decode cX12_region 14 = .ok (.iconst (-1), 1) := by decide +kernel
theorem dX12_region_15 : decode cX12_region 15 = .ok (.ireturn, 1) := by decide +kernel
theorem dX12_region_16 : decode cX12_region 16 = .ok (.aload_n 0, 1) := by decide +kernel
theorem dX12_region_17 : decode cX12_region 17 = .ok (.invokevirtual 345, 3) := by decide +kernel
theorem dX12_region_20 : decode cX12_region 20 = .ok (.istore_n 3, 1) := by decide +kernel
theorem dX12_region_21 : decode cX12_region 21 = .ok (.aload_n 0, 1) := by decide +kernel
theorem dX12_region_22 : decode cX12_region 22 = .ok (.getfield 108, 3) := by decide +kernel
theorem dX12_region_25 : decode cX12_region 25 = .ok (.bipush 16, 2) := by decide +kernel
theorem dX12_region_27 : decode cX12_region 27 = .ok (.iload_n 2, 1) := by decide +kernel
theorem dX12_region_28 : decode cX12_region 28 = .ok (.imul, 1) := by decide +kernel
theorem dX12_region_29 : decode cX12_region 29 = .ok (.iload_n 1, 1) := by decide +kernel
theorem dX12_region_30 : decode cX12_region 30 = .ok (.iadd, 1) := by decide +kernel
theorem dX12_region_31 : decode cX12_region 31 = .ok (.iaload, 1) := by decide +kernel
theorem dX12_region_32 : decode cX12_region 32 = .ok (.ireturn, 1) := by decide +kernel
theorem dX12_findTaken_0 : decode cX12_findTaken 0 = .ok (.iconst 0, 1) := by decide +kernel
theorem dX12_findTaken_1 : decode cX12_findTaken 1 = .ok (.istore_n 1, 1) := by decide +kernel
theorem dX12_findTaken_2 : decode cX12_findTaken 2 = .ok (.iload_n 1, 1) := by decide +kernel
theorem dX12_findTaken_3 : decode cX12_findTaken 3 = .ok (.sipush 192, 3) := by decide +kernel
theorem dX12_findTaken_6 : decode cX12_findTaken 6 = .ok (.if_icmp .ge 37, 3) := by decide +kernel
theorem dX12_findTaken_9 : decode cX12_findTaken 9 = .ok (.aload_n 0, 1) := by decide +kernel
theorem dX12_findTaken_10 : decode cX12_findTaken 10 = .ok (.getfield 114, 3) := by decide +kernel
theorem dX12_findTaken_13 : decode cX12_findTaken 13 = .ok (.iload_n 1, 1) := by decide +kernel
theorem dX12_findTaken_14 : decode cX12_findTaken 14 = .ok (.bipush (-2), 2) := by decide +kernel
theorem dX12_findTaken_16 : decode cX12_findTaken 16 = .ok (.iastore, 1) := by decide +kernel
theorem dX12_findTaken_17 : decode cX12_findTaken 17 = .ok (.aload_n 0, 1) := by decide +kernel
theorem dX12_findTaken_18 : decode cX12_findTaken 18 = .ok (.getfield 117, 3) := by decide +kernel
theorem dX12_findTaken_21 : decode cX12_findTaken 21 = .ok (.iload_n 1, 1) := by decide +kernel
theorem dX12_findTaken_22 : decode cX12_findTaken 22 = .ok (.aload_n 0, 1) := by decide +kernel
theorem dX12_findTaken_23 : decode cX12_findTaken 23 = .ok (.getfield 87, 3) := by decide +kernel
theorem dX12_findTaken_26 : decode cX12_findTaken 26 = .ok (.iload_n 1, 1) := by decide +kernel
theorem dX12_findTaken_27 : decode cX12_findTaken 27 = .ok (.iaload, 1) := by decide +kernel
theorem dX12_findTaken_28 : decode cX12_findTaken 28 = .ok (.ifCond .lt 7, 3) := by decide +kernel
theorem dX12_findTaken_31 : decode cX12_findTaken 31 = .ok (.iconst 0, 1) := by decide +kernel
theorem dX12_findTaken_32 : decode cX12_findTaken 32 = .ok (.goto 4, 3) := by decide +kernel
theorem dX12_findTaken_35 : decode cX12_findTaken 35 = .ok (.iconst (-1), 1) := by decide +kernel
theorem dX12_findTaken_36 : decode cX12_findTaken 36 = .ok (.iastore, 1) := by decide +kernel
theorem dX12_findTaken_37 : decode cX12_findTaken 37 = .ok (.iinc 1 1, 3) := by decide +kernel
theorem dX12_findTaken_40 : decode cX12_findTaken 40 = .ok (.goto (-38), 3) := by decide +kernel
theorem dX12_findTaken_43 : decode cX12_findTaken 43 = .ok (.iconst 0, 1) := by decide +kernel
theorem dX12_findTaken_44 : decode cX12_findTaken 44 = .ok (.istore_n 1, 1) := by decide +kernel
theorem dX12_findTaken_45 : decode cX12_findTaken 45 = .ok (.iload_n 1, 1) := by decide +kernel
theorem dX12_findTaken_46 : decode cX12_findTaken 46 = .ok (.aload_n 0, 1) := by decide +kernel
theorem dX12_findTaken_47 : decode cX12_findTaken 47 = .ok (.getfield 256, 3) := by decide +kernel
theorem dX12_findTaken_50 : decode cX12_findTaken 50 = .ok (.if_icmp .ge 51, 3) := by decide +kernel
theorem dX12_findTaken_53 : decode cX12_findTaken 53 = .ok (.iconst 0, 1) := by decide +kernel
theorem dX12_findTaken_54 : decode cX12_findTaken 54 = .ok (.istore_n 2, 1) := by decide +kernel
theorem dX12_findTaken_55 : decode cX12_findTaken 55 = .ok (.iload_n 2, 1) := by decide +kernel
theorem dX12_findTaken_56 : decode cX12_findTaken 56 = .ok (.aload_n 0, 1) := by decide +kernel
theorem dX12_findTaken_57 : decode cX12_findTaken 57 = .ok (.getfield 90, 3) := by decide +kernel
theorem dX12_findTaken_60 : decode cX12_findTaken 60 = .ok (.iload_n 1, 1) := by decide +kernel
theorem dX12_findTaken_61 : decode cX12_findTaken 61 = .ok (.iaload, 1) := by decide +kernel
theorem dX12_findTaken_62 : decode cX12_findTaken 62 = .ok (.if_icmp .ge 33, 3) := by decide +kernel
theorem dX12_findTaken_65 : decode cX12_findTaken 65 = .ok (.aload_n 0, 1) := by decide +kernel
theorem dX12_findTaken_66 : decode cX12_findTaken 66 = .ok (.getfield 114, 3) := by decide +kernel
theorem dX12_findTaken_69 : decode cX12_findTaken 69 = .ok (.aload_n 0, 1) := by decide +kernel
theorem dX12_findTaken_70 : decode cX12_findTaken 70 = .ok (.getfield 93, 3) := by decide +kernel
theorem dX12_findTaken_73 : decode cX12_findTaken 73 = .ok (.sipush 192, 3) := by decide +kernel
theorem dX12_findTaken_76 : decode cX12_findTaken 76 = .ok (.iload_n 1, 1) := by decide +kernel
theorem dX12_findTaken_77 : decode cX12_findTaken 77 = .ok (.imul, 1) := by decide +kernel
theorem dX12_findTaken_78 : decode cX12_findTaken 78 = .ok (.iload_n 2, 1) := by decide +kernel
theorem dX12_findTaken_79 : decode cX12_findTaken 79 = .ok (.iadd, 1) := by decide +kernel
theorem dX12_findTaken_80 : decode cX12_findTaken 80 = .ok (.iaload, 1) := by decide +kernel
theorem dX12_findTaken_81 : decode cX12_findTaken 81 = .ok (.sipush 200, 3) := by decide +kernel
theorem dX12_findTaken_84 : decode cX12_findTaken 84 = .ok (.iload_n 1, 1) := by decide +kernel
theorem dX12_findTaken_85 : decode cX12_findTaken 85 = .ok (.imul, 1) := by decide +kernel
theorem dX12_findTaken_86 : decode cX12_findTaken 86 = .ok (.iload_n 2, 1) := by decide +kernel
theorem dX12_findTaken_87 : decode cX12_findTaken 87 = .ok (.iadd, 1) := by decide +kernel
theorem dX12_findTaken_88 : decode cX12_findTaken 88 = .ok (.iastore, 1) := by decide +kernel
theorem dX12_findTaken_89 : decode cX12_findTaken 89 = .ok (.iinc 2 1, 3) := by decide +kernel
theorem dX12_findTaken_92 : decode cX12_findTaken 92 = .ok (.goto (-37), 3) := by decide +kernel
theorem dX12_findTaken_95 : decode cX12_findTaken 95 = .ok (.iinc 1 1, 3) := by decide +kernel
theorem dX12_findTaken_98 : decode cX12_findTaken 98 = .ok (.goto (-53), 3) := by decide +kernel
theorem dX12_findTaken_101 : decode cX12_findTaken 101 = .ok (.iconst 1, 1) := by decide +kernel
theorem dX12_findTaken_102 : decode cX12_findTaken 102 = .ok (.istore_n 1, 1) := by decide +kernel
theorem dX12_findTaken_103 : decode cX12_findTaken 103 = .ok (.iconst 0, 1) := by decide +kernel
theorem dX12_findTaken_104 : decode cX12_findTaken 104 = .ok (.istore_n 2, 1) := by decide +kernel
theorem dX12_findTaken_105 : decode cX12_findTaken 105 = .ok (.iload_n 1, 1) := by decide +kernel
theorem dX12_findTaken_106 : decode cX12_findTaken 106 = .ok (.ifCond .eq 120, 3) := by decide +kernel
theorem dX12_findTaken_109 : decode cX12_findTaken 109 = .ok (.iconst 0, 1) := by decide +kernel
theorem dX12_findTaken_110 : decode cX12_findTaken 110 = .ok (.istore_n 1, 1) := by decide +kernel
theorem dX12_findTaken_111 : decode cX12_findTaken 111 = .ok (.iconst 0, 1) := by decide +kernel
theorem dX12_findTaken_112 : decode cX12_findTaken 112 = .ok (.istore_n 3, 1) := by decide +kernel
theorem dX12_findTaken_113 : decode cX12_findTaken 113 = .ok (.iload_n 3, 1) := by decide +kernel
theorem dX12_findTaken_114 : decode cX12_findTaken 114 = .ok (.sipush 192, 3) := by decide +kernel
theorem dX12_findTaken_117 : decode cX12_findTaken 117 = .ok (.if_icmp .ge 60, 3) := by decide +kernel
theorem dX12_findTaken_120 : decode cX12_findTaken 120 = .ok (.aload_n 0, 1) := by decide +kernel
theorem dX12_findTaken_121 : decode cX12_findTaken 121 = .ok (.getfield 84, 3) := by decide +kernel
theorem dX12_findTaken_124 : decode cX12_findTaken 124 = .ok (.iload_n 3, 1) := by decide +kernel
theorem dX12_findTaken_125 : decode cX12_findTaken 125 = .ok (.iaload, 1) := by decide +kernel
theorem dX12_findTaken_126 : decode cX12_findTaken 126 = .ok (.ifCond .lt 45, 3) := by decide +kernel
theorem dX12_findTaken_129 : decode cX12_findTaken 129 = .ok (.aload_n 0, 1) := by decide +kernel
theorem dX12_findTaken_130 : decode cX12_findTaken 130 = .ok (.getfield 117, 3) := by decide +kernel
theorem dX12_findTaken_133 : decode cX12_findTaken 133 = .ok (.iload_n 3, 1) := by decide +kernel
theorem dX12_findTaken_134 : decode cX12_findTaken 134 = .ok (.iaload, 1) := by decide +kernel
theorem dX12_findTaken_135 : decode cX12_findTaken 135 = .ok (.ifCond .ge 36, 3) := by decide +kernel
theorem dX12_findTaken_138 : decode cX12_findTaken 138 = .ok (.aload_n 0, 1) := by decide +kernel
theorem dX12_findTaken_139 : decode cX12_findTaken 139 = .ok (.iload_n 3, 1) := by decide +kernel
theorem dX12_findTaken_140 : decode cX12_findTaken 140 = .ok (.iload_n 2, 1) := by decide +kernel
theorem dX12_findTaken_141 : decode cX12_findTaken 141 = .ok (.invokevirtual 348, 3) := by decide +kernel
theorem dX12_findTaken_144 : decode cX12_findTaken 144 = .ok (.istore 4, 2) := by decide +kernel
theorem dX12_findTaken_146 : decode cX12_findTaken 146 = .ok (.iload 4, 2) := by decide +kernel
theorem dX12_findTaken_148 : decode cX12_findTaken 148 = .ok (.ifCond .lt 23, 3) := by decide +kernel
theorem dX12_findTaken_151 : decode cX12_findTaken 151 = .ok (.aload_n 0, 1) := by decide +kernel
theorem dX12_findTaken_152 : decode cX12_findTaken 152 = .ok (.getfield 114, 3) := by decide +kernel
theorem dX12_findTaken_155 : decode cX12_findTaken 155 = .ok (.iload_n 3, 1) := by decide +kernel
theorem dX12_findTaken_156 : decode cX12_findTaken 156 = .ok (.iload 4, 2) := by decide +kernel
theorem dX12_findTaken_158 : decode cX12_findTaken 158 = .ok (.iastore, 1) := by decide +kernel
theorem dX12_findTaken_159 : decode cX12_findTaken 159 = .ok (.aload_n 0, 1) := by decide +kernel
theorem dX12_findTaken_160 : decode cX12_findTaken 160 = .ok (.getfield 117, 3) := by decide +kernel
theorem dX12_findTaken_163 : decode cX12_findTaken 163 = .ok (.iload_n 3, 1) := by decide +kernel
theorem dX12_findTaken_164 : decode cX12_findTaken 164 = .ok (.bipush (-2), 2) := by decide +kernel
theorem dX12_findTaken_166 : decode cX12_findTaken 166 = .ok (.iload_n 2, 1) := by decide +kernel
theorem dX12_findTaken_167 : decode cX12_findTaken 167 = .ok (.isub, 1) := by decide +kernel
theorem dX12_findTaken_168 : decode cX12_findTaken 168 = .ok (.iastore, 1) := by decide +kernel
theorem dX12_findTaken_169 : decode cX12_findTaken 169 = .ok (.iconst 1, 1) := by decide +kernel
theorem dX12_findTaken_170 : decode cX12_findTaken 170 = .ok (.istore_n 1, 1) := by decide +kernel
theorem dX12_findTaken_171 : decode cX12_findTaken 171 = .ok (.iinc 3 1, 3) := by decide +kernel
theorem dX12_findTaken_174 : decode cX12_findTaken 174 = .ok (.goto (-61), 3) := by decide +kernel
theorem dX12_findTaken_177 : decode cX12_findTaken 177 = .ok (.iconst 0, 1) := by decide +kernel
theorem dX12_findTaken_178 : decode cX12_findTaken 178 = .ok (.istore_n 3, 1) := by decide +kernel
theorem dX12_findTaken_179 : decode cX12_findTaken 179 = .ok (.iload_n 3, 1) := by decide +kernel
theorem dX12_findTaken_180 : decode cX12_findTaken 180 = .ok (.sipush 192, 3) := by decide +kernel
theorem dX12_findTaken_183 : decode cX12_findTaken 183 = .ok (.if_icmp .ge 37, 3) := by decide +kernel
theorem dX12_findTaken_186 : decode cX12_findTaken 186 = .ok (.aload_n 0, 1) := by decide +kernel
theorem dX12_findTaken_187 : decode cX12_findTaken 187 = .ok (.getfield 117, 3) := by decide +kernel
theorem dX12_findTaken_190 : decode cX12_findTaken 190 = .ok (.iload_n 3, 1) := by decide +kernel
theorem dX12_findTaken_191 : decode cX12_findTaken 191 = .ok (.aload_n 0, 1) := by decide +kernel
theorem dX12_findTaken_192 : decode cX12_findTaken 192 = .ok (.getfield 117, 3) := by decide +kernel
theorem dX12_findTaken_195 : decode cX12_findTaken 195 = .ok (.iload_n 3, 1) := by decide +kernel
theorem dX12_findTaken_196 : decode cX12_findTaken 196 = .ok (.iaload, 1) := by decide +kernel
theorem dX12_findTaken_197 : decode cX12_findTaken 197 = .ok (.iconst (-1), 1) := by decide +kernel
theorem dX12_findTaken_198 : decode cX12_findTaken 198 = .ok (.if_icmp .ge 9, 3) := by decide +kernel
theorem dX12_findTaken_201 : decode cX12_findTaken 201 = .ok (.iload_n 2, 1) := by decide +kernel
theorem dX12_findTaken_202 : decode cX12_findTaken 202 = .ok (.iconst 1, 1) := by decide +kernel
theorem dX12_findTaken_203 : decode cX12_findTaken 203 = .ok (.iadd, 1) := by decide +kernel
theorem dX12_findTaken_204 : decode cX12_findTaken 204 = .ok (.goto 9, 3) := by decide +kernel
theorem dX12_findTaken_207 : decode cX12_findTaken 207 = .ok (.aload_n 0, 1) := by decide +kernel
theorem dX12_findTaken_208 : decode cX12_findTaken 208 = .ok (.getfield 117, 3) := by decide +kernel
theorem dX12_findTaken_211 : decode cX12_findTaken 211 = .ok (.iload_n 3, 1) := by decide +kernel
theorem dX12_findTaken_212 : decode cX12_findTaken 212 = .ok (.iaload, 1) := by decide +kernel
theorem dX12_findTaken_213 : decode cX12_findTaken 213 = .ok (.iastore, 1) := by decide +kernel
theorem dX12_findTaken_214 : decode cX12_findTaken 214 = .ok (.iinc 3 1, 3) := by decide +kernel
theorem dX12_findTaken_217 : decode cX12_findTaken 217 = .ok (.goto (-38), 3) := by decide +kernel
theorem dX12_findTaken_220 : decode cX12_findTaken 220 = .ok (.iinc 2 1, 3) := by decide +kernel
theorem dX12_findTaken_223 : decode cX12_findTaken 223 = .ok (.goto (-118), 3) := by decide +kernel
theorem dX12_findTaken_226 : decode cX12_findTaken 226 = .ok (.return_, 1) := by decide +kernel
theorem dX12_nearestBy_0 : decode cX12_nearestBy 0 = .ok (.iconst (-1), 1) := by decide +kernel
theorem dX12_nearestBy_1 : decode cX12_nearestBy 1 = .ok (.istore_n 3, 1) := by decide +kernel
theorem dX12_nearestBy_2 : decode cX12_nearestBy 2 = .ok (.iconst 0, 1) := by decide +kernel
theorem dX12_nearestBy_3 : decode cX12_nearestBy 3 = .ok (.istore 4, 2) := by decide +kernel
theorem dX12_nearestBy_5 : decode cX12_nearestBy 5 = .ok (.iload 4, 2) := by decide +kernel
theorem dX12_nearestBy_7 : decode cX12_nearestBy 7 = .ok (.iconst 4, 1) := by decide +kernel
theorem dX12_nearestBy_8 : decode cX12_nearestBy 8 = .ok (.if_icmp .ge 57, 3) := by decide +kernel
theorem dX12_nearestBy_11 : decode cX12_nearestBy 11 = .ok (.aload_n 0, 1) := by decide +kernel
theorem dX12_nearestBy_12 : decode cX12_nearestBy 12 = .ok (.iload_n 1, 1) := by decide +kernel
theorem dX12_nearestBy_13 : decode cX12_nearestBy 13 = .ok (.iload 4, 2) := by decide +kernel
theorem dX12_nearestBy_15 : decode cX12_nearestBy 15 = .ok (.invokevirtual 342, 3) := by decide +kernel
theorem dX12_nearestBy_18 : decode cX12_nearestBy 18 = .ok (.istore 5, 2) := by decide +kernel
theorem dX12_nearestBy_20 : decode cX12_nearestBy 20 = .ok (.iload 5, 2) := by decide +kernel
theorem dX12_nearestBy_22 : decode cX12_nearestBy 22 = .ok (.ifCond .lt 37, 3) := by decide +kernel
theorem dX12_nearestBy_25 : decode cX12_nearestBy 25 = .ok (.aload_n 0, 1) := by decide +kernel
theorem dX12_nearestBy_26 : decode cX12_nearestBy 26 = .ok (.getfield 117, 3) := by decide +kernel
theorem dX12_nearestBy_29 : decode cX12_nearestBy 29 = .ok (.iload 5, 2) := by decide +kernel
theorem dX12_nearestBy_31 : decode cX12_nearestBy 31 = .ok (.iaload, 1) := by decide +kernel
theorem dX12_nearestBy_32 : decode cX12_nearestBy 32 = .ok (.iload_n 2, 1) := by decide +kernel
theorem dX12_nearestBy_33 : decode cX12_nearestBy 33 = .ok (.if_icmp .ne 26, 3) := by decide +kernel
theorem dX12_nearestBy_36 : decode cX12_nearestBy 36 = .ok (.iload_n 3, 1) := by decide +kernel
theorem dX12_nearestBy_37 : decode cX12_nearestBy 37 = .ok (.ifCond .lt 14, 3) := by decide +kernel
theorem dX12_nearestBy_40 : decode cX12_nearestBy 40 = .ok (.aload_n 0, 1) := by decide +kernel
theorem dX12_nearestBy_41 : decode cX12_nearestBy 41 = .ok (.getfield 114, 3) := by decide +kernel
theorem dX12_nearestBy_44 : decode cX12_nearestBy 44 = .ok (.iload 5, 2) := by decide +kernel
theorem dX12_nearestBy_46 : decode cX12_nearestBy 46 = .ok (.iaload, 1) := by decide +kernel
theorem dX12_nearestBy_47 : decode cX12_nearestBy 47 = .ok (.iload_n 3, 1) := by decide +kernel
theorem dX12_nearestBy_48 : decode cX12_nearestBy 48 = .ok (.if_icmp .ge 11, 3) := by decide +kernel
theorem dX12_nearestBy_51 : decode cX12_nearestBy 51 = .ok (.aload_n 0, 1) := by decide +kernel
theorem dX12_nearestBy_52 : decode cX12_nearestBy 52 = .ok (.getfield 114, 3) := by decide +kernel
theorem dX12_nearestBy_55 : decode cX12_nearestBy 55 = .ok (.iload 5, 2) := by decide +kernel
theorem dX12_nearestBy_57 : decode cX12_nearestBy 57 = .ok (.iaload, 1) := by decide +kernel
theorem dX12_nearestBy_58 : decode cX12_nearestBy 58 = .ok (.istore_n 3, 1) := by decide +kernel
theorem dX12_nearestBy_59 : decode cX12_nearestBy 59 = .ok (.iinc 4 1, 3) := by decide +kernel
theorem dX12_nearestBy_62 : decode cX12_nearestBy 62 = .ok (.goto (-57), 3) := by decide +kernel
theorem dX12_nearestBy_65 : decode cX12_nearestBy 65 = .ok (.iload_n 3, 1) := by decide +kernel
theorem dX12_nearestBy_66 : decode cX12_nearestBy 66 = .ok (.ireturn, 1) := by decide +kernel
theorem dX12_taken_0 : decode cX12_taken 0 = .ok (.aload_n 0, 1) := by decide +kernel
theorem dX12_taken_1 : decode cX12_taken 1 = .ok (.iconst 0, 1) := by decide +kernel
theorem dX12_taken_2 : decode cX12_taken 2 = .ok (.putfield 1, 3) := by decide +kernel
theorem dX12_taken_5 : decode cX12_taken 5 = .ok (.aload_n 0, 1) := by decide +kernel
theorem dX12_taken_6 : decode cX12_taken 6 = .ok (.iload_n 1, 1) := by decide +kernel
theorem dX12_taken_7 : decode cX12_taken 7 = .ok (.iload_n 2, 1) := by decide +kernel
theorem dX12_taken_8 : decode cX12_taken 8 = .ok (.invokevirtual 314, 3) := by decide +kernel
theorem dX12_taken_11 : decode cX12_taken 11 = .ok (.ifCond .ne 5, 3) := by decide +kernel
theorem dX12_taken_14 : decode cX12_taken 14 = .ok (.iconst (-1), 1) := by decide +kernel
theorem dX12_taken_15 : decode cX12_taken 15 = .ok (.ireturn, 1) := by decide +kernel
theorem dX12_taken_16 : decode cX12_taken 16 = .ok (.aload_n 0, 1) := by decide +kernel
theorem dX12_taken_17 : decode cX12_taken 17 = .ok (.invokevirtual 351, 3) := by decide +kernel
theorem dX12_taken_20 : decode cX12_taken 20 = .ok (.aload_n 0, 1) := by decide +kernel
theorem dX12_taken_21 : decode cX12_taken 21 = .ok (.getfield 114, 3) := by decide +kernel
theorem dX12_taken_24 : decode cX12_taken 24 = .ok (.bipush 16, 2) := by decide +kernel
theorem dX12_taken_26 : decode cX12_taken 26 = .ok (.iload_n 2, 1) := by decide +kernel
theorem dX12_taken_27 : decode cX12_taken 27 = .ok (.imul, 1) := by decide +kernel
theorem dX12_taken_28 : decode cX12_taken 28 = .ok (.iload_n 1, 1) := by decide +kernel
theorem dX12_taken_29 : decode cX12_taken 29 = .ok (.iadd, 1) := by decide +kernel
theorem dX12_taken_30 : decode cX12_taken 30 = .ok (.iaload, 1) := by decide +kernel
theorem dX12_taken_31 : decode cX12_taken 31 = .ok (.ireturn, 1) := by decide +kernel
theorem dX12_side_0 : decode cX12_side 0 = .ok (.aload_n 0, 1) := by decide +kernel
theorem dX12_side_1 : decode cX12_side 1 = .ok (.iconst 0, 1) := by decide +kernel
theorem dX12_side_2 : decode cX12_side 2 = .ok (.putfield 1, 3) := by decide +kernel
theorem dX12_side_5 : decode cX12_side 5 = .ok (.iload_n 1, 1) := by decide +kernel
theorem dX12_side_6 : decode cX12_side 6 = .ok (.iload_n 2, 1) := by decide +kernel
theorem dX12_side_7 : decode cX12_side 7 = .ok (.invokestatic 311, 3) := by decide +kernel
theorem dX12_side_10 : decode cX12_side 10 = .ok (.ifCond .eq 12, 3) := by decide +kernel
theorem dX12_side_13 : decode cX12_side 13 = .ok (.iload_n 3, 1) := by decide +kernel
theorem dX12_side_14 : decode cX12_side 14 = .ok (.ifCond .lt 8, 3) := by decide +kernel
theorem dX12_side_17 : decode cX12_side 17 = .ok (.iload_n 3, 1) := by decide +kernel
theorem dX12_side_18 : decode cX12_side 18 = .ok (.iconst 3, 1) := by decide +kernel
theorem dX12_side_19 : decode cX12_side 19 = .ok (.if_icmp .le 5, 3) := by decide +kernel
theorem dX12_side_22 : decode cX12_side 22 = .ok (.iconst (-1), 1) := by decide +kernel
theorem dX12_side_23 : decode cX12_side 23 = .ok (.ireturn, 1) := by decide +kernel
theorem dX12_side_24 : decode cX12_side 24 = .ok (.iload_n 3, 1) := by decide +kernel
theorem dX12_side_25 : decode cX12_side 25 = .ok (.ifCond .ne 17, 3) := by decide +kernel
theorem dX12_side_28 : decode cX12_side 28 = .ok (.aload_n 0, 1) := by decide +kernel
theorem dX12_side_29 : decode cX12_side 29 = .ok (.getfield 71, 3) := by decide +kernel
theorem dX12_side_32 : decode cX12_side 32 = .ok (.bipush 16, 2) := by decide +kernel
theorem dX12_side_34 : decode cX12_side 34 = .ok (.iload_n 2, 1) := by decide +kernel
theorem dX12_side_35 : decode cX12_side 35 = .ok (.imul, 1) := by decide +kernel
theorem dX12_side_36 : decode cX12_side 36 = .ok (.iload_n 1, 1) := by decide +kernel
theorem dX12_side_37 : decode cX12_side 37 = .ok (.iadd, 1) := by decide +kernel
theorem dX12_side_38 : decode cX12_side 38 = .ok (.iaload, 1) := by decide +kernel
theorem dX12_side_39 : decode cX12_side 39 = .ok (.goto 56, 3) := by decide +kernel
theorem dX12_side_42 : decode cX12_side 42 = .ok (.iload_n 3, 1) := by decide +kernel
theorem dX12_side_43 : decode cX12_side 43 = .ok (.iconst 1, 1) := by decide +kernel
theorem dX12_side_44 : decode cX12_side 44 = .ok (.if_icmp .ne 19, 3) := by decide +kernel
theorem dX12_side_47 : decode cX12_side 47 = .ok (.aload_n 0, 1) := by decide +kernel
theorem dX12_side_48 : decode cX12_side 48 = .ok (.getfield 71, 3) := by decide +kernel
theorem dX12_side_51 : decode cX12_side 51 = .ok (.bipush 16, 2) := by decide +kernel
theorem dX12_side_53 : decode cX12_side 53 = .ok (.iload_n 2, 1) := by decide +kernel
theorem dX12_side_54 : decode cX12_side 54 = .ok (.iconst 1, 1) := by decide +kernel
theorem dX12_side_55 : decode cX12_side 55 = .ok (.iadd, 1) := by decide +kernel
theorem dX12_side_56 : decode cX12_side 56 = .ok (.imul, 1) := by decide +kernel
theorem dX12_side_57 : decode cX12_side 57 = .ok (.iload_n 1, 1) := by decide +kernel
theorem dX12_side_58 : decode cX12_side 58 = .ok (.iadd, 1) := by decide +kernel
theorem dX12_side_59 : decode cX12_side 59 = .ok (.iaload, 1) := by decide +kernel
theorem dX12_side_60 : decode cX12_side 60 = .ok (.goto 35, 3) := by decide +kernel
theorem dX12_side_63 : decode cX12_side 63 = .ok (.iload_n 3, 1) := by decide +kernel
theorem dX12_side_64 : decode cX12_side 64 = .ok (.iconst 2, 1) := by decide +kernel
theorem dX12_side_65 : decode cX12_side 65 = .ok (.if_icmp .ne 17, 3) := by decide +kernel
theorem dX12_side_68 : decode cX12_side 68 = .ok (.aload_n 0, 1) := by decide +kernel
theorem dX12_side_69 : decode cX12_side 69 = .ok (.getfield 74, 3) := by decide +kernel
theorem dX12_side_72 : decode cX12_side 72 = .ok (.bipush 17, 2) := by decide +kernel
theorem dX12_side_74 : decode cX12_side 74 = .ok (.iload_n 2, 1) := by decide +kernel
theorem dX12_side_75 : decode cX12_side 75 = .ok (.imul, 1) := by decide +kernel
theorem dX12_side_76 : decode cX12_side 76 = .ok (.iload_n 1, 1) := by decide +kernel
theorem dX12_side_77 : decode cX12_side 77 = .ok (.iadd, 1) := by decide +kernel
theorem dX12_side_78 : decode cX12_side 78 = .ok (.iaload, 1) := by decide +kernel
theorem dX12_side_79 : decode cX12_side 79 = .ok (.goto 16, 3) := by decide +kernel
theorem dX12_side_82 : decode cX12_side 82 = .ok (.aload_n 0, 1) := by decide +kernel
theorem dX12_side_83 : decode cX12_side 83 = .ok (.getfield 74, 3) := by decide +kernel
theorem dX12_side_86 : decode cX12_side 86 = .ok (.bipush 17, 2) := by decide +kernel
theorem dX12_side_88 : decode cX12_side 88 = .ok (.iload_n 2, 1) := by decide +kernel
theorem dX12_side_89 : decode cX12_side 89 = .ok (.imul, 1) := by decide +kernel
theorem dX12_side_90 : decode cX12_side 90 = .ok (.iload_n 1, 1) := by decide +kernel
theorem dX12_side_91 : decode cX12_side 91 = .ok (.iadd, 1) := by decide +kernel
theorem dX12_side_92 : decode cX12_side 92 = .ok (.iconst 1, 1) := by decide +kernel
theorem dX12_side_93 : decode cX12_side 93 = .ok (.iadd, 1) := by decide +kernel
theorem dX12_side_94 : decode cX12_side 94 = .ok (.iaload, 1) := by decide +kernel
theorem dX12_side_95 : decode cX12_side 95 = .ok (.istore 4, 2) := by decide +kernel
theorem dX12_side_97 : decode cX12_side 97 = .ok (.iload 4, 2) := by decide +kernel
theorem dX12_side_99 : decode cX12_side 99 = .ok (.ifCond .le 7, 3) := by decide +kernel
theorem dX12_side_102 : decode cX12_side 102 = .ok (.iconst 1, 1) := by decide +kernel
theorem dX12_side_103 : decode cX12_side 103 = .ok (.goto 4, 3) := by decide +kernel
theorem dX12_side_106 : decode cX12_side 106 = .ok (.iconst 0, 1) := by decide +kernel
theorem dX12_side_107 : decode cX12_side 107 = .ok (.ireturn, 1) := by decide +kernel
theorem dX12_isStepOf_0 : decode cX12_isStepOf 0 = .ok (.iload_n 1, 1) := by decide +kernel
theorem dX12_isStepOf_1 : decode cX12_isStepOf 1 = .ok (.ifCond .lt 29, 3) := by decide +kernel
theorem dX12_isStepOf_4 : decode cX12_isStepOf 4 = .ok (.iload_n 1, 1) := by decide +kernel
theorem dX12_isStepOf_5 : decode cX12_isStepOf 5 = .ok (.aload_n 0, 1) := by decide +kernel
theorem dX12_isStepOf_6 : decode cX12_isStepOf 6 = .ok (.getfield 256, 3) := by decide +kernel
theorem dX12_isStepOf_9 : decode cX12_isStepOf 9 = .ok (.if_icmp .ge 21, 3) := by decide +kernel
theorem dX12_isStepOf_12 : decode cX12_isStepOf 12 = .ok (.iload_n 2, 1) := by decide +kernel
theorem dX12_isStepOf_13 : decode cX12_isStepOf 13 = .ok (.ifCond .lt 17, 3) := by decide +kernel
theorem dX12_isStepOf_16 : decode cX12_isStepOf 16 = .ok (.iload_n 2, 1) := by decide +kernel
theorem dX12_isStepOf_17 : decode cX12_isStepOf 17 = .ok (.aload_n 0, 1) := by decide +kernel
theorem dX12_isStepOf_18 : decode cX12_isStepOf 18 = .ok (.getfield 90, 3) := by decide +kernel
theorem dX12_isStepOf_21 : decode cX12_isStepOf 21 = .ok (.iload_n 1, 1) := by decide +kernel
theorem dX12_isStepOf_22 : decode cX12_isStepOf 22 = .ok (.iaload, 1) := by decide +kernel
theorem dX12_isStepOf_23 : decode cX12_isStepOf 23 = .ok (.if_icmp .ge 7, 3) := by decide +kernel
theorem dX12_isStepOf_26 : decode cX12_isStepOf 26 = .ok (.iconst 1, 1) := by decide +kernel
theorem dX12_isStepOf_27 : decode cX12_isStepOf 27 = .ok (.goto 4, 3) := by decide +kernel
theorem dX12_isStepOf_30 : decode cX12_isStepOf 30 = .ok (.iconst 0, 1) := by decide +kernel
theorem dX12_isStepOf_31 : decode cX12_isStepOf 31 = .ok (.ireturn, 1) := by decide +kernel
theorem dX12_row_0 : decode cX12_row 0 = .ok (.aload_n 0, 1) := by decide +kernel
theorem dX12_row_1 : decode cX12_row 1 = .ok (.iconst 0, 1) := by decide +kernel
theorem dX12_row_2 : decode cX12_row 2 = .ok (.putfield 1, 3) := by decide +kernel
theorem dX12_row_5 : decode cX12_row 5 = .ok (.aload_n 0, 1) := by decide +kernel
theorem dX12_row_6 : decode cX12_row 6 = .ok (.iload_n 1, 1) := by decide +kernel
theorem dX12_row_7 : decode cX12_row 7 = .ok (.iload_n 2, 1) := by decide +kernel
theorem dX12_row_8 : decode cX12_row 8 = .ok (.invokevirtual 354, 3) := by decide +kernel
theorem dX12_row_11 : decode cX12_row 11 = .ok (.ifCond .eq 18, 3) := by decide +kernel
theorem dX12_row_14 : decode cX12_row 14 = .ok (.aload_n 0, 1) := by decide +kernel
theorem dX12_row_15 : decode cX12_row 15 = .ok (.getfield 93, 3) := by decide +kernel
theorem dX12_row_18 : decode cX12_row 18 = .ok (.sipush 192, 3) := by decide +kernel
theorem dX12_row_21 : decode cX12_row 21 = .ok (.iload_n 1, 1) := by decide +kernel
theorem dX12_row_22 : decode cX12_row 22 = .ok (.imul, 1) := by decide +kernel
theorem dX12_row_23 : decode cX12_row 23 = .ok (.iload_n 2, 1) := by decide +kernel
theorem dX12_row_24 : decode cX12_row 24 = .ok (.iadd, 1) := by decide +kernel
theorem dX12_row_25 : decode cX12_row 25 = .ok (.iaload, 1) := by decide +kernel
theorem dX12_row_26 : decode cX12_row 26 = .ok (.goto 4, 3) := by decide +kernel
theorem dX12_row_29 : decode cX12_row 29 = .ok (.iconst (-1), 1) := by decide +kernel
theorem dX12_row_30 : decode cX12_row 30 = .ok (.ireturn, 1) := by decide +kernel
theorem dX12_added_0 : decode cX12_added 0 = .ok (.aload_n 0, 1) := by decide +kernel
theorem dX12_added_1 : decode cX12_added 1 = .ok (.iconst 0, 1) := by decide +kernel
theorem dX12_added_2 : decode cX12_added 2 = .ok (.putfield 1, 3) := by decide +kernel
theorem dX12_added_5 : decode cX12_added 5 = .ok (.aload_n 0, 1) := by decide +kernel
theorem dX12_added_6 : decode cX12_added 6 = .ok (.iload_n 1, 1) := by decide +kernel
theorem dX12_added_7 : decode cX12_added 7 = .ok (.iload_n 2, 1) := by decide +kernel
theorem dX12_added_8 : decode cX12_added 8 = .ok (.invokevirtual 354, 3) := by decide +kernel
theorem dX12_added_11 : decode cX12_added 11 = .ok (.ifCond .eq 38, 3) := by decide +kernel
theorem dX12_added_14 : decode cX12_added 14 = .ok (.iload_n 3, 1) := by decide +kernel
theorem dX12_added_15 : decode cX12_added 15 = .ok (.iconst 1, 1) := by decide +kernel
theorem dX12_added_16 : decode cX12_added 16 = .ok (.if_icmp .lt 33, 3) := by decide +kernel
theorem dX12_added_19 : decode cX12_added 19 = .ok (.iload_n 3, 1) := by decide +kernel
theorem dX12_added_20 : decode cX12_added 20 = .ok (.bipush 99, 2) := by decide +kernel
theorem dX12_added_22 : decode cX12_added 22 = .ok (.if_icmp .gt 27, 3) := by decide +kernel
theorem dX12_added_25 : decode cX12_added 25 = .ok (.iload 4, 2) := by decide +kernel
theorem dX12_added_27 : decode cX12_added 27 = .ok (.bipush 20, 2) := by decide +kernel
theorem dX12_added_29 : decode cX12_added 29 = .ok (.if_icmp .lt 20, 3) := by decide +kernel
theorem dX12_added_32 : decode cX12_added 32 = .ok (.iload 4, 2) := by decide +kernel
theorem dX12_added_34 : decode cX12_added 34 = .ok (.sipush 2000, 3) := by decide +kernel
theorem dX12_added_37 : decode cX12_added 37 = .ok (.if_icmp .gt 12, 3) := by decide +kernel
theorem dX12_added_40 : decode cX12_added 40 = .ok (.aload_n 0, 1) := by decide +kernel
theorem dX12_added_41 : decode cX12_added 41 = .ok (.getfield 357, 3) := by decide +kernel
theorem dX12_added_44 : decode cX12_added 44 = .ok (.bipush 60, 2) := by decide +kernel
theorem dX12_added_46 : decode cX12_added 46 = .ok (.if_icmp .ne 5, 3) := by decide +kernel
theorem dX12_added_49 : decode cX12_added 49 = .ok (.iconst (-1), 1) := by decide +kernel
theorem dX12_added_50 : decode cX12_added 50 = .ok (.ireturn, 1) := by decide +kernel
theorem dX12_added_51 : decode cX12_added 51 = .ok (.aload_n 0, 1) := by decide +kernel
theorem dX12_added_52 : decode cX12_added 52 = .ok (.getfield 120, 3) := by decide +kernel
theorem dX12_added_55 : decode cX12_added 55 = .ok (.aload_n 0, 1) := by decide +kernel
theorem dX12_added_56 : decode cX12_added 56 = .ok (.getfield 357, 3) := by decide +kernel
theorem dX12_added_59 : decode cX12_added 59 = .ok (.iload_n 1, 1) := by decide +kernel
theorem dX12_added_60 : decode cX12_added 60 = .ok (.iastore, 1) := by decide +kernel
theorem dX12_added_61 : decode cX12_added 61 = .ok (.aload_n 0, 1) := by decide +kernel
theorem dX12_added_62 : decode cX12_added 62 = .ok (.getfield 123, 3) := by decide +kernel
theorem dX12_added_65 : decode cX12_added 65 = .ok (.aload_n 0, 1) := by decide +kernel
theorem dX12_added_66 : decode cX12_added 66 = .ok (.getfield 357, 3) := by decide +kernel
theorem dX12_added_69 : decode cX12_added 69 = .ok (.iload_n 2, 1) := by decide +kernel
theorem dX12_added_70 : decode cX12_added 70 = .ok (.iastore, 1) := by decide +kernel
theorem dX12_added_71 : decode cX12_added 71 = .ok (.aload_n 0, 1) := by decide +kernel
theorem dX12_added_72 : decode cX12_added 72 = .ok (.getfield 126, 3) := by decide +kernel
theorem dX12_added_75 : decode cX12_added 75 = .ok (.aload_n 0, 1) := by decide +kernel
theorem dX12_added_76 : decode cX12_added 76 = .ok (.getfield 357, 3) := by decide +kernel
theorem dX12_added_79 : decode cX12_added 79 = .ok (.iload_n 3, 1) := by decide +kernel
theorem dX12_added_80 : decode cX12_added 80 = .ok (.iastore, 1) := by decide +kernel
theorem dX12_added_81 : decode cX12_added 81 = .ok (.aload_n 0, 1) := by decide +kernel
theorem dX12_added_82 : decode cX12_added 82 = .ok (.getfield 129, 3) := by decide +kernel
theorem dX12_added_85 : decode cX12_added 85 = .ok (.aload_n 0, 1) := by decide +kernel
theorem dX12_added_86 : decode cX12_added 86 = .ok (.getfield 357, 3) := by decide +kernel
theorem dX12_added_89 : decode cX12_added 89 = .ok (.iload 4, 2) := by decide +kernel
theorem dX12_added_91 : decode cX12_added 91 = .ok (.iastore, 1) := by decide +kernel
theorem dX12_added_92 : decode cX12_added 92 = .ok (.aload_n 0, 1) := by decide +kernel
theorem dX12_added_93 : decode cX12_added 93 = .ok (.dup, 1) := by decide +kernel
theorem dX12_added_94 : decode cX12_added 94 = .ok (.getfield 357, 3) := by decide +kernel
theorem dX12_added_97 : decode cX12_added 97 = .ok (.iconst 1, 1) := by decide +kernel
theorem dX12_added_98 : decode cX12_added 98 = .ok (.iadd, 1) := by decide +kernel
theorem dX12_added_99 : decode cX12_added 99 = .ok (.putfield 357, 3) := by decide +kernel
theorem dX12_added_102 : decode cX12_added 102 = .ok (.aload_n 0, 1) := by decide +kernel
theorem dX12_added_103 : decode cX12_added 103 = .ok (.getfield 357, 3) := by decide +kernel
theorem dX12_added_106 : decode cX12_added 106 = .ok (.ireturn, 1) := by decide +kernel
theorem dX12_timesAdded_0 : decode cX12_timesAdded 0 = .ok (.iconst 0, 1) := by decide +kernel
theorem dX12_timesAdded_1 : decode cX12_timesAdded 1 = .ok (.istore_n 2, 1) := by decide +kernel
theorem dX12_timesAdded_2 : decode cX12_timesAdded 2 = .ok (.iconst 0, 1) := by decide +kernel
theorem dX12_timesAdded_3 : decode cX12_timesAdded 3 = .ok (.istore_n 3, 1) := by decide +kernel
theorem dX12_timesAdded_4 : decode cX12_timesAdded 4 = .ok (.iload_n 3, 1) := by decide +kernel
theorem dX12_timesAdded_5 : decode cX12_timesAdded 5 = .ok (.aload_n 0, 1) := by decide +kernel
theorem dX12_timesAdded_6 : decode cX12_timesAdded 6 = .ok (.getfield 357, 3) := by decide +kernel
theorem dX12_timesAdded_9 : decode cX12_timesAdded 9 = .ok (.if_icmp .ge 27, 3) := by decide +kernel
theorem dX12_timesAdded_12 : decode cX12_timesAdded 12 = .ok (.iload_n 2, 1) := by decide +kernel
theorem dX12_timesAdded_13 : decode cX12_timesAdded 13 = .ok (.aload_n 0, 1) := by decide +kernel
theorem dX12_timesAdded_14 : decode cX12_timesAdded 14 = .ok (.getfield 120, 3) := by decide +kernel
theorem dX12_timesAdded_17 : decode cX12_timesAdded 17 = .ok (.iload_n 3, 1) := by decide +kernel
theorem dX12_timesAdded_18 : decode cX12_timesAdded 18 = .ok (.iaload, 1) := by decide +kernel
theorem dX12_timesAdded_19 : decode cX12_timesAdded 19 = .ok (.iload_n 1, 1) := by decide +kernel
theorem dX12_timesAdded_20 : decode cX12_timesAdded 20 = .ok (.if_icmp .ne 7, 3) := by decide +kernel
theorem dX12_timesAdded_23 : decode cX12_timesAdded 23 = .ok (.iconst 1, 1) := by decide +kernel
theorem dX12_timesAdded_24 : decode cX12_timesAdded 24 = .ok (.goto 4, 3) := by decide +kernel
theorem dX12_timesAdded_27 : decode cX12_timesAdded 27 = .ok (.iconst 0, 1) := by decide +kernel
theorem dX12_timesAdded_28 : decode cX12_timesAdded 28 = .ok (.iadd, 1) := by decide +kernel
theorem dX12_timesAdded_29 : decode cX12_timesAdded 29 = .ok (.istore_n 2, 1) := by decide +kernel
theorem dX12_timesAdded_30 : decode cX12_timesAdded 30 = .ok (.iinc 3 1, 3) := by decide +kernel
theorem dX12_timesAdded_33 : decode cX12_timesAdded 33 = .ok (.goto (-29), 3) := by decide +kernel
theorem dX12_timesAdded_36 : decode cX12_timesAdded 36 = .ok (.iload_n 2, 1) := by decide +kernel
theorem dX12_timesAdded_37 : decode cX12_timesAdded 37 = .ok (.ireturn, 1) := by decide +kernel
theorem dX12_findTotals_0 : decode cX12_findTotals 0 = .ok (.aload_n 0, 1) := by decide +kernel
theorem dX12_findTotals_1 : decode cX12_findTotals 1 = .ok (.invokevirtual 351, 3) := by decide +kernel
theorem dX12_findTotals_4 : decode cX12_findTotals 4 = .ok (.iconst 0, 1) := by decide +kernel
theorem dX12_findTotals_5 : decode cX12_findTotals 5 = .ok (.istore_n 2, 1) := by decide +kernel
theorem dX12_findTotals_6 : decode cX12_findTotals 6 = .ok (.iload_n 2, 1) := by decide +kernel
theorem dX12_findTotals_7 : decode cX12_findTotals 7 = .ok (.aload_n 0, 1) := by decide +kernel
theorem dX12_findTotals_8 : decode cX12_findTotals 8 = .ok (.getfield 90, 3) := by decide +kernel
theorem dX12_findTotals_11 : decode cX12_findTotals 11 = .ok (.iload_n 1, 1) := by decide +kernel
theorem dX12_findTotals_12 : decode cX12_findTotals 12 = .ok (.iaload, 1) := by decide +kernel
theorem dX12_findTotals_13 : decode cX12_findTotals 13 = .ok (.if_icmp .ge 16, 3) := by decide +kernel
theorem dX12_findTotals_16 : decode cX12_findTotals 16 = .ok (.aload_n 0, 1) := by decide +kernel
theorem dX12_findTotals_17 : decode cX12_findTotals 17 = .ok (.getfield 132, 3) := by decide +kernel
theorem dX12_findTotals_20 : decode cX12_findTotals 20 = .ok (.iload_n 2, 1) := by decide +kernel
theorem dX12_findTotals_21 : decode cX12_findTotals 21 = .ok (.iconst 0, 1) := by decide +kernel
theorem dX12_findTotals_22 : decode cX12_findTotals 22 = .ok (.iastore, 1) := by decide +kernel
theorem dX12_findTotals_23 : decode cX12_findTotals 23 = .ok (.iinc 2 1, 3) := by decide +kernel
theorem dX12_findTotals_26 : decode cX12_findTotals 26 = .ok (.goto (-20), 3) := by decide +kernel
theorem dX12_findTotals_29 : decode cX12_findTotals 29 = .ok (.iconst 0, 1) := by decide +kernel
theorem dX12_findTotals_30 : decode cX12_findTotals 30 = .ok (.istore_n 2, 1) := by decide +kernel
theorem dX12_findTotals_31 : decode cX12_findTotals 31 = .ok (.iload_n 2, 1) := by decide +kernel
theorem dX12_findTotals_32 : decode cX12_findTotals 32 = .ok (.sipush 192, 3) := by decide +kernel
theorem dX12_findTotals_35 : decode cX12_findTotals 35 = .ok (.if_icmp .ge 65, 3) := by decide +kernel
theorem dX12_findTotals_38 : decode cX12_findTotals 38 = .ok (.aload_n 0, 1) := by decide +kernel
theorem dX12_findTotals_39 : decode cX12_findTotals 39 = .ok (.getfield 84, 3) := by decide +kernel
theorem dX12_findTotals_42 : decode cX12_findTotals 42 = .ok (.iload_n 2, 1) := by decide +kernel
theorem dX12_findTotals_43 : decode cX12_findTotals 43 = .ok (.iaload, 1) := by decide +kernel
theorem dX12_findTotals_44 : decode cX12_findTotals 44 = .ok (.ifCond .lt 50, 3) := by decide +kernel
theorem dX12_findTotals_47 : decode cX12_findTotals 47 = .ok (.aload_n 0, 1) := by decide +kernel
theorem dX12_findTotals_48 : decode cX12_findTotals 48 = .ok (.getfield 114, 3) := by decide +kernel
theorem dX12_findTotals_51 : decode cX12_findTotals 51 = .ok (.iload_n 2, 1) := by decide +kernel
theorem dX12_findTotals_52 : decode cX12_findTotals 52 = .ok (.iaload, 1) := by decide +kernel
theorem dX12_findTotals_53 : decode cX12_findTotals 53 = .ok (.ifCond .lt 41, 3) := by decide +kernel
theorem dX12_findTotals_56 : decode cX12_findTotals 56 = .ok (.aload_n 0, 1) := by decide +kernel
theorem dX12_findTotals_57 : decode cX12_findTotals 57 = .ok (.getfield 114, 3) := by decide +kernel
theorem dX12_findTotals_60 : decode cX12_findTotals 60 = .ok (.iload_n 2, 1) := by decide +kernel
theorem dX12_findTotals_61 : decode cX12_findTotals 61 = .ok (.iaload, 1) := by decide +kernel
theorem dX12_findTotals_62 : decode cX12_findTotals 62 = .ok (.sipush 200, 3) := by decide +kernel
theorem dX12_findTotals_65 : decode cX12_findTotals 65 = .ok (.idiv, 1) := by decide +kernel
theorem dX12_findTotals_66 : decode cX12_findTotals 66 = .ok (.iload_n 1, 1) := by decide +kernel
theorem dX12_findTotals_67 : decode cX12_findTotals 67 = .ok (.if_icmp .ne 27, 3) := by decide +kernel
theorem dX12_findTotals_70 : decode cX12_findTotals 70 = .ok (.aload_n 0, 1) := by decide +kernel
theorem dX12_findTotals_71 : decode cX12_findTotals 71 = .ok (.getfield 132, 3) := by decide +kernel
theorem dX12_findTotals_74 : decode cX12_findTotals 74 = .ok (.aload_n 0, 1) := by decide +kernel
theorem dX12_findTotals_75 : decode cX12_findTotals 75 = .ok (.getfield 114, 3) := by decide +kernel
theorem dX12_findTotals_78 : decode cX12_findTotals 78 = .ok (.iload_n 2, 1) := by decide +kernel
theorem dX12_findTotals_79 : decode cX12_findTotals 79 = .ok (.iaload, 1) := by decide +kernel
theorem dX12_findTotals_80 : decode cX12_findTotals 80 = .ok (.sipush 200, 3) := by decide +kernel
theorem dX12_findTotals_83 : decode cX12_findTotals 83 = .ok (.irem, 1) := by decide +kernel
theorem dX12_findTotals_84 : decode cX12_findTotals 84 = .ok (.dup2, 1) := by decide +kernel
theorem dX12_findTotals_85 : decode cX12_findTotals 85 = .ok (.iaload, 1) := by decide +kernel
theorem dX12_findTotals_86 : decode cX12_findTotals 86 = .ok (.aload_n 0, 1) := by decide +kernel
theorem dX12_findTotals_87 : decode cX12_findTotals 87 = .ok (.getfield 84, 3) := by decide +kernel
theorem dX12_findTotals_90 : decode cX12_findTotals 90 = .ok (.iload_n 2, 1) := by decide +kernel
theorem dX12_findTotals_91 : decode cX12_findTotals 91 = .ok (.iaload, 1) := by decide +kernel
theorem dX12_findTotals_92 : decode cX12_findTotals 92 = .ok (.iadd, 1) := by decide +kernel
theorem dX12_findTotals_93 : decode cX12_findTotals 93 = .ok (.iastore, 1) := by decide +kernel
theorem dX12_findTotals_94 : decode cX12_findTotals 94 = .ok (.iinc 2 1, 3) := by decide +kernel
theorem dX12_findTotals_97 : decode cX12_findTotals 97 = .ok (.goto (-66), 3) := by decide +kernel
theorem dX12_findTotals_100 : decode cX12_findTotals 100 = .ok (.return_, 1) := by decide +kernel
theorem dX12_addedAt_0 : decode cX12_addedAt 0 = .ok (.iconst 0, 1) := by decide +kernel
theorem dX12_addedAt_1 : decode cX12_addedAt 1 = .ok (.istore_n 3, 1) := by decide +kernel
theorem dX12_addedAt_2 : decode cX12_addedAt 2 = .ok (.iconst 0, 1) := by decide +kernel
theorem dX12_addedAt_3 : decode cX12_addedAt 3 = .ok (.istore 4, 2) := by decide +kernel
theorem dX12_addedAt_5 : decode cX12_addedAt 5 = .ok (.iload 4, 2) := by decide +kernel
theorem dX12_addedAt_7 : decode cX12_addedAt 7 = .ok (.aload_n 0, 1) := by decide +kernel
theorem dX12_addedAt_8 : decode cX12_addedAt 8 = .ok (.getfield 357, 3) := by decide +kernel
theorem dX12_addedAt_11 : decode cX12_addedAt 11 = .ok (.if_icmp .ge 45, 3) := by decide +kernel
theorem dX12_addedAt_14 : decode cX12_addedAt 14 = .ok (.iload_n 3, 1) := by decide +kernel
theorem dX12_addedAt_15 : decode cX12_addedAt 15 = .ok (.aload_n 0, 1) := by decide +kernel
theorem dX12_addedAt_16 : decode cX12_addedAt 16 = .ok (.getfield 120, 3) := by decide +kernel
theorem dX12_addedAt_19 : decode cX12_addedAt 19 = .ok (.iload 4, 2) := by decide +kernel
theorem dX12_addedAt_21 : decode cX12_addedAt 21 = .ok (.iaload, 1) := by decide +kernel
theorem dX12_addedAt_22 : decode cX12_addedAt 22 = .ok (.iload_n 1, 1) := by decide +kernel
theorem dX12_addedAt_23 : decode cX12_addedAt 23 = .ok (.if_icmp .ne 24, 3) := by decide +kernel
theorem dX12_addedAt_26 : decode cX12_addedAt 26 = .ok (.aload_n 0, 1) := by decide +kernel
theorem dX12_addedAt_27 : decode cX12_addedAt 27 = .ok (.getfield 123, 3) := by decide +kernel
theorem dX12_addedAt_30 : decode cX12_addedAt 30 = .ok (.iload 4, 2) := by decide +kernel
theorem dX12_addedAt_32 : decode cX12_addedAt 32 = .ok (.iaload, 1) := by decide +kernel
theorem dX12_addedAt_33 : decode cX12_addedAt 33 = .ok (.iload_n 2, 1) := by decide +kernel
theorem dX12_addedAt_34 : decode cX12_addedAt 34 = .ok (.if_icmp .ne 13, 3) := by decide +kernel
theorem dX12_addedAt_37 : decode cX12_addedAt 37 = .ok (.aload_n 0, 1) := by decide +kernel
theorem dX12_addedAt_38 : decode cX12_addedAt 38 = .ok (.getfield 126, 3) := by decide +kernel
theorem dX12_addedAt_41 : decode cX12_addedAt 41 = .ok (.iload 4, 2) := by decide +kernel
theorem dX12_addedAt_43 : decode cX12_addedAt 43 = .ok (.iaload, 1) := by decide +kernel
theorem dX12_addedAt_44 : decode cX12_addedAt 44 = .ok (.goto 4, 3) := by decide +kernel
theorem dX12_addedAt_47 : decode cX12_addedAt 47 = .ok (.iconst 0, 1) := by decide +kernel
theorem dX12_addedAt_48 : decode cX12_addedAt 48 = .ok (.iadd, 1) := by decide +kernel
theorem dX12_addedAt_49 : decode cX12_addedAt 49 = .ok (.istore_n 3, 1) := by decide +kernel
theorem dX12_addedAt_50 : decode cX12_addedAt 50 = .ok (.iinc 4 1, 3) := by decide +kernel
theorem dX12_addedAt_53 : decode cX12_addedAt 53 = .ok (.goto (-48), 3) := by decide +kernel
theorem dX12_addedAt_56 : decode cX12_addedAt 56 = .ok (.iload_n 3, 1) := by decide +kernel
theorem dX12_addedAt_57 : decode cX12_addedAt 57 = .ok (.ireturn, 1) := by decide +kernel
theorem dX12_swaps_0 : decode cX12_swaps 0 = .ok (.aload_n 0, 1) := by decide +kernel
theorem dX12_swaps_1 : decode cX12_swaps 1 = .ok (.getfield 135, 3) := by decide +kernel
theorem dX12_swaps_4 : decode cX12_swaps 4 = .ok (.iconst 3, 1) := by decide +kernel
theorem dX12_swaps_5 : decode cX12_swaps 5 = .ok (.iload_n 2, 1) := by decide +kernel
theorem dX12_swaps_6 : decode cX12_swaps 6 = .ok (.imul, 1) := by decide +kernel
theorem dX12_swaps_7 : decode cX12_swaps 7 = .ok (.iload_n 3, 1) := by decide +kernel
theorem dX12_swaps_8 : decode cX12_swaps 8 = .ok (.iadd, 1) := by decide +kernel
theorem dX12_swaps_9 : decode cX12_swaps 9 = .ok (.iaload, 1) := by decide +kernel
theorem dX12_swaps_10 : decode cX12_swaps 10 = .ok (.istore 5, 2) := by decide +kernel
theorem dX12_swaps_12 : decode cX12_swaps 12 = .ok (.aload_n 0, 1) := by decide +kernel
theorem dX12_swaps_13 : decode cX12_swaps 13 = .ok (.getfield 135, 3) := by decide +kernel
theorem dX12_swaps_16 : decode cX12_swaps 16 = .ok (.iconst 3, 1) := by decide +kernel
theorem dX12_swaps_17 : decode cX12_swaps 17 = .ok (.iload_n 2, 1) := by decide +kernel
theorem dX12_swaps_18 : decode cX12_swaps 18 = .ok (.imul, 1) := by decide +kernel
theorem dX12_swaps_19 : decode cX12_swaps 19 = .ok (.iload_n 3, 1) := by decide +kernel
theorem dX12_swaps_20 : decode cX12_swaps 20 = .ok (.iadd, 1) := by decide +kernel
theorem dX12_swaps_21 : decode cX12_swaps 21 = .ok (.aload_n 0, 1) := by decide +kernel
theorem dX12_swaps_22 : decode cX12_swaps 22 = .ok (.getfield 135, 3) := by decide +kernel
theorem dX12_swaps_25 : decode cX12_swaps 25 = .ok (.iconst 3, 1) := by decide +kernel
theorem dX12_swaps_26 : decode cX12_swaps 26 = .ok (.iload_n 2, 1) := by decide +kernel
theorem dX12_swaps_27 : decode cX12_swaps 27 = .ok (.imul, 1) := by decide +kernel
theorem dX12_swaps_28 : decode cX12_swaps 28 = .ok (.iload 4, 2) := by decide +kernel
theorem dX12_swaps_30 : decode cX12_swaps 30 = .ok (.iadd, 1) := by decide +kernel
theorem dX12_swaps_31 : decode cX12_swaps 31 = .ok (.iaload, 1) := by decide +kernel
theorem dX12_swaps_32 : decode cX12_swaps 32 = .ok (.iastore, 1) := by decide +kernel
theorem dX12_swaps_33 : decode cX12_swaps 33 = .ok (.aload_n 0, 1) := by decide +kernel
theorem dX12_swaps_34 : decode cX12_swaps 34 = .ok (.getfield 135, 3) := by decide +kernel
theorem dX12_swaps_37 : decode cX12_swaps 37 = .ok (.iconst 3, 1) := by decide +kernel
theorem dX12_swaps_38 : decode cX12_swaps 38 = .ok (.iload_n 2, 1) := by decide +kernel
theorem dX12_swaps_39 : decode cX12_swaps 39 = .ok (.imul, 1) := by decide +kernel
theorem dX12_swaps_40 : decode cX12_swaps 40 = .ok (.iload 4, 2) := by decide +kernel
theorem dX12_swaps_42 : decode cX12_swaps 42 = .ok (.iadd, 1) := by decide +kernel
theorem dX12_swaps_43 : decode cX12_swaps 43 = .ok (.iload 5, 2) := by decide +kernel
theorem dX12_swaps_45 : decode cX12_swaps 45 = .ok (.iastore, 1) := by decide +kernel
theorem dX12_swaps_46 : decode cX12_swaps 46 = .ok (.iconst 0, 1) := by decide +kernel
theorem dX12_swaps_47 : decode cX12_swaps 47 = .ok (.istore 6, 2) := by decide +kernel
theorem dX12_swaps_49 : decode cX12_swaps 49 = .ok (.iload 6, 2) := by decide +kernel
theorem dX12_swaps_51 : decode cX12_swaps 51 = .ok (.iload_n 2, 1) := by decide +kernel
theorem dX12_swaps_52 : decode cX12_swaps 52 = .ok (.if_icmp .gt 55, 3) := by decide +kernel
theorem dX12_swaps_55 : decode cX12_swaps 55 = .ok (.aload_n 0, 1) := by decide +kernel
theorem dX12_swaps_56 : decode cX12_swaps 56 = .ok (.getfield 138, 3) := by decide +kernel
theorem dX12_swaps_59 : decode cX12_swaps 59 = .ok (.iload 6, 2) := by decide +kernel
theorem dX12_swaps_61 : decode cX12_swaps 61 = .ok (.aload_n 0, 1) := by decide +kernel
theorem dX12_swaps_62 : decode cX12_swaps 62 = .ok (.getfield 138, 3) := by decide +kernel
theorem dX12_swaps_65 : decode cX12_swaps 65 = .ok (.iload 6, 2) := by decide +kernel
theorem dX12_swaps_67 : decode cX12_swaps 67 = .ok (.iaload, 1) := by decide +kernel
theorem dX12_swaps_68 : decode cX12_swaps 68 = .ok (.iload_n 3, 1) := by decide +kernel
theorem dX12_swaps_69 : decode cX12_swaps 69 = .ok (.if_icmp .ne 8, 3) := by decide +kernel
theorem dX12_swaps_72 : decode cX12_swaps 72 = .ok (.iload 4, 2) := by decide +kernel
theorem dX12_swaps_74 : decode cX12_swaps 74 = .ok (.goto 26, 3) := by decide +kernel
theorem dX12_swaps_77 : decode cX12_swaps 77 = .ok (.aload_n 0, 1) := by decide +kernel
theorem dX12_swaps_78 : decode cX12_swaps 78 = .ok (.getfield 138, 3) := by decide +kernel
theorem dX12_swaps_81 : decode cX12_swaps 81 = .ok (.iload 6, 2) := by decide +kernel
theorem dX12_swaps_83 : decode cX12_swaps 83 = .ok (.iaload, 1) := by decide +kernel
theorem dX12_swaps_84 : decode cX12_swaps 84 = .ok (.iload 4, 2) := by decide +kernel
theorem dX12_swaps_86 : decode cX12_swaps 86 = .ok (.if_icmp .ne 7, 3) := by decide +kernel
theorem dX12_swaps_89 : decode cX12_swaps 89 = .ok (.iload_n 3, 1) := by decide +kernel
theorem dX12_swaps_90 : decode cX12_swaps 90 = .ok (.goto 10, 3) := by decide +kernel
theorem dX12_swaps_93 : decode cX12_swaps 93 = .ok (.aload_n 0, 1) := by decide +kernel
theorem dX12_swaps_94 : decode cX12_swaps 94 = .ok (.getfield 138, 3) := by decide +kernel
theorem dX12_swaps_97 : decode cX12_swaps 97 = .ok (.iload 6, 2) := by decide +kernel
theorem dX12_swaps_99 : decode cX12_swaps 99 = .ok (.iaload, 1) := by decide +kernel
theorem dX12_swaps_100 : decode cX12_swaps 100 = .ok (.iastore, 1) := by decide +kernel
theorem dX12_swaps_101 : decode cX12_swaps 101 = .ok (.iinc 6 1, 3) := by decide +kernel
theorem dX12_swaps_104 : decode cX12_swaps 104 = .ok (.goto (-55), 3) := by decide +kernel
theorem dX12_swaps_107 : decode cX12_swaps 107 = .ok (.iconst 0, 1) := by decide +kernel
theorem dX12_swaps_108 : decode cX12_swaps 108 = .ok (.istore 6, 2) := by decide +kernel
theorem dX12_swaps_110 : decode cX12_swaps 110 = .ok (.iload 6, 2) := by decide +kernel
theorem dX12_swaps_112 : decode cX12_swaps 112 = .ok (.iconst 3, 1) := by decide +kernel
theorem dX12_swaps_113 : decode cX12_swaps 113 = .ok (.if_icmp .ge 55, 3) := by decide +kernel
theorem dX12_swaps_116 : decode cX12_swaps 116 = .ok (.aload_n 0, 1) := by decide +kernel
theorem dX12_swaps_117 : decode cX12_swaps 117 = .ok (.getfield 144, 3) := by decide +kernel
theorem dX12_swaps_120 : decode cX12_swaps 120 = .ok (.iload 6, 2) := by decide +kernel
theorem dX12_swaps_122 : decode cX12_swaps 122 = .ok (.aload_n 0, 1) := by decide +kernel
theorem dX12_swaps_123 : decode cX12_swaps 123 = .ok (.getfield 144, 3) := by decide +kernel
theorem dX12_swaps_126 : decode cX12_swaps 126 = .ok (.iload 6, 2) := by decide +kernel
theorem dX12_swaps_128 : decode cX12_swaps 128 = .ok (.iaload, 1) := by decide +kernel
theorem dX12_swaps_129 : decode cX12_swaps 129 = .ok (.iload_n 3, 1) := by decide +kernel
theorem dX12_swaps_130 : decode cX12_swaps 130 = .ok (.if_icmp .ne 8, 3) := by decide +kernel
theorem dX12_swaps_133 : decode cX12_swaps 133 = .ok (.iload 4, 2) := by decide +kernel
theorem dX12_swaps_135 : decode cX12_swaps 135 = .ok (.goto 26, 3) := by decide +kernel
theorem dX12_swaps_138 : decode cX12_swaps 138 = .ok (.aload_n 0, 1) := by decide +kernel
theorem dX12_swaps_139 : decode cX12_swaps 139 = .ok (.getfield 144, 3) := by decide +kernel
theorem dX12_swaps_142 : decode cX12_swaps 142 = .ok (.iload 6, 2) := by decide +kernel
theorem dX12_swaps_144 : decode cX12_swaps 144 = .ok (.iaload, 1) := by decide +kernel
theorem dX12_swaps_145 : decode cX12_swaps 145 = .ok (.iload 4, 2) := by decide +kernel
theorem dX12_swaps_147 : decode cX12_swaps 147 = .ok (.if_icmp .ne 7, 3) := by decide +kernel
theorem dX12_swaps_150 : decode cX12_swaps 150 = .ok (.iload_n 3, 1) := by decide +kernel
theorem dX12_swaps_151 : decode cX12_swaps 151 = .ok (.goto 10, 3) := by decide +kernel
theorem dX12_swaps_154 : decode cX12_swaps 154 = .ok (.aload_n 0, 1) := by decide +kernel
theorem dX12_swaps_155 : decode cX12_swaps 155 = .ok (.getfield 144, 3) := by decide +kernel
theorem dX12_swaps_158 : decode cX12_swaps 158 = .ok (.iload 6, 2) := by decide +kernel
theorem dX12_swaps_160 : decode cX12_swaps 160 = .ok (.iaload, 1) := by decide +kernel
theorem dX12_swaps_161 : decode cX12_swaps 161 = .ok (.iastore, 1) := by decide +kernel
theorem dX12_swaps_162 : decode cX12_swaps 162 = .ok (.iinc 6 1, 3) := by decide +kernel
theorem dX12_swaps_165 : decode cX12_swaps 165 = .ok (.goto (-55), 3) := by decide +kernel
theorem dX12_swaps_168 : decode cX12_swaps 168 = .ok (.iconst 0, 1) := by decide +kernel
theorem dX12_swaps_169 : decode cX12_swaps 169 = .ok (.istore 6, 2) := by decide +kernel
theorem dX12_swaps_171 : decode cX12_swaps 171 = .ok (.iload 6, 2) := by decide +kernel
theorem dX12_swaps_173 : decode cX12_swaps 173 = .ok (.aload_n 0, 1) := by decide +kernel
theorem dX12_swaps_174 : decode cX12_swaps 174 = .ok (.getfield 357, 3) := by decide +kernel
theorem dX12_swaps_177 : decode cX12_swaps 177 = .ok (.if_icmp .ge 77, 3) := by decide +kernel
theorem dX12_swaps_180 : decode cX12_swaps 180 = .ok (.aload_n 0, 1) := by decide +kernel
theorem dX12_swaps_181 : decode cX12_swaps 181 = .ok (.getfield 120, 3) := by decide +kernel
theorem dX12_swaps_184 : decode cX12_swaps 184 = .ok (.iload 6, 2) := by decide +kernel
theorem dX12_swaps_186 : decode cX12_swaps 186 = .ok (.iaload, 1) := by decide +kernel
theorem dX12_swaps_187 : decode cX12_swaps 187 = .ok (.iload_n 1, 1) := by decide +kernel
theorem dX12_swaps_188 : decode cX12_swaps 188 = .ok (.if_icmp .ne 60, 3) := by decide +kernel
theorem dX12_swaps_191 : decode cX12_swaps 191 = .ok (.aload_n 0, 1) := by decide +kernel
theorem dX12_swaps_192 : decode cX12_swaps 192 = .ok (.getfield 123, 3) := by decide +kernel
theorem dX12_swaps_195 : decode cX12_swaps 195 = .ok (.iload 6, 2) := by decide +kernel
theorem dX12_swaps_197 : decode cX12_swaps 197 = .ok (.iaload, 1) := by decide +kernel
theorem dX12_swaps_198 : decode cX12_swaps 198 = .ok (.iload_n 2, 1) := by decide +kernel
theorem dX12_swaps_199 : decode cX12_swaps 199 = .ok (.if_icmp .gt 49, 3) := by decide +kernel
theorem dX12_swaps_202 : decode cX12_swaps 202 = .ok (.aload_n 0, 1) := by decide +kernel
theorem dX12_swaps_203 : decode cX12_swaps 203 = .ok (.getfield 147, 3) := by decide +kernel
theorem dX12_swaps_206 : decode cX12_swaps 206 = .ok (.iload 6, 2) := by decide +kernel
theorem dX12_swaps_208 : decode cX12_swaps 208 = .ok (.aload_n 0, 1) := by decide +kernel
theorem dX12_swaps_209 : decode cX12_swaps 209 = .ok (.getfield 147, 3) := by decide +kernel
theorem dX12_swaps_212 : decode cX12_swaps 212 = .ok (.iload 6, 2) := by decide +kernel
theorem dX12_swaps_214 : decode cX12_swaps 214 = .ok (.iaload, 1) := by decide +kernel
theorem dX12_swaps_215 : decode cX12_swaps 215 = .ok (.iload_n 3, 1) := by decide +kernel
theorem dX12_swaps_216 : decode cX12_swaps 216 = .ok (.if_icmp .ne 8, 3) := by decide +kernel
theorem dX12_swaps_219 : decode cX12_swaps 219 = .ok (.iload 4, 2) := by decide +kernel
theorem dX12_swaps_221 : decode cX12_swaps 221 = .ok (.goto 26, 3) := by decide +kernel
theorem dX12_swaps_224 : decode cX12_swaps 224 = .ok (.aload_n 0, 1) := by decide +kernel
theorem dX12_swaps_225 : decode cX12_swaps 225 = .ok (.getfield 147, 3) := by decide +kernel
theorem dX12_swaps_228 : decode cX12_swaps 228 = .ok (.iload 6, 2) := by decide +kernel
theorem dX12_swaps_230 : decode cX12_swaps 230 = .ok (.iaload, 1) := by decide +kernel
theorem dX12_swaps_231 : decode cX12_swaps 231 = .ok (.iload 4, 2) := by decide +kernel
theorem dX12_swaps_233 : decode cX12_swaps 233 = .ok (.if_icmp .ne 7, 3) := by decide +kernel
theorem dX12_swaps_236 : decode cX12_swaps 236 = .ok (.iload_n 3, 1) := by decide +kernel
theorem dX12_swaps_237 : decode cX12_swaps 237 = .ok (.goto 10, 3) := by decide +kernel
theorem dX12_swaps_240 : decode cX12_swaps 240 = .ok (.aload_n 0, 1) := by decide +kernel
theorem dX12_swaps_241 : decode cX12_swaps 241 = .ok (.getfield 147, 3) := by decide +kernel
theorem dX12_swaps_244 : decode cX12_swaps 244 = .ok (.iload 6, 2) := by decide +kernel
theorem dX12_swaps_246 : decode cX12_swaps 246 = .ok (.iaload, 1) := by decide +kernel
theorem dX12_swaps_247 : decode cX12_swaps 247 = .ok (.iastore, 1) := by decide +kernel
theorem dX12_swaps_248 : decode cX12_swaps 248 = .ok (.iinc 6 1, 3) := by decide +kernel
theorem dX12_swaps_251 : decode cX12_swaps 251 = .ok (.goto (-80), 3) := by decide +kernel
theorem dX12_swaps_254 : decode cX12_swaps 254 = .ok (.return_, 1) := by decide +kernel
theorem dX12_joinsIn_0 : decode cX12_joinsIn 0 = .ok (.aload_n 0, 1) := by decide +kernel
theorem dX12_joinsIn_1 : decode cX12_joinsIn 1 = .ok (.getfield 138, 3) := by decide +kernel
theorem dX12_joinsIn_4 : decode cX12_joinsIn 4 = .ok (.iload_n 2, 1) := by decide +kernel
theorem dX12_joinsIn_5 : decode cX12_joinsIn 5 = .ok (.iload_n 3, 1) := by decide +kernel
theorem dX12_joinsIn_6 : decode cX12_joinsIn 6 = .ok (.iastore, 1) := by decide +kernel
theorem dX12_joinsIn_7 : decode cX12_joinsIn 7 = .ok (.iconst 0, 1) := by decide +kernel
theorem dX12_joinsIn_8 : decode cX12_joinsIn 8 = .ok (.istore 4, 2) := by decide +kernel
theorem dX12_joinsIn_10 : decode cX12_joinsIn 10 = .ok (.iload 4, 2) := by decide +kernel
theorem dX12_joinsIn_12 : decode cX12_joinsIn 12 = .ok (.aload_n 0, 1) := by decide +kernel
theorem dX12_joinsIn_13 : decode cX12_joinsIn 13 = .ok (.getfield 357, 3) := by decide +kernel
theorem dX12_joinsIn_16 : decode cX12_joinsIn 16 = .ok (.if_icmp .ge 49, 3) := by decide +kernel
theorem dX12_joinsIn_19 : decode cX12_joinsIn 19 = .ok (.aload_n 0, 1) := by decide +kernel
theorem dX12_joinsIn_20 : decode cX12_joinsIn 20 = .ok (.getfield 147, 3) := by decide +kernel
theorem dX12_joinsIn_23 : decode cX12_joinsIn 23 = .ok (.iload 4, 2) := by decide +kernel
theorem dX12_joinsIn_25 : decode cX12_joinsIn 25 = .ok (.aload_n 0, 1) := by decide +kernel
theorem dX12_joinsIn_26 : decode cX12_joinsIn 26 = .ok (.getfield 120, 3) := by decide +kernel
theorem dX12_joinsIn_29 : decode cX12_joinsIn 29 = .ok (.iload 4, 2) := by decide +kernel
theorem dX12_joinsIn_31 : decode cX12_joinsIn 31 = .ok (.iaload, 1) := by decide +kernel
theorem dX12_joinsIn_32 : decode cX12_joinsIn 32 = .ok (.iload_n 1, 1) := by decide +kernel
theorem dX12_joinsIn_33 : decode cX12_joinsIn 33 = .ok (.if_icmp .ne 18, 3) := by decide +kernel
theorem dX12_joinsIn_36 : decode cX12_joinsIn 36 = .ok (.aload_n 0, 1) := by decide +kernel
theorem dX12_joinsIn_37 : decode cX12_joinsIn 37 = .ok (.getfield 123, 3) := by decide +kernel
theorem dX12_joinsIn_40 : decode cX12_joinsIn 40 = .ok (.iload 4, 2) := by decide +kernel
theorem dX12_joinsIn_42 : decode cX12_joinsIn 42 = .ok (.iaload, 1) := by decide +kernel
theorem dX12_joinsIn_43 : decode cX12_joinsIn 43 = .ok (.iload_n 2, 1) := by decide +kernel
theorem dX12_joinsIn_44 : decode cX12_joinsIn 44 = .ok (.if_icmp .ne 7, 3) := by decide +kernel
theorem dX12_joinsIn_47 : decode cX12_joinsIn 47 = .ok (.iload_n 3, 1) := by decide +kernel
theorem dX12_joinsIn_48 : decode cX12_joinsIn 48 = .ok (.goto 10, 3) := by decide +kernel
theorem dX12_joinsIn_51 : decode cX12_joinsIn 51 = .ok (.aload_n 0, 1) := by decide +kernel
theorem dX12_joinsIn_52 : decode cX12_joinsIn 52 = .ok (.getfield 147, 3) := by decide +kernel
theorem dX12_joinsIn_55 : decode cX12_joinsIn 55 = .ok (.iload 4, 2) := by decide +kernel
theorem dX12_joinsIn_57 : decode cX12_joinsIn 57 = .ok (.iaload, 1) := by decide +kernel
theorem dX12_joinsIn_58 : decode cX12_joinsIn 58 = .ok (.iastore, 1) := by decide +kernel
theorem dX12_joinsIn_59 : decode cX12_joinsIn 59 = .ok (.iinc 4 1, 3) := by decide +kernel
theorem dX12_joinsIn_62 : decode cX12_joinsIn 62 = .ok (.goto (-52), 3) := by decide +kernel
theorem dX12_joinsIn_65 : decode cX12_joinsIn 65 = .ok (.return_, 1) := by decide +kernel
theorem dX12_braids_0 : decode cX12_braids 0 = .ok (.aload_n 0, 1) := by decide +kernel
theorem dX12_braids_1 : decode cX12_braids 1 = .ok (.iload_n 1, 1) := by decide +kernel
theorem dX12_braids_2 : decode cX12_braids 2 = .ok (.invokevirtual 360, 3) := by decide +kernel
theorem dX12_braids_5 : decode cX12_braids 5 = .ok (.iconst 0, 1) := by decide +kernel
theorem dX12_braids_6 : decode cX12_braids 6 = .ok (.istore_n 2, 1) := by decide +kernel
theorem dX12_braids_7 : decode cX12_braids 7 = .ok (.iload_n 2, 1) := by decide +kernel
theorem dX12_braids_8 : decode cX12_braids 8 = .ok (.iconst 3, 1) := by decide +kernel
theorem dX12_braids_9 : decode cX12_braids 9 = .ok (.if_icmp .ge 60, 3) := by decide +kernel
theorem dX12_braids_12 : decode cX12_braids 12 = .ok (.aload_n 0, 1) := by decide +kernel
theorem dX12_braids_13 : decode cX12_braids 13 = .ok (.getfield 141, 3) := by decide +kernel
theorem dX12_braids_16 : decode cX12_braids 16 = .ok (.iload_n 2, 1) := by decide +kernel
theorem dX12_braids_17 : decode cX12_braids 17 = .ok (.aload_n 0, 1) := by decide +kernel
theorem dX12_braids_18 : decode cX12_braids 18 = .ok (.getfield 132, 3) := by decide +kernel
theorem dX12_braids_21 : decode cX12_braids 21 = .ok (.iconst 0, 1) := by decide +kernel
theorem dX12_braids_22 : decode cX12_braids 22 = .ok (.iaload, 1) := by decide +kernel
theorem dX12_braids_23 : decode cX12_braids 23 = .ok (.iconst 3, 1) := by decide +kernel
theorem dX12_braids_24 : decode cX12_braids 24 = .ok (.idiv, 1) := by decide +kernel
theorem dX12_braids_25 : decode cX12_braids 25 = .ok (.aload_n 0, 1) := by decide +kernel
theorem dX12_braids_26 : decode cX12_braids 26 = .ok (.getfield 132, 3) := by decide +kernel
theorem dX12_braids_29 : decode cX12_braids 29 = .ok (.iconst 0, 1) := by decide +kernel
theorem dX12_braids_30 : decode cX12_braids 30 = .ok (.iaload, 1) := by decide +kernel
theorem dX12_braids_31 : decode cX12_braids 31 = .ok (.iconst 3, 1) := by decide +kernel
theorem dX12_braids_32 : decode cX12_braids 32 = .ok (.irem, 1) := by decide +kernel
theorem dX12_braids_33 : decode cX12_braids 33 = .ok (.iload_n 2, 1) := by decide +kernel
theorem dX12_braids_34 : decode cX12_braids 34 = .ok (.if_icmp .le 7, 3) := by decide +kernel
theorem dX12_braids_37 : decode cX12_braids 37 = .ok (.iconst 1, 1) := by decide +kernel
theorem dX12_braids_38 : decode cX12_braids 38 = .ok (.goto 4, 3) := by decide +kernel
theorem dX12_braids_41 : decode cX12_braids 41 = .ok (.iconst 0, 1) := by decide +kernel
theorem dX12_braids_42 : decode cX12_braids 42 = .ok (.iadd, 1) := by decide +kernel
theorem dX12_braids_43 : decode cX12_braids 43 = .ok (.iastore, 1) := by decide +kernel
theorem dX12_braids_44 : decode cX12_braids 44 = .ok (.aload_n 0, 1) := by decide +kernel
theorem dX12_braids_45 : decode cX12_braids 45 = .ok (.getfield 144, 3) := by decide +kernel
theorem dX12_braids_48 : decode cX12_braids 48 = .ok (.iload_n 2, 1) := by decide +kernel
theorem dX12_braids_49 : decode cX12_braids 49 = .ok (.iload_n 2, 1) := by decide +kernel
theorem dX12_braids_50 : decode cX12_braids 50 = .ok (.iastore, 1) := by decide +kernel
theorem dX12_braids_51 : decode cX12_braids 51 = .ok (.aload_n 0, 1) := by decide +kernel
theorem dX12_braids_52 : decode cX12_braids 52 = .ok (.getfield 135, 3) := by decide +kernel
theorem dX12_braids_55 : decode cX12_braids 55 = .ok (.iload_n 2, 1) := by decide +kernel
theorem dX12_braids_56 : decode cX12_braids 56 = .ok (.aload_n 0, 1) := by decide +kernel
theorem dX12_braids_57 : decode cX12_braids 57 = .ok (.getfield 141, 3) := by decide +kernel
theorem dX12_braids_60 : decode cX12_braids 60 = .ok (.iload_n 2, 1) := by decide +kernel
theorem dX12_braids_61 : decode cX12_braids 61 = .ok (.iaload, 1) := by decide +kernel
theorem dX12_braids_62 : decode cX12_braids 62 = .ok (.iastore, 1) := by decide +kernel
theorem dX12_braids_63 : decode cX12_braids 63 = .ok (.iinc 2 1, 3) := by decide +kernel
theorem dX12_braids_66 : decode cX12_braids 66 = .ok (.goto (-59), 3) := by decide +kernel
theorem dX12_braids_69 : decode cX12_braids 69 = .ok (.aload_n 0, 1) := by decide +kernel
theorem dX12_braids_70 : decode cX12_braids 70 = .ok (.getfield 135, 3) := by decide +kernel
theorem dX12_braids_73 : decode cX12_braids 73 = .ok (.iconst 0, 1) := by decide +kernel
theorem dX12_braids_74 : decode cX12_braids 74 = .ok (.dup2, 1) := by decide +kernel
theorem dX12_braids_75 : decode cX12_braids 75 = .ok (.iaload, 1) := by decide +kernel
theorem dX12_braids_76 : decode cX12_braids 76 = .ok (.aload_n 0, 1) := by decide +kernel
theorem dX12_braids_77 : decode cX12_braids 77 = .ok (.iload_n 1, 1) := by decide +kernel
theorem dX12_braids_78 : decode cX12_braids 78 = .ok (.iconst 0, 1) := by decide +kernel
theorem dX12_braids_79 : decode cX12_braids 79 = .ok (.invokevirtual 363, 3) := by decide +kernel
theorem dX12_braids_82 : decode cX12_braids 82 = .ok (.iadd, 1) := by decide +kernel
theorem dX12_braids_83 : decode cX12_braids 83 = .ok (.iastore, 1) := by decide +kernel
theorem dX12_braids_84 : decode cX12_braids 84 = .ok (.aload_n 0, 1) := by decide +kernel
theorem dX12_braids_85 : decode cX12_braids 85 = .ok (.iload_n 1, 1) := by decide +kernel
theorem dX12_braids_86 : decode cX12_braids 86 = .ok (.iconst 0, 1) := by decide +kernel
theorem dX12_braids_87 : decode cX12_braids 87 = .ok (.iconst 0, 1) := by decide +kernel
theorem dX12_braids_88 : decode cX12_braids 88 = .ok (.invokevirtual 366, 3) := by decide +kernel
theorem dX12_braids_91 : decode cX12_braids 91 = .ok (.iconst 1, 1) := by decide +kernel
theorem dX12_braids_92 : decode cX12_braids 92 = .ok (.istore_n 2, 1) := by decide +kernel
theorem dX12_braids_93 : decode cX12_braids 93 = .ok (.iload_n 2, 1) := by decide +kernel
theorem dX12_braids_94 : decode cX12_braids 94 = .ok (.aload_n 0, 1) := by decide +kernel
theorem dX12_braids_95 : decode cX12_braids 95 = .ok (.getfield 90, 3) := by decide +kernel
theorem dX12_braids_98 : decode cX12_braids 98 = .ok (.iload_n 1, 1) := by decide +kernel
theorem dX12_braids_99 : decode cX12_braids 99 = .ok (.iaload, 1) := by decide +kernel
theorem dX12_braids_100 : decode cX12_braids 100 = .ok (.if_icmp .ge 102, 3) := by decide +kernel
theorem dX12_braids_103 : decode cX12_braids 103 = .ok (.iload_n 2, 1) := by decide +kernel
theorem dX12_braids_104 : decode cX12_braids 104 = .ok (.iconst 2, 1) := by decide +kernel
theorem dX12_braids_105 : decode cX12_braids 105 = .ok (.irem, 1) := by decide +kernel
theorem dX12_braids_106 : decode cX12_braids 106 = .ok (.iconst 1, 1) := by decide +kernel
theorem dX12_braids_107 : decode cX12_braids 107 = .ok (.if_icmp .ne 7, 3) := by decide +kernel
theorem dX12_braids_110 : decode cX12_braids 110 = .ok (.iconst 0, 1) := by decide +kernel
theorem dX12_braids_111 : decode cX12_braids 111 = .ok (.goto 4, 3) := by decide +kernel
theorem dX12_braids_114 : decode cX12_braids 114 = .ok (.iconst 2, 1) := by decide +kernel
theorem dX12_braids_115 : decode cX12_braids 115 = .ok (.istore_n 3, 1) := by decide +kernel
theorem dX12_braids_116 : decode cX12_braids 116 = .ok (.iconst 0, 1) := by decide +kernel
theorem dX12_braids_117 : decode cX12_braids 117 = .ok (.istore 4, 2) := by decide +kernel
theorem dX12_braids_119 : decode cX12_braids 119 = .ok (.iload 4, 2) := by decide +kernel
theorem dX12_braids_121 : decode cX12_braids 121 = .ok (.iconst 3, 1) := by decide +kernel
theorem dX12_braids_122 : decode cX12_braids 122 = .ok (.if_icmp .ge 33, 3) := by decide +kernel
theorem dX12_braids_125 : decode cX12_braids 125 = .ok (.aload_n 0, 1) := by decide +kernel
theorem dX12_braids_126 : decode cX12_braids 126 = .ok (.getfield 135, 3) := by decide +kernel
theorem dX12_braids_129 : decode cX12_braids 129 = .ok (.iconst 3, 1) := by decide +kernel
theorem dX12_braids_130 : decode cX12_braids 130 = .ok (.iload_n 2, 1) := by decide +kernel
theorem dX12_braids_131 : decode cX12_braids 131 = .ok (.imul, 1) := by decide +kernel
theorem dX12_braids_132 : decode cX12_braids 132 = .ok (.iload 4, 2) := by decide +kernel
theorem dX12_braids_134 : decode cX12_braids 134 = .ok (.iadd, 1) := by decide +kernel
theorem dX12_braids_135 : decode cX12_braids 135 = .ok (.aload_n 0, 1) := by decide +kernel
theorem dX12_braids_136 : decode cX12_braids 136 = .ok (.getfield 135, 3) := by decide +kernel
theorem dX12_braids_139 : decode cX12_braids 139 = .ok (.iconst 3, 1) := by decide +kernel
theorem dX12_braids_140 : decode cX12_braids 140 = .ok (.iload_n 2, 1) := by decide +kernel
theorem dX12_braids_141 : decode cX12_braids 141 = .ok (.iconst 1, 1) := by decide +kernel
theorem dX12_braids_142 : decode cX12_braids 142 = .ok (.isub, 1) := by decide +kernel
theorem dX12_braids_143 : decode cX12_braids 143 = .ok (.imul, 1) := by decide +kernel
theorem dX12_braids_144 : decode cX12_braids 144 = .ok (.iload 4, 2) := by decide +kernel
theorem dX12_braids_146 : decode cX12_braids 146 = .ok (.iadd, 1) := by decide +kernel
theorem dX12_braids_147 : decode cX12_braids 147 = .ok (.iaload, 1) := by decide +kernel
theorem dX12_braids_148 : decode cX12_braids 148 = .ok (.iastore, 1) := by decide +kernel
theorem dX12_braids_149 : decode cX12_braids 149 = .ok (.iinc 4 1, 3) := by decide +kernel
theorem dX12_braids_152 : decode cX12_braids 152 = .ok (.goto (-33), 3) := by decide +kernel
theorem dX12_braids_155 : decode cX12_braids 155 = .ok (.aload_n 0, 1) := by decide +kernel
theorem dX12_braids_156 : decode cX12_braids 156 = .ok (.getfield 135, 3) := by decide +kernel
theorem dX12_braids_159 : decode cX12_braids 159 = .ok (.iconst 3, 1) := by decide +kernel
theorem dX12_braids_160 : decode cX12_braids 160 = .ok (.iload_n 2, 1) := by decide +kernel
theorem dX12_braids_161 : decode cX12_braids 161 = .ok (.imul, 1) := by decide +kernel
theorem dX12_braids_162 : decode cX12_braids 162 = .ok (.iload_n 3, 1) := by decide +kernel
theorem dX12_braids_163 : decode cX12_braids 163 = .ok (.iadd, 1) := by decide +kernel
theorem dX12_braids_164 : decode cX12_braids 164 = .ok (.dup2, 1) := by decide +kernel
theorem dX12_braids_165 : decode cX12_braids 165 = .ok (.iaload, 1) := by decide +kernel
theorem dX12_braids_166 : decode cX12_braids 166 = .ok (.aload_n 0, 1) := by decide +kernel
theorem dX12_braids_167 : decode cX12_braids 167 = .ok (.getfield 132, 3) := by decide +kernel
theorem dX12_braids_170 : decode cX12_braids 170 = .ok (.iload_n 2, 1) := by decide +kernel
theorem dX12_braids_171 : decode cX12_braids 171 = .ok (.iaload, 1) := by decide +kernel
theorem dX12_braids_172 : decode cX12_braids 172 = .ok (.aload_n 0, 1) := by decide +kernel
theorem dX12_braids_173 : decode cX12_braids 173 = .ok (.iload_n 1, 1) := by decide +kernel
theorem dX12_braids_174 : decode cX12_braids 174 = .ok (.iload_n 2, 1) := by decide +kernel
theorem dX12_braids_175 : decode cX12_braids 175 = .ok (.invokevirtual 363, 3) := by decide +kernel
theorem dX12_braids_178 : decode cX12_braids 178 = .ok (.iadd, 1) := by decide +kernel
theorem dX12_braids_179 : decode cX12_braids 179 = .ok (.iadd, 1) := by decide +kernel
theorem dX12_braids_180 : decode cX12_braids 180 = .ok (.iastore, 1) := by decide +kernel
theorem dX12_braids_181 : decode cX12_braids 181 = .ok (.aload_n 0, 1) := by decide +kernel
theorem dX12_braids_182 : decode cX12_braids 182 = .ok (.iload_n 1, 1) := by decide +kernel
theorem dX12_braids_183 : decode cX12_braids 183 = .ok (.iload_n 2, 1) := by decide +kernel
theorem dX12_braids_184 : decode cX12_braids 184 = .ok (.iload_n 3, 1) := by decide +kernel
theorem dX12_braids_185 : decode cX12_braids 185 = .ok (.invokevirtual 366, 3) := by decide +kernel
theorem dX12_braids_188 : decode cX12_braids 188 = .ok (.aload_n 0, 1) := by decide +kernel
theorem dX12_braids_189 : decode cX12_braids 189 = .ok (.iload_n 1, 1) := by decide +kernel
theorem dX12_braids_190 : decode cX12_braids 190 = .ok (.iload_n 2, 1) := by decide +kernel
theorem dX12_braids_191 : decode cX12_braids 191 = .ok (.iload_n 3, 1) := by decide +kernel
theorem dX12_braids_192 : decode cX12_braids 192 = .ok (.iconst 1, 1) := by decide +kernel
theorem dX12_braids_193 : decode cX12_braids 193 = .ok (.invokevirtual 370, 3) := by decide +kernel
theorem dX12_braids_196 : decode cX12_braids 196 = .ok (.iinc 2 1, 3) := by decide +kernel
theorem dX12_braids_199 : decode cX12_braids 199 = .ok (.goto (-106), 3) := by decide +kernel
theorem dX12_braids_202 : decode cX12_braids 202 = .ok (.return_, 1) := by decide +kernel
theorem dX12_isEdge_0 : decode cX12_isEdge 0 = .ok (.iconst 0, 1) := by decide +kernel
theorem dX12_isEdge_1 : decode cX12_isEdge 1 = .ok (.istore_n 2, 1) := by decide +kernel
theorem dX12_isEdge_2 : decode cX12_isEdge 2 = .ok (.iconst 0, 1) := by decide +kernel
theorem dX12_isEdge_3 : decode cX12_isEdge 3 = .ok (.istore_n 3, 1) := by decide +kernel
theorem dX12_isEdge_4 : decode cX12_isEdge 4 = .ok (.iload_n 3, 1) := by decide +kernel
theorem dX12_isEdge_5 : decode cX12_isEdge 5 = .ok (.iconst 4, 1) := by decide +kernel
theorem dX12_isEdge_6 : decode cX12_isEdge 6 = .ok (.if_icmp .ge 44, 3) := by decide +kernel
theorem dX12_isEdge_9 : decode cX12_isEdge 9 = .ok (.iload_n 2, 1) := by decide +kernel
theorem dX12_isEdge_10 : decode cX12_isEdge 10 = .ok (.ifCond .ne 28, 3) := by decide +kernel
theorem dX12_isEdge_13 : decode cX12_isEdge 13 = .ok (.aload_n 0, 1) := by decide +kernel
theorem dX12_isEdge_14 : decode cX12_isEdge 14 = .ok (.iload_n 1, 1) := by decide +kernel
theorem dX12_isEdge_15 : decode cX12_isEdge 15 = .ok (.bipush 16, 2) := by decide +kernel
theorem dX12_isEdge_17 : decode cX12_isEdge 17 = .ok (.irem, 1) := by decide +kernel
theorem dX12_isEdge_18 : decode cX12_isEdge 18 = .ok (.iload_n 3, 1) := by decide +kernel
theorem dX12_isEdge_19 : decode cX12_isEdge 19 = .ok (.invokestatic 333, 3) := by decide +kernel
theorem dX12_isEdge_22 : decode cX12_isEdge 22 = .ok (.iadd, 1) := by decide +kernel
theorem dX12_isEdge_23 : decode cX12_isEdge 23 = .ok (.iload_n 1, 1) := by decide +kernel
theorem dX12_isEdge_24 : decode cX12_isEdge 24 = .ok (.bipush 16, 2) := by decide +kernel
theorem dX12_isEdge_26 : decode cX12_isEdge 26 = .ok (.idiv, 1) := by decide +kernel
theorem dX12_isEdge_27 : decode cX12_isEdge 27 = .ok (.iload_n 3, 1) := by decide +kernel
theorem dX12_isEdge_28 : decode cX12_isEdge 28 = .ok (.invokestatic 336, 3) := by decide +kernel
theorem dX12_isEdge_31 : decode cX12_isEdge 31 = .ok (.iadd, 1) := by decide +kernel
theorem dX12_isEdge_32 : decode cX12_isEdge 32 = .ok (.invokevirtual 314, 3) := by decide +kernel
theorem dX12_isEdge_35 : decode cX12_isEdge 35 = .ok (.ifCond .ne 7, 3) := by decide +kernel
theorem dX12_isEdge_38 : decode cX12_isEdge 38 = .ok (.iconst 1, 1) := by decide +kernel
theorem dX12_isEdge_39 : decode cX12_isEdge 39 = .ok (.goto 4, 3) := by decide +kernel
theorem dX12_isEdge_42 : decode cX12_isEdge 42 = .ok (.iconst 0, 1) := by decide +kernel
theorem dX12_isEdge_43 : decode cX12_isEdge 43 = .ok (.istore_n 2, 1) := by decide +kernel
theorem dX12_isEdge_44 : decode cX12_isEdge 44 = .ok (.iinc 3 1, 3) := by decide +kernel
theorem dX12_isEdge_47 : decode cX12_isEdge 47 = .ok (.goto (-43), 3) := by decide +kernel
theorem dX12_isEdge_50 : decode cX12_isEdge 50 = .ok (.iload_n 2, 1) := by decide +kernel
theorem dX12_isEdge_51 : decode cX12_isEdge 51 = .ok (.ireturn, 1) := by decide +kernel
theorem dX12_most_0 : decode cX12_most 0 = .ok (.aload_n 0, 1) := by decide +kernel
theorem dX12_most_1 : decode cX12_most 1 = .ok (.getfield 135, 3) := by decide +kernel
theorem dX12_most_4 : decode cX12_most 4 = .ok (.iconst 3, 1) := by decide +kernel
theorem dX12_most_5 : decode cX12_most 5 = .ok (.iload_n 1, 1) := by decide +kernel
theorem dX12_most_6 : decode cX12_most 6 = .ok (.imul, 1) := by decide +kernel
theorem dX12_most_7 : decode cX12_most 7 = .ok (.iaload, 1) := by decide +kernel
theorem dX12_most_8 : decode cX12_most 8 = .ok (.istore_n 2, 1) := by decide +kernel
theorem dX12_most_9 : decode cX12_most 9 = .ok (.iconst 1, 1) := by decide +kernel
theorem dX12_most_10 : decode cX12_most 10 = .ok (.istore_n 3, 1) := by decide +kernel
theorem dX12_most_11 : decode cX12_most 11 = .ok (.iload_n 3, 1) := by decide +kernel
theorem dX12_most_12 : decode cX12_most 12 = .ok (.iconst 3, 1) := by decide +kernel
theorem dX12_most_13 : decode cX12_most 13 = .ok (.if_icmp .ge 38, 3) := by decide +kernel
theorem dX12_most_16 : decode cX12_most 16 = .ok (.aload_n 0, 1) := by decide +kernel
theorem dX12_most_17 : decode cX12_most 17 = .ok (.getfield 135, 3) := by decide +kernel
theorem dX12_most_20 : decode cX12_most 20 = .ok (.iconst 3, 1) := by decide +kernel
theorem dX12_most_21 : decode cX12_most 21 = .ok (.iload_n 1, 1) := by decide +kernel
theorem dX12_most_22 : decode cX12_most 22 = .ok (.imul, 1) := by decide +kernel
theorem dX12_most_23 : decode cX12_most 23 = .ok (.iload_n 3, 1) := by decide +kernel
theorem dX12_most_24 : decode cX12_most 24 = .ok (.iadd, 1) := by decide +kernel
theorem dX12_most_25 : decode cX12_most 25 = .ok (.iaload, 1) := by decide +kernel
theorem dX12_most_26 : decode cX12_most 26 = .ok (.iload_n 2, 1) := by decide +kernel
theorem dX12_most_27 : decode cX12_most 27 = .ok (.if_icmp .le 16, 3) := by decide +kernel
theorem dX12_most_30 : decode cX12_most 30 = .ok (.aload_n 0, 1) := by decide +kernel
theorem dX12_most_31 : decode cX12_most 31 = .ok (.getfield 135, 3) := by decide +kernel
theorem dX12_most_34 : decode cX12_most 34 = .ok (.iconst 3, 1) := by decide +kernel
theorem dX12_most_35 : decode cX12_most 35 = .ok (.iload_n 1, 1) := by decide +kernel
theorem dX12_most_36 : decode cX12_most 36 = .ok (.imul, 1) := by decide +kernel
theorem dX12_most_37 : decode cX12_most 37 = .ok (.iload_n 3, 1) := by decide +kernel
theorem dX12_most_38 : decode cX12_most 38 = .ok (.iadd, 1) := by decide +kernel
theorem dX12_most_39 : decode cX12_most 39 = .ok (.iaload, 1) := by decide +kernel
theorem dX12_most_40 : decode cX12_most 40 = .ok (.goto 4, 3) := by decide +kernel
theorem dX12_most_43 : decode cX12_most 43 = .ok (.iload_n 2, 1) := by decide +kernel
theorem dX12_most_44 : decode cX12_most 44 = .ok (.istore_n 2, 1) := by decide +kernel
theorem dX12_most_45 : decode cX12_most 45 = .ok (.iinc 3 1, 3) := by decide +kernel
theorem dX12_most_48 : decode cX12_most 48 = .ok (.goto (-37), 3) := by decide +kernel
theorem dX12_most_51 : decode cX12_most 51 = .ok (.iload_n 2, 1) := by decide +kernel
theorem dX12_most_52 : decode cX12_most 52 = .ok (.ireturn, 1) := by decide +kernel
theorem dX12_fewest_0 : decode cX12_fewest 0 = .ok (.aload_n 0, 1) := by decide +kernel
theorem dX12_fewest_1 : decode cX12_fewest 1 = .ok (.getfield 135, 3) := by decide +kernel
theorem dX12_fewest_4 : decode cX12_fewest 4 = .ok (.iconst 3, 1) := by decide +kernel
theorem dX12_fewest_5 : decode cX12_fewest 5 = .ok (.iload_n 1, 1) := by decide +kernel
theorem dX12_fewest_6 : decode cX12_fewest 6 = .ok (.imul, 1) := by decide +kernel
theorem dX12_fewest_7 : decode cX12_fewest 7 = .ok (.iaload, 1) := by decide +kernel
theorem dX12_fewest_8 : decode cX12_fewest 8 = .ok (.istore_n 2, 1) := by decide +kernel
theorem dX12_fewest_9 : decode cX12_fewest 9 = .ok (.iconst 1, 1) := by decide +kernel
theorem dX12_fewest_10 : decode cX12_fewest 10 = .ok (.istore_n 3, 1) := by decide +kernel
theorem dX12_fewest_11 : decode cX12_fewest 11 = .ok (.iload_n 3, 1) := by decide +kernel
theorem dX12_fewest_12 : decode cX12_fewest 12 = .ok (.iconst 3, 1) := by decide +kernel
theorem dX12_fewest_13 : decode cX12_fewest 13 = .ok (.if_icmp .ge 24, 3) := by decide +kernel
theorem dX12_fewest_16 : decode cX12_fewest 16 = .ok (.iload_n 2, 1) := by decide +kernel
theorem dX12_fewest_17 : decode cX12_fewest 17 = .ok (.aload_n 0, 1) := by decide +kernel
theorem dX12_fewest_18 : decode cX12_fewest 18 = .ok (.getfield 135, 3) := by decide +kernel
theorem dX12_fewest_21 : decode cX12_fewest 21 = .ok (.iconst 3, 1) := by decide +kernel
theorem dX12_fewest_22 : decode cX12_fewest 22 = .ok (.iload_n 1, 1) := by decide +kernel
theorem dX12_fewest_23 : decode cX12_fewest 23 = .ok (.imul, 1) := by decide +kernel
theorem dX12_fewest_24 : decode cX12_fewest 24 = .ok (.iload_n 3, 1) := by decide +kernel
theorem dX12_fewest_25 : decode cX12_fewest 25 = .ok (.iadd, 1) := by decide +kernel
theorem dX12_fewest_26 : decode cX12_fewest 26 = .ok (.iaload, 1) := by decide +kernel
theorem dX12_fewest_27 : decode cX12_fewest 27 = .ok (.invokestatic 289, 3) := by decide +kernel
theorem dX12_fewest_30 : decode cX12_fewest 30 = .ok (.istore_n 2, 1) := by decide +kernel
theorem dX12_fewest_31 : decode cX12_fewest 31 = .ok (.iinc 3 1, 3) := by decide +kernel
theorem dX12_fewest_34 : decode cX12_fewest 34 = .ok (.goto (-23), 3) := by decide +kernel
theorem dX12_fewest_37 : decode cX12_fewest 37 = .ok (.iload_n 2, 1) := by decide +kernel
theorem dX12_fewest_38 : decode cX12_fewest 38 = .ok (.ireturn, 1) := by decide +kernel
theorem dX12_pullAt_0 : decode cX12_pullAt 0 = .ok (.aload_n 0, 1) := by decide +kernel
theorem dX12_pullAt_1 : decode cX12_pullAt 1 = .ok (.iload_n 2, 1) := by decide +kernel
theorem dX12_pullAt_2 : decode cX12_pullAt 2 = .ok (.invokevirtual 374, 3) := by decide +kernel
theorem dX12_pullAt_5 : decode cX12_pullAt 5 = .ok (.aload_n 0, 1) := by decide +kernel
theorem dX12_pullAt_6 : decode cX12_pullAt 6 = .ok (.iload_n 2, 1) := by decide +kernel
theorem dX12_pullAt_7 : decode cX12_pullAt 7 = .ok (.invokevirtual 377, 3) := by decide +kernel
theorem dX12_pullAt_10 : decode cX12_pullAt 10 = .ok (.isub, 1) := by decide +kernel
theorem dX12_pullAt_11 : decode cX12_pullAt 11 = .ok (.aload_n 0, 1) := by decide +kernel
theorem dX12_pullAt_12 : decode cX12_pullAt 12 = .ok (.aload_n 0, 1) := by decide +kernel
theorem dX12_pullAt_13 : decode cX12_pullAt 13 = .ok (.getfield 93, 3) := by decide +kernel
theorem dX12_pullAt_16 : decode cX12_pullAt 16 = .ok (.sipush 192, 3) := by decide +kernel
theorem dX12_pullAt_19 : decode cX12_pullAt 19 = .ok (.iload_n 1, 1) := by decide +kernel
theorem dX12_pullAt_20 : decode cX12_pullAt 20 = .ok (.imul, 1) := by decide +kernel
theorem dX12_pullAt_21 : decode cX12_pullAt 21 = .ok (.iload_n 2, 1) := by decide +kernel
theorem dX12_pullAt_22 : decode cX12_pullAt 22 = .ok (.iadd, 1) := by decide +kernel
theorem dX12_pullAt_23 : decode cX12_pullAt 23 = .ok (.iaload, 1) := by decide +kernel
theorem dX12_pullAt_24 : decode cX12_pullAt 24 = .ok (.invokevirtual 380, 3) := by decide +kernel
theorem dX12_pullAt_27 : decode cX12_pullAt 27 = .ok (.ifCond .eq 7, 3) := by decide +kernel
theorem dX12_pullAt_30 : decode cX12_pullAt 30 = .ok (.iconst 2, 1) := by decide +kernel
theorem dX12_pullAt_31 : decode cX12_pullAt 31 = .ok (.goto 4, 3) := by decide +kernel
theorem dX12_pullAt_34 : decode cX12_pullAt 34 = .ok (.iconst 1, 1) := by decide +kernel
theorem dX12_pullAt_35 : decode cX12_pullAt 35 = .ok (.imul, 1) := by decide +kernel
theorem dX12_pullAt_36 : decode cX12_pullAt 36 = .ok (.ireturn, 1) := by decide +kernel
theorem dX12_strand_0 : decode cX12_strand 0 = .ok (.aload_n 0, 1) := by decide +kernel
theorem dX12_strand_1 : decode cX12_strand 1 = .ok (.aload_n 0, 1) := by decide +kernel
theorem dX12_strand_2 : decode cX12_strand 2 = .ok (.iload_n 1, 1) := by decide +kernel
theorem dX12_strand_3 : decode cX12_strand 3 = .ok (.iload_n 2, 1) := by decide +kernel
theorem dX12_strand_4 : decode cX12_strand 4 = .ok (.invokevirtual 354, 3) := by decide +kernel
theorem dX12_strand_7 : decode cX12_strand 7 = .ok (.ifCond .eq 16, 3) := by decide +kernel
theorem dX12_strand_10 : decode cX12_strand 10 = .ok (.iload_n 3, 1) := by decide +kernel
theorem dX12_strand_11 : decode cX12_strand 11 = .ok (.ifCond .lt 12, 3) := by decide +kernel
theorem dX12_strand_14 : decode cX12_strand 14 = .ok (.iload_n 3, 1) := by decide +kernel
theorem dX12_strand_15 : decode cX12_strand 15 = .ok (.iconst 5, 1) := by decide +kernel
theorem dX12_strand_16 : decode cX12_strand 16 = .ok (.if_icmp .gt 7, 3) := by decide +kernel
theorem dX12_strand_19 : decode cX12_strand 19 = .ok (.iconst 0, 1) := by decide +kernel
theorem dX12_strand_20 : decode cX12_strand 20 = .ok (.goto 4, 3) := by decide +kernel
theorem dX12_strand_23 : decode cX12_strand 23 = .ok (.iconst 1, 1) := by decide +kernel
theorem dX12_strand_24 : decode cX12_strand 24 = .ok (.putfield 1, 3) := by decide +kernel
theorem dX12_strand_27 : decode cX12_strand 27 = .ok (.aload_n 0, 1) := by decide +kernel
theorem dX12_strand_28 : decode cX12_strand 28 = .ok (.getfield 1, 3) := by decide +kernel
theorem dX12_strand_31 : decode cX12_strand 31 = .ok (.ifCond .le 5, 3) := by decide +kernel
theorem dX12_strand_34 : decode cX12_strand 34 = .ok (.iconst 0, 1) := by decide +kernel
theorem dX12_strand_35 : decode cX12_strand 35 = .ok (.ireturn, 1) := by decide +kernel
theorem dX12_strand_36 : decode cX12_strand 36 = .ok (.aload_n 0, 1) := by decide +kernel
theorem dX12_strand_37 : decode cX12_strand 37 = .ok (.iload_n 1, 1) := by decide +kernel
theorem dX12_strand_38 : decode cX12_strand 38 = .ok (.invokevirtual 383, 3) := by decide +kernel
theorem dX12_strand_41 : decode cX12_strand 41 = .ok (.iload_n 3, 1) := by decide +kernel
theorem dX12_strand_42 : decode cX12_strand 42 = .ok (.iconst 3, 1) := by decide +kernel
theorem dX12_strand_43 : decode cX12_strand 43 = .ok (.if_icmp .ge 16, 3) := by decide +kernel
theorem dX12_strand_46 : decode cX12_strand 46 = .ok (.aload_n 0, 1) := by decide +kernel
theorem dX12_strand_47 : decode cX12_strand 47 = .ok (.getfield 135, 3) := by decide +kernel
theorem dX12_strand_50 : decode cX12_strand 50 = .ok (.iconst 3, 1) := by decide +kernel
theorem dX12_strand_51 : decode cX12_strand 51 = .ok (.iload_n 2, 1) := by decide +kernel
theorem dX12_strand_52 : decode cX12_strand 52 = .ok (.imul, 1) := by decide +kernel
theorem dX12_strand_53 : decode cX12_strand 53 = .ok (.iload_n 3, 1) := by decide +kernel
theorem dX12_strand_54 : decode cX12_strand 54 = .ok (.iadd, 1) := by decide +kernel
theorem dX12_strand_55 : decode cX12_strand 55 = .ok (.iaload, 1) := by decide +kernel
theorem dX12_strand_56 : decode cX12_strand 56 = .ok (.goto 55, 3) := by decide +kernel
theorem dX12_strand_59 : decode cX12_strand 59 = .ok (.iload_n 3, 1) := by decide +kernel
theorem dX12_strand_60 : decode cX12_strand 60 = .ok (.iconst 3, 1) := by decide +kernel
theorem dX12_strand_61 : decode cX12_strand 61 = .ok (.if_icmp .ne 12, 3) := by decide +kernel
theorem dX12_strand_64 : decode cX12_strand 64 = .ok (.aload_n 0, 1) := by decide +kernel
theorem dX12_strand_65 : decode cX12_strand 65 = .ok (.getfield 132, 3) := by decide +kernel
theorem dX12_strand_68 : decode cX12_strand 68 = .ok (.iload_n 2, 1) := by decide +kernel
theorem dX12_strand_69 : decode cX12_strand 69 = .ok (.iaload, 1) := by decide +kernel
theorem dX12_strand_70 : decode cX12_strand 70 = .ok (.goto 41, 3) := by decide +kernel
theorem dX12_strand_73 : decode cX12_strand 73 = .ok (.iload_n 3, 1) := by decide +kernel
theorem dX12_strand_74 : decode cX12_strand 74 = .ok (.iconst 4, 1) := by decide +kernel
theorem dX12_strand_75 : decode cX12_strand 75 = .ok (.if_icmp .ne 12, 3) := by decide +kernel
theorem dX12_strand_78 : decode cX12_strand 78 = .ok (.aload_n 0, 1) := by decide +kernel
theorem dX12_strand_79 : decode cX12_strand 79 = .ok (.iload_n 1, 1) := by decide +kernel
theorem dX12_strand_80 : decode cX12_strand 80 = .ok (.iload_n 2, 1) := by decide +kernel
theorem dX12_strand_81 : decode cX12_strand 81 = .ok (.invokevirtual 386, 3) := by decide +kernel
theorem dX12_strand_84 : decode cX12_strand 84 = .ok (.goto 27, 3) := by decide +kernel
theorem dX12_strand_87 : decode cX12_strand 87 = .ok (.aload_n 0, 1) := by decide +kernel
theorem dX12_strand_88 : decode cX12_strand 88 = .ok (.aload_n 0, 1) := by decide +kernel
theorem dX12_strand_89 : decode cX12_strand 89 = .ok (.getfield 93, 3) := by decide +kernel
theorem dX12_strand_92 : decode cX12_strand 92 = .ok (.sipush 192, 3) := by decide +kernel
theorem dX12_strand_95 : decode cX12_strand 95 = .ok (.iload_n 1, 1) := by decide +kernel
theorem dX12_strand_96 : decode cX12_strand 96 = .ok (.imul, 1) := by decide +kernel
theorem dX12_strand_97 : decode cX12_strand 97 = .ok (.iload_n 2, 1) := by decide +kernel
theorem dX12_strand_98 : decode cX12_strand 98 = .ok (.iadd, 1) := by decide +kernel
theorem dX12_strand_99 : decode cX12_strand 99 = .ok (.iaload, 1) := by decide +kernel
theorem dX12_strand_100 : decode cX12_strand 100 = .ok (.invokevirtual 380, 3) := by decide +kernel
theorem dX12_strand_103 : decode cX12_strand 103 = .ok (.ifCond .eq 7, 3) := by decide +kernel
theorem dX12_strand_106 : decode cX12_strand 106 = .ok (.iconst 1, 1) := by decide +kernel
theorem dX12_strand_107 : decode cX12_strand 107 = .ok (.goto 4, 3) := by decide +kernel
theorem dX12_strand_110 : decode cX12_strand 110 = .ok (.iconst 0, 1) := by decide +kernel
theorem dX12_strand_111 : decode cX12_strand 111 = .ok (.ireturn, 1) := by decide +kernel
theorem dX12_isRow_0 : decode cX12_isRow 0 = .ok (.iload_n 1, 1) := by decide +kernel
theorem dX12_isRow_1 : decode cX12_isRow 1 = .ok (.ifCond .lt 15, 3) := by decide +kernel
theorem dX12_isRow_4 : decode cX12_isRow 4 = .ok (.iload_n 1, 1) := by decide +kernel
theorem dX12_isRow_5 : decode cX12_isRow 5 = .ok (.aload_n 0, 1) := by decide +kernel
theorem dX12_isRow_6 : decode cX12_isRow 6 = .ok (.getfield 256, 3) := by decide +kernel
theorem dX12_isRow_9 : decode cX12_isRow 9 = .ok (.if_icmp .ge 7, 3) := by decide +kernel
theorem dX12_isRow_12 : decode cX12_isRow 12 = .ok (.iconst 1, 1) := by decide +kernel
theorem dX12_isRow_13 : decode cX12_isRow 13 = .ok (.goto 4, 3) := by decide +kernel
theorem dX12_isRow_16 : decode cX12_isRow 16 = .ok (.iconst 0, 1) := by decide +kernel
theorem dX12_isRow_17 : decode cX12_isRow 17 = .ok (.ireturn, 1) := by decide +kernel
theorem dX12_pull_0 : decode cX12_pull 0 = .ok (.aload_n 0, 1) := by decide +kernel
theorem dX12_pull_1 : decode cX12_pull 1 = .ok (.iconst 0, 1) := by decide +kernel
theorem dX12_pull_2 : decode cX12_pull 2 = .ok (.putfield 1, 3) := by decide +kernel
theorem dX12_pull_5 : decode cX12_pull 5 = .ok (.aload_n 0, 1) := by decide +kernel
theorem dX12_pull_6 : decode cX12_pull 6 = .ok (.iload_n 1, 1) := by decide +kernel
theorem dX12_pull_7 : decode cX12_pull 7 = .ok (.invokevirtual 389, 3) := by decide +kernel
theorem dX12_pull_10 : decode cX12_pull 10 = .ok (.ifCond .ne 5, 3) := by decide +kernel
theorem dX12_pull_13 : decode cX12_pull 13 = .ok (.iconst (-1), 1) := by decide +kernel
theorem dX12_pull_14 : decode cX12_pull 14 = .ok (.ireturn, 1) := by decide +kernel
theorem dX12_pull_15 : decode cX12_pull 15 = .ok (.aload_n 0, 1) := by decide +kernel
theorem dX12_pull_16 : decode cX12_pull 16 = .ok (.iload_n 1, 1) := by decide +kernel
theorem dX12_pull_17 : decode cX12_pull 17 = .ok (.invokevirtual 383, 3) := by decide +kernel
theorem dX12_pull_20 : decode cX12_pull 20 = .ok (.iconst 0, 1) := by decide +kernel
theorem dX12_pull_21 : decode cX12_pull 21 = .ok (.istore_n 2, 1) := by decide +kernel
theorem dX12_pull_22 : decode cX12_pull 22 = .ok (.iconst 0, 1) := by decide +kernel
theorem dX12_pull_23 : decode cX12_pull 23 = .ok (.istore_n 3, 1) := by decide +kernel
theorem dX12_pull_24 : decode cX12_pull 24 = .ok (.iload_n 3, 1) := by decide +kernel
theorem dX12_pull_25 : decode cX12_pull 25 = .ok (.aload_n 0, 1) := by decide +kernel
theorem dX12_pull_26 : decode cX12_pull 26 = .ok (.getfield 90, 3) := by decide +kernel
theorem dX12_pull_29 : decode cX12_pull 29 = .ok (.iload_n 1, 1) := by decide +kernel
theorem dX12_pull_30 : decode cX12_pull 30 = .ok (.iaload, 1) := by decide +kernel
theorem dX12_pull_31 : decode cX12_pull 31 = .ok (.if_icmp .ge 30, 3) := by decide +kernel
theorem dX12_pull_34 : decode cX12_pull 34 = .ok (.aload_n 0, 1) := by decide +kernel
theorem dX12_pull_35 : decode cX12_pull 35 = .ok (.iload_n 1, 1) := by decide +kernel
theorem dX12_pull_36 : decode cX12_pull 36 = .ok (.iload_n 3, 1) := by decide +kernel
theorem dX12_pull_37 : decode cX12_pull 37 = .ok (.invokevirtual 386, 3) := by decide +kernel
theorem dX12_pull_40 : decode cX12_pull 40 = .ok (.iload_n 2, 1) := by decide +kernel
theorem dX12_pull_41 : decode cX12_pull 41 = .ok (.if_icmp .le 12, 3) := by decide +kernel
theorem dX12_pull_44 : decode cX12_pull 44 = .ok (.aload_n 0, 1) := by decide +kernel
theorem dX12_pull_45 : decode cX12_pull 45 = .ok (.iload_n 1, 1) := by decide +kernel
theorem dX12_pull_46 : decode cX12_pull 46 = .ok (.iload_n 3, 1) := by decide +kernel
theorem dX12_pull_47 : decode cX12_pull 47 = .ok (.invokevirtual 386, 3) := by decide +kernel
theorem dX12_pull_50 : decode cX12_pull 50 = .ok (.goto 4, 3) := by decide +kernel
theorem dX12_pull_53 : decode cX12_pull 53 = .ok (.iload_n 2, 1) := by decide +kernel
theorem dX12_pull_54 : decode cX12_pull 54 = .ok (.istore_n 2, 1) := by decide +kernel
theorem dX12_pull_55 : decode cX12_pull 55 = .ok (.iinc 3 1, 3) := by decide +kernel
theorem dX12_pull_58 : decode cX12_pull 58 = .ok (.goto (-34), 3) := by decide +kernel
theorem dX12_pull_61 : decode cX12_pull 61 = .ok (.iload_n 2, 1) := by decide +kernel
theorem dX12_pull_62 : decode cX12_pull 62 = .ok (.ireturn, 1) := by decide +kernel
theorem dX12_even_0 : decode cX12_even 0 = .ok (.aload_n 0, 1) := by decide +kernel
theorem dX12_even_1 : decode cX12_even 1 = .ok (.iconst 0, 1) := by decide +kernel
theorem dX12_even_2 : decode cX12_even 2 = .ok (.putfield 1, 3) := by decide +kernel
theorem dX12_even_5 : decode cX12_even 5 = .ok (.aload_n 0, 1) := by decide +kernel
theorem dX12_even_6 : decode cX12_even 6 = .ok (.iload_n 1, 1) := by decide +kernel
theorem dX12_even_7 : decode cX12_even 7 = .ok (.invokevirtual 389, 3) := by decide +kernel
theorem dX12_even_10 : decode cX12_even 10 = .ok (.ifCond .ne 5, 3) := by decide +kernel
theorem dX12_even_13 : decode cX12_even 13 = .ok (.iconst (-1), 1) := by decide +kernel
theorem dX12_even_14 : decode cX12_even 14 = .ok (.ireturn, 1) := by decide +kernel
theorem dX12_even_15 : decode cX12_even 15 = .ok (.aload_n 0, 1) := by decide +kernel
theorem dX12_even_16 : decode cX12_even 16 = .ok (.iload_n 1, 1) := by decide +kernel
theorem dX12_even_17 : decode cX12_even 17 = .ok (.invokevirtual 360, 3) := by decide +kernel
theorem dX12_even_20 : decode cX12_even 20 = .ok (.aload_n 0, 1) := by decide +kernel
theorem dX12_even_21 : decode cX12_even 21 = .ok (.getfield 132, 3) := by decide +kernel
theorem dX12_even_24 : decode cX12_even 24 = .ok (.iconst 0, 1) := by decide +kernel
theorem dX12_even_25 : decode cX12_even 25 = .ok (.iaload, 1) := by decide +kernel
theorem dX12_even_26 : decode cX12_even 26 = .ok (.istore_n 2, 1) := by decide +kernel
theorem dX12_even_27 : decode cX12_even 27 = .ok (.aload_n 0, 1) := by decide +kernel
theorem dX12_even_28 : decode cX12_even 28 = .ok (.getfield 132, 3) := by decide +kernel
theorem dX12_even_31 : decode cX12_even 31 = .ok (.iconst 0, 1) := by decide +kernel
theorem dX12_even_32 : decode cX12_even 32 = .ok (.iaload, 1) := by decide +kernel
theorem dX12_even_33 : decode cX12_even 33 = .ok (.istore_n 3, 1) := by decide +kernel
theorem dX12_even_34 : decode cX12_even 34 = .ok (.iconst 1, 1) := by decide +kernel
theorem dX12_even_35 : decode cX12_even 35 = .ok (.istore 4, 2) := by decide +kernel
theorem dX12_even_37 : decode cX12_even 37 = .ok (.iload 4, 2) := by decide +kernel
theorem dX12_even_39 : decode cX12_even 39 = .ok (.aload_n 0, 1) := by decide +kernel
theorem dX12_even_40 : decode cX12_even 40 = .ok (.getfield 90, 3) := by decide +kernel
theorem dX12_even_43 : decode cX12_even 43 = .ok (.iload_n 1, 1) := by decide +kernel
theorem dX12_even_44 : decode cX12_even 44 = .ok (.iaload, 1) := by decide +kernel
theorem dX12_even_45 : decode cX12_even 45 = .ok (.if_icmp .ge 44, 3) := by decide +kernel
theorem dX12_even_48 : decode cX12_even 48 = .ok (.aload_n 0, 1) := by decide +kernel
theorem dX12_even_49 : decode cX12_even 49 = .ok (.getfield 132, 3) := by decide +kernel
theorem dX12_even_52 : decode cX12_even 52 = .ok (.iload 4, 2) := by decide +kernel
theorem dX12_even_54 : decode cX12_even 54 = .ok (.iaload, 1) := by decide +kernel
theorem dX12_even_55 : decode cX12_even 55 = .ok (.iload_n 2, 1) := by decide +kernel
theorem dX12_even_56 : decode cX12_even 56 = .ok (.if_icmp .le 13, 3) := by decide +kernel
theorem dX12_even_59 : decode cX12_even 59 = .ok (.aload_n 0, 1) := by decide +kernel
theorem dX12_even_60 : decode cX12_even 60 = .ok (.getfield 132, 3) := by decide +kernel
theorem dX12_even_63 : decode cX12_even 63 = .ok (.iload 4, 2) := by decide +kernel
theorem dX12_even_65 : decode cX12_even 65 = .ok (.iaload, 1) := by decide +kernel
theorem dX12_even_66 : decode cX12_even 66 = .ok (.goto 4, 3) := by decide +kernel
theorem dX12_even_69 : decode cX12_even 69 = .ok (.iload_n 2, 1) := by decide +kernel
theorem dX12_even_70 : decode cX12_even 70 = .ok (.istore_n 2, 1) := by decide +kernel
theorem dX12_even_71 : decode cX12_even 71 = .ok (.iload_n 3, 1) := by decide +kernel
theorem dX12_even_72 : decode cX12_even 72 = .ok (.aload_n 0, 1) := by decide +kernel
theorem dX12_even_73 : decode cX12_even 73 = .ok (.getfield 132, 3) := by decide +kernel
theorem dX12_even_76 : decode cX12_even 76 = .ok (.iload 4, 2) := by decide +kernel
theorem dX12_even_78 : decode cX12_even 78 = .ok (.iaload, 1) := by decide +kernel
theorem dX12_even_79 : decode cX12_even 79 = .ok (.invokestatic 289, 3) := by decide +kernel
theorem dX12_even_82 : decode cX12_even 82 = .ok (.istore_n 3, 1) := by decide +kernel
theorem dX12_even_83 : decode cX12_even 83 = .ok (.iinc 4 1, 3) := by decide +kernel
theorem dX12_even_86 : decode cX12_even 86 = .ok (.goto (-49), 3) := by decide +kernel
theorem dX12_even_89 : decode cX12_even 89 = .ok (.iload_n 2, 1) := by decide +kernel
theorem dX12_even_90 : decode cX12_even 90 = .ok (.iload_n 3, 1) := by decide +kernel
theorem dX12_even_91 : decode cX12_even 91 = .ok (.isub, 1) := by decide +kernel
theorem dX12_even_92 : decode cX12_even 92 = .ok (.ireturn, 1) := by decide +kernel
theorem dX12_reach_0 : decode cX12_reach 0 = .ok (.iload_n 1, 1) := by decide +kernel
theorem dX12_reach_1 : decode cX12_reach 1 = .ok (.bipush 10, 2) := by decide +kernel
theorem dX12_reach_3 : decode cX12_reach 3 = .ok (.aload_n 0, 1) := by decide +kernel
theorem dX12_reach_4 : decode cX12_reach 4 = .ok (.getfield 90, 3) := by decide +kernel
theorem dX12_reach_7 : decode cX12_reach 7 = .ok (.iload_n 2, 1) := by decide +kernel
theorem dX12_reach_8 : decode cX12_reach 8 = .ok (.iaload, 1) := by decide +kernel
theorem dX12_reach_9 : decode cX12_reach 9 = .ok (.iconst 1, 1) := by decide +kernel
theorem dX12_reach_10 : decode cX12_reach 10 = .ok (.isub, 1) := by decide +kernel
theorem dX12_reach_11 : decode cX12_reach 11 = .ok (.iload_n 3, 1) := by decide +kernel
theorem dX12_reach_12 : decode cX12_reach 12 = .ok (.isub, 1) := by decide +kernel
theorem dX12_reach_13 : decode cX12_reach 13 = .ok (.imul, 1) := by decide +kernel
theorem dX12_reach_14 : decode cX12_reach 14 = .ok (.isub, 1) := by decide +kernel
theorem dX12_reach_15 : decode cX12_reach 15 = .ok (.istore 4, 2) := by decide +kernel
theorem dX12_reach_17 : decode cX12_reach 17 = .ok (.iload 4, 2) := by decide +kernel
theorem dX12_reach_19 : decode cX12_reach 19 = .ok (.ifCond .ge 7, 3) := by decide +kernel
theorem dX12_reach_22 : decode cX12_reach 22 = .ok (.iconst 0, 1) := by decide +kernel
theorem dX12_reach_23 : decode cX12_reach 23 = .ok (.goto 5, 3) := by decide +kernel
theorem dX12_reach_26 : decode cX12_reach 26 = .ok (.iload 4, 2) := by decide +kernel
theorem dX12_reach_28 : decode cX12_reach 28 = .ok (.ireturn, 1) := by decide +kernel
theorem dX12_reaching_0 : decode cX12_reaching 0 = .ok (.iconst 0, 1) := by decide +kernel
theorem dX12_reaching_1 : decode cX12_reaching 1 = .ok (.istore 4, 2) := by decide +kernel
theorem dX12_reaching_3 : decode cX12_reaching 3 = .ok (.iconst 0, 1) := by decide +kernel
theorem dX12_reaching_4 : decode cX12_reaching 4 = .ok (.istore 5, 2) := by decide +kernel
theorem dX12_reaching_6 : decode cX12_reaching 6 = .ok (.iload 5, 2) := by decide +kernel
theorem dX12_reaching_8 : decode cX12_reaching 8 = .ok (.iconst 3, 1) := by decide +kernel
theorem dX12_reaching_9 : decode cX12_reaching 9 = .ok (.if_icmp .ge 54, 3) := by decide +kernel
theorem dX12_reaching_12 : decode cX12_reaching 12 = .ok (.iload 4, 2) := by decide +kernel
theorem dX12_reaching_14 : decode cX12_reaching 14 = .ok (.iload_n 2, 1) := by decide +kernel
theorem dX12_reaching_15 : decode cX12_reaching 15 = .ok (.ifCond .lt 14, 3) := by decide +kernel
theorem dX12_reaching_18 : decode cX12_reaching 18 = .ok (.aload_n 0, 1) := by decide +kernel
theorem dX12_reaching_19 : decode cX12_reaching 19 = .ok (.getfield 144, 3) := by decide +kernel
theorem dX12_reaching_22 : decode cX12_reaching 22 = .ok (.iload 5, 2) := by decide +kernel
theorem dX12_reaching_24 : decode cX12_reaching 24 = .ok (.iaload, 1) := by decide +kernel
theorem dX12_reaching_25 : decode cX12_reaching 25 = .ok (.iload_n 2, 1) := by decide +kernel
theorem dX12_reaching_26 : decode cX12_reaching 26 = .ok (.if_icmp .ne 27, 3) := by decide +kernel
theorem dX12_reaching_29 : decode cX12_reaching 29 = .ok (.aload_n 0, 1) := by decide +kernel
theorem dX12_reaching_30 : decode cX12_reaching 30 = .ok (.aload_n 0, 1) := by decide +kernel
theorem dX12_reaching_31 : decode cX12_reaching 31 = .ok (.getfield 165, 3) := by decide +kernel
theorem dX12_reaching_34 : decode cX12_reaching 34 = .ok (.iload_n 1, 1) := by decide +kernel
theorem dX12_reaching_35 : decode cX12_reaching 35 = .ok (.iconst 0, 1) := by decide +kernel
theorem dX12_reaching_36 : decode cX12_reaching 36 = .ok (.invokevirtual 392, 3) := by decide +kernel
theorem dX12_reaching_39 : decode cX12_reaching 39 = .ok (.iload_n 3, 1) := by decide +kernel
theorem dX12_reaching_40 : decode cX12_reaching 40 = .ok (.if_icmp .lt 13, 3) := by decide +kernel
theorem dX12_reaching_43 : decode cX12_reaching 43 = .ok (.aload_n 0, 1) := by decide +kernel
theorem dX12_reaching_44 : decode cX12_reaching 44 = .ok (.getfield 141, 3) := by decide +kernel
theorem dX12_reaching_47 : decode cX12_reaching 47 = .ok (.iload 5, 2) := by decide +kernel
theorem dX12_reaching_49 : decode cX12_reaching 49 = .ok (.iaload, 1) := by decide +kernel
theorem dX12_reaching_50 : decode cX12_reaching 50 = .ok (.goto 4, 3) := by decide +kernel
theorem dX12_reaching_53 : decode cX12_reaching 53 = .ok (.iconst 0, 1) := by decide +kernel
theorem dX12_reaching_54 : decode cX12_reaching 54 = .ok (.iadd, 1) := by decide +kernel
theorem dX12_reaching_55 : decode cX12_reaching 55 = .ok (.istore 4, 2) := by decide +kernel
theorem dX12_reaching_57 : decode cX12_reaching 57 = .ok (.iinc 5 1, 3) := by decide +kernel
theorem dX12_reaching_60 : decode cX12_reaching 60 = .ok (.goto (-54), 3) := by decide +kernel
theorem dX12_reaching_63 : decode cX12_reaching 63 = .ok (.iconst 1, 1) := by decide +kernel
theorem dX12_reaching_64 : decode cX12_reaching 64 = .ok (.istore 5, 2) := by decide +kernel
theorem dX12_reaching_66 : decode cX12_reaching 66 = .ok (.iload 5, 2) := by decide +kernel
theorem dX12_reaching_68 : decode cX12_reaching 68 = .ok (.aload_n 0, 1) := by decide +kernel
theorem dX12_reaching_69 : decode cX12_reaching 69 = .ok (.getfield 90, 3) := by decide +kernel
theorem dX12_reaching_72 : decode cX12_reaching 72 = .ok (.iload_n 1, 1) := by decide +kernel
theorem dX12_reaching_73 : decode cX12_reaching 73 = .ok (.iaload, 1) := by decide +kernel
theorem dX12_reaching_74 : decode cX12_reaching 74 = .ok (.if_icmp .ge 55, 3) := by decide +kernel
theorem dX12_reaching_77 : decode cX12_reaching 77 = .ok (.iload 4, 2) := by decide +kernel
theorem dX12_reaching_79 : decode cX12_reaching 79 = .ok (.iload_n 2, 1) := by decide +kernel
theorem dX12_reaching_80 : decode cX12_reaching 80 = .ok (.ifCond .lt 14, 3) := by decide +kernel
theorem dX12_reaching_83 : decode cX12_reaching 83 = .ok (.aload_n 0, 1) := by decide +kernel
theorem dX12_reaching_84 : decode cX12_reaching 84 = .ok (.getfield 138, 3) := by decide +kernel
theorem dX12_reaching_87 : decode cX12_reaching 87 = .ok (.iload 5, 2) := by decide +kernel
theorem dX12_reaching_89 : decode cX12_reaching 89 = .ok (.iaload, 1) := by decide +kernel
theorem dX12_reaching_90 : decode cX12_reaching 90 = .ok (.iload_n 2, 1) := by decide +kernel
theorem dX12_reaching_91 : decode cX12_reaching 91 = .ok (.if_icmp .ne 28, 3) := by decide +kernel
theorem dX12_reaching_94 : decode cX12_reaching 94 = .ok (.aload_n 0, 1) := by decide +kernel
theorem dX12_reaching_95 : decode cX12_reaching 95 = .ok (.aload_n 0, 1) := by decide +kernel
theorem dX12_reaching_96 : decode cX12_reaching 96 = .ok (.getfield 165, 3) := by decide +kernel
theorem dX12_reaching_99 : decode cX12_reaching 99 = .ok (.iload_n 1, 1) := by decide +kernel
theorem dX12_reaching_100 : decode cX12_reaching 100 = .ok (.iload 5, 2) := by decide +kernel
theorem dX12_reaching_102 : decode cX12_reaching 102 = .ok (.invokevirtual 392, 3) := by decide +kernel
theorem dX12_reaching_105 : decode cX12_reaching 105 = .ok (.iload_n 3, 1) := by decide +kernel
theorem dX12_reaching_106 : decode cX12_reaching 106 = .ok (.if_icmp .lt 13, 3) := by decide +kernel
theorem dX12_reaching_109 : decode cX12_reaching 109 = .ok (.aload_n 0, 1) := by decide +kernel
theorem dX12_reaching_110 : decode cX12_reaching 110 = .ok (.getfield 132, 3) := by decide +kernel
theorem dX12_reaching_113 : decode cX12_reaching 113 = .ok (.iload 5, 2) := by decide +kernel
theorem dX12_reaching_115 : decode cX12_reaching 115 = .ok (.iaload, 1) := by decide +kernel
theorem dX12_reaching_116 : decode cX12_reaching 116 = .ok (.goto 4, 3) := by decide +kernel
theorem dX12_reaching_119 : decode cX12_reaching 119 = .ok (.iconst 0, 1) := by decide +kernel
theorem dX12_reaching_120 : decode cX12_reaching 120 = .ok (.iadd, 1) := by decide +kernel
theorem dX12_reaching_121 : decode cX12_reaching 121 = .ok (.istore 4, 2) := by decide +kernel
theorem dX12_reaching_123 : decode cX12_reaching 123 = .ok (.iinc 5 1, 3) := by decide +kernel
theorem dX12_reaching_126 : decode cX12_reaching 126 = .ok (.goto (-60), 3) := by decide +kernel
theorem dX12_reaching_129 : decode cX12_reaching 129 = .ok (.iconst 0, 1) := by decide +kernel
theorem dX12_reaching_130 : decode cX12_reaching 130 = .ok (.istore 5, 2) := by decide +kernel
theorem dX12_reaching_132 : decode cX12_reaching 132 = .ok (.iload 5, 2) := by decide +kernel
theorem dX12_reaching_134 : decode cX12_reaching 134 = .ok (.aload_n 0, 1) := by decide +kernel
theorem dX12_reaching_135 : decode cX12_reaching 135 = .ok (.getfield 357, 3) := by decide +kernel
theorem dX12_reaching_138 : decode cX12_reaching 138 = .ok (.if_icmp .ge 74, 3) := by decide +kernel
theorem dX12_reaching_141 : decode cX12_reaching 141 = .ok (.iload 4, 2) := by decide +kernel
theorem dX12_reaching_143 : decode cX12_reaching 143 = .ok (.aload_n 0, 1) := by decide +kernel
theorem dX12_reaching_144 : decode cX12_reaching 144 = .ok (.getfield 120, 3) := by decide +kernel
theorem dX12_reaching_147 : decode cX12_reaching 147 = .ok (.iload 5, 2) := by decide +kernel
theorem dX12_reaching_149 : decode cX12_reaching 149 = .ok (.iaload, 1) := by decide +kernel
theorem dX12_reaching_150 : decode cX12_reaching 150 = .ok (.iload_n 1, 1) := by decide +kernel
theorem dX12_reaching_151 : decode cX12_reaching 151 = .ok (.if_icmp .ne 51, 3) := by decide +kernel
theorem dX12_reaching_154 : decode cX12_reaching 154 = .ok (.iload_n 2, 1) := by decide +kernel
theorem dX12_reaching_155 : decode cX12_reaching 155 = .ok (.ifCond .lt 14, 3) := by decide +kernel
theorem dX12_reaching_158 : decode cX12_reaching 158 = .ok (.aload_n 0, 1) := by decide +kernel
theorem dX12_reaching_159 : decode cX12_reaching 159 = .ok (.getfield 147, 3) := by decide +kernel
theorem dX12_reaching_162 : decode cX12_reaching 162 = .ok (.iload 5, 2) := by decide +kernel
theorem dX12_reaching_164 : decode cX12_reaching 164 = .ok (.iaload, 1) := by decide +kernel
theorem dX12_reaching_165 : decode cX12_reaching 165 = .ok (.iload_n 2, 1) := by decide +kernel
theorem dX12_reaching_166 : decode cX12_reaching 166 = .ok (.if_icmp .ne 36, 3) := by decide +kernel
theorem dX12_reaching_169 : decode cX12_reaching 169 = .ok (.aload_n 0, 1) := by decide +kernel
theorem dX12_reaching_170 : decode cX12_reaching 170 = .ok (.aload_n 0, 1) := by decide +kernel
theorem dX12_reaching_171 : decode cX12_reaching 171 = .ok (.getfield 129, 3) := by decide +kernel
theorem dX12_reaching_174 : decode cX12_reaching 174 = .ok (.iload 5, 2) := by decide +kernel
theorem dX12_reaching_176 : decode cX12_reaching 176 = .ok (.iaload, 1) := by decide +kernel
theorem dX12_reaching_177 : decode cX12_reaching 177 = .ok (.iload_n 1, 1) := by decide +kernel
theorem dX12_reaching_178 : decode cX12_reaching 178 = .ok (.aload_n 0, 1) := by decide +kernel
theorem dX12_reaching_179 : decode cX12_reaching 179 = .ok (.getfield 123, 3) := by decide +kernel
theorem dX12_reaching_182 : decode cX12_reaching 182 = .ok (.iload 5, 2) := by decide +kernel
theorem dX12_reaching_184 : decode cX12_reaching 184 = .ok (.iaload, 1) := by decide +kernel
theorem dX12_reaching_185 : decode cX12_reaching 185 = .ok (.invokevirtual 392, 3) := by decide +kernel
theorem dX12_reaching_188 : decode cX12_reaching 188 = .ok (.iload_n 3, 1) := by decide +kernel
theorem dX12_reaching_189 : decode cX12_reaching 189 = .ok (.if_icmp .lt 13, 3) := by decide +kernel
theorem dX12_reaching_192 : decode cX12_reaching 192 = .ok (.aload_n 0, 1) := by decide +kernel
theorem dX12_reaching_193 : decode cX12_reaching 193 = .ok (.getfield 126, 3) := by decide +kernel
theorem dX12_reaching_196 : decode cX12_reaching 196 = .ok (.iload 5, 2) := by decide +kernel
theorem dX12_reaching_198 : decode cX12_reaching 198 = .ok (.iaload, 1) := by decide +kernel
theorem dX12_reaching_199 : decode cX12_reaching 199 = .ok (.goto 4, 3) := by decide +kernel
theorem dX12_reaching_202 : decode cX12_reaching 202 = .ok (.iconst 0, 1) := by decide +kernel
theorem dX12_reaching_203 : decode cX12_reaching 203 = .ok (.iadd, 1) := by decide +kernel
theorem dX12_reaching_204 : decode cX12_reaching 204 = .ok (.istore 4, 2) := by decide +kernel
theorem dX12_reaching_206 : decode cX12_reaching 206 = .ok (.iinc 5 1, 3) := by decide +kernel
theorem dX12_reaching_209 : decode cX12_reaching 209 = .ok (.goto (-77), 3) := by decide +kernel
theorem dX12_reaching_212 : decode cX12_reaching 212 = .ok (.iload 4, 2) := by decide +kernel
theorem dX12_reaching_214 : decode cX12_reaching 214 = .ok (.ireturn, 1) := by decide +kernel
theorem dX12_greatest_0 : decode cX12_greatest 0 = .ok (.iconst 0, 1) := by decide +kernel
theorem dX12_greatest_1 : decode cX12_greatest 1 = .ok (.istore 4, 2) := by decide +kernel
theorem dX12_greatest_3 : decode cX12_greatest 3 = .ok (.aload_n 0, 1) := by decide +kernel
theorem dX12_greatest_4 : decode cX12_greatest 4 = .ok (.iload_n 1, 1) := by decide +kernel
theorem dX12_greatest_5 : decode cX12_greatest 5 = .ok (.iload_n 2, 1) := by decide +kernel
theorem dX12_greatest_6 : decode cX12_greatest 6 = .ok (.iconst 0, 1) := by decide +kernel
theorem dX12_greatest_7 : decode cX12_greatest 7 = .ok (.invokevirtual 395, 3) := by decide +kernel
theorem dX12_greatest_10 : decode cX12_greatest 10 = .ok (.iload_n 3, 1) := by decide +kernel
theorem dX12_greatest_11 : decode cX12_greatest 11 = .ok (.if_icmp .lt 48, 3) := by decide +kernel
theorem dX12_greatest_14 : decode cX12_greatest 14 = .ok (.sipush 1024, 3) := by decide +kernel
theorem dX12_greatest_17 : decode cX12_greatest 17 = .ok (.istore 5, 2) := by decide +kernel
theorem dX12_greatest_19 : decode cX12_greatest 19 = .ok (.iload 5, 2) := by decide +kernel
theorem dX12_greatest_21 : decode cX12_greatest 21 = .ok (.ifCond .le 38, 3) := by decide +kernel
theorem dX12_greatest_24 : decode cX12_greatest 24 = .ok (.iload 4, 2) := by decide +kernel
theorem dX12_greatest_26 : decode cX12_greatest 26 = .ok (.aload_n 0, 1) := by decide +kernel
theorem dX12_greatest_27 : decode cX12_greatest 27 = .ok (.iload_n 1, 1) := by decide +kernel
theorem dX12_greatest_28 : decode cX12_greatest 28 = .ok (.iload_n 2, 1) := by decide +kernel
theorem dX12_greatest_29 : decode cX12_greatest 29 = .ok (.iload 4, 2) := by decide +kernel
theorem dX12_greatest_31 : decode cX12_greatest 31 = .ok (.iload 5, 2) := by decide +kernel
theorem dX12_greatest_33 : decode cX12_greatest 33 = .ok (.iadd, 1) := by decide +kernel
theorem dX12_greatest_34 : decode cX12_greatest 34 = .ok (.invokevirtual 395, 3) := by decide +kernel
theorem dX12_greatest_37 : decode cX12_greatest 37 = .ok (.iload_n 3, 1) := by decide +kernel
theorem dX12_greatest_38 : decode cX12_greatest 38 = .ok (.if_icmp .lt 8, 3) := by decide +kernel
theorem dX12_greatest_41 : decode cX12_greatest 41 = .ok (.iload 5, 2) := by decide +kernel
theorem dX12_greatest_43 : decode cX12_greatest 43 = .ok (.goto 4, 3) := by decide +kernel
theorem dX12_greatest_46 : decode cX12_greatest 46 = .ok (.iconst 0, 1) := by decide +kernel
theorem dX12_greatest_47 : decode cX12_greatest 47 = .ok (.iadd, 1) := by decide +kernel
theorem dX12_greatest_48 : decode cX12_greatest 48 = .ok (.istore 4, 2) := by decide +kernel
theorem dX12_greatest_50 : decode cX12_greatest 50 = .ok (.iload 5, 2) := by decide +kernel
theorem dX12_greatest_52 : decode cX12_greatest 52 = .ok (.iconst 2, 1) := by decide +kernel
theorem dX12_greatest_53 : decode cX12_greatest 53 = .ok (.idiv, 1) := by decide +kernel
theorem dX12_greatest_54 : decode cX12_greatest 54 = .ok (.istore 5, 2) := by decide +kernel
theorem dX12_greatest_56 : decode cX12_greatest 56 = .ok (.goto (-37), 3) := by decide +kernel
theorem dX12_greatest_59 : decode cX12_greatest 59 = .ok (.iload 4, 2) := by decide +kernel
theorem dX12_greatest_61 : decode cX12_greatest 61 = .ok (.ireturn, 1) := by decide +kernel
theorem dX12_hangsAlone_0 : decode cX12_hangsAlone 0 = .ok (.aload_n 0, 1) := by decide +kernel
theorem dX12_hangsAlone_1 : decode cX12_hangsAlone 1 = .ok (.iload_n 1, 1) := by decide +kernel
theorem dX12_hangsAlone_2 : decode cX12_hangsAlone 2 = .ok (.invokevirtual 383, 3) := by decide +kernel
theorem dX12_hangsAlone_5 : decode cX12_hangsAlone 5 = .ok (.aload_n 0, 1) := by decide +kernel
theorem dX12_hangsAlone_6 : decode cX12_hangsAlone 6 = .ok (.iload_n 1, 1) := by decide +kernel
theorem dX12_hangsAlone_7 : decode cX12_hangsAlone 7 = .ok (.iconst 0, 1) := by decide +kernel
theorem dX12_hangsAlone_8 : decode cX12_hangsAlone 8 = .ok (.iconst 3, 1) := by decide +kernel
theorem dX12_hangsAlone_9 : decode cX12_hangsAlone 9 = .ok (.invokevirtual 398, 3) := by decide +kernel
theorem dX12_hangsAlone_12 : decode cX12_hangsAlone 12 = .ok (.istore_n 2, 1) := by decide +kernel
theorem dX12_hangsAlone_13 : decode cX12_hangsAlone 13 = .ok (.iconst 1, 1) := by decide +kernel
theorem dX12_hangsAlone_14 : decode cX12_hangsAlone 14 = .ok (.istore_n 3, 1) := by decide +kernel
theorem dX12_hangsAlone_15 : decode cX12_hangsAlone 15 = .ok (.iload_n 3, 1) := by decide +kernel
theorem dX12_hangsAlone_16 : decode cX12_hangsAlone 16 = .ok (.iconst 3, 1) := by decide +kernel
theorem dX12_hangsAlone_17 : decode cX12_hangsAlone 17 = .ok (.if_icmp .ge 21, 3) := by decide +kernel
theorem dX12_hangsAlone_20 : decode cX12_hangsAlone 20 = .ok (.iload_n 2, 1) := by decide +kernel
theorem dX12_hangsAlone_21 : decode cX12_hangsAlone 21 = .ok (.aload_n 0, 1) := by decide +kernel
theorem dX12_hangsAlone_22 : decode cX12_hangsAlone 22 = .ok (.iload_n 1, 1) := by decide +kernel
theorem dX12_hangsAlone_23 : decode cX12_hangsAlone 23 = .ok (.iload_n 3, 1) := by decide +kernel
theorem dX12_hangsAlone_24 : decode cX12_hangsAlone 24 = .ok (.iconst 3, 1) := by decide +kernel
theorem dX12_hangsAlone_25 : decode cX12_hangsAlone 25 = .ok (.invokevirtual 398, 3) := by decide +kernel
theorem dX12_hangsAlone_28 : decode cX12_hangsAlone 28 = .ok (.invokestatic 289, 3) := by decide +kernel
theorem dX12_hangsAlone_31 : decode cX12_hangsAlone 31 = .ok (.istore_n 2, 1) := by decide +kernel
theorem dX12_hangsAlone_32 : decode cX12_hangsAlone 32 = .ok (.iinc 3 1, 3) := by decide +kernel
theorem dX12_hangsAlone_35 : decode cX12_hangsAlone 35 = .ok (.goto (-20), 3) := by decide +kernel
theorem dX12_hangsAlone_38 : decode cX12_hangsAlone 38 = .ok (.iload_n 2, 1) := by decide +kernel
theorem dX12_hangsAlone_39 : decode cX12_hangsAlone 39 = .ok (.ireturn, 1) := by decide +kernel
theorem dX12_hangs_0 : decode cX12_hangs 0 = .ok (.aload_n 0, 1) := by decide +kernel
theorem dX12_hangs_1 : decode cX12_hangs 1 = .ok (.iconst 0, 1) := by decide +kernel
theorem dX12_hangs_2 : decode cX12_hangs 2 = .ok (.putfield 1, 3) := by decide +kernel
theorem dX12_hangs_5 : decode cX12_hangs 5 = .ok (.aload_n 0, 1) := by decide +kernel
theorem dX12_hangs_6 : decode cX12_hangs 6 = .ok (.iload_n 1, 1) := by decide +kernel
theorem dX12_hangs_7 : decode cX12_hangs 7 = .ok (.invokevirtual 389, 3) := by decide +kernel
theorem dX12_hangs_10 : decode cX12_hangs 10 = .ok (.ifCond .ne 5, 3) := by decide +kernel
theorem dX12_hangs_13 : decode cX12_hangs 13 = .ok (.iconst (-1), 1) := by decide +kernel
theorem dX12_hangs_14 : decode cX12_hangs 14 = .ok (.ireturn, 1) := by decide +kernel
theorem dX12_hangs_15 : decode cX12_hangs 15 = .ok (.aload_n 0, 1) := by decide +kernel
theorem dX12_hangs_16 : decode cX12_hangs 16 = .ok (.getfield 99, 3) := by decide +kernel
theorem dX12_hangs_19 : decode cX12_hangs 19 = .ok (.iload_n 1, 1) := by decide +kernel
theorem dX12_hangs_20 : decode cX12_hangs 20 = .ok (.iaload, 1) := by decide +kernel
theorem dX12_hangs_21 : decode cX12_hangs 21 = .ok (.ifCond .ge 9, 3) := by decide +kernel
theorem dX12_hangs_24 : decode cX12_hangs 24 = .ok (.aload_n 0, 1) := by decide +kernel
theorem dX12_hangs_25 : decode cX12_hangs 25 = .ok (.iload_n 1, 1) := by decide +kernel
theorem dX12_hangs_26 : decode cX12_hangs 26 = .ok (.invokevirtual 401, 3) := by decide +kernel
theorem dX12_hangs_29 : decode cX12_hangs 29 = .ok (.ireturn, 1) := by decide +kernel
theorem dX12_hangs_30 : decode cX12_hangs 30 = .ok (.sipush 2000, 3) := by decide +kernel
theorem dX12_hangs_33 : decode cX12_hangs 33 = .ok (.istore_n 2, 1) := by decide +kernel
theorem dX12_hangs_34 : decode cX12_hangs 34 = .ok (.iconst 0, 1) := by decide +kernel
theorem dX12_hangs_35 : decode cX12_hangs 35 = .ok (.istore_n 3, 1) := by decide +kernel
theorem dX12_hangs_36 : decode cX12_hangs 36 = .ok (.iload_n 3, 1) := by decide +kernel
theorem dX12_hangs_37 : decode cX12_hangs 37 = .ok (.aload_n 0, 1) := by decide +kernel
theorem dX12_hangs_38 : decode cX12_hangs 38 = .ok (.getfield 256, 3) := by decide +kernel
theorem dX12_hangs_41 : decode cX12_hangs 41 = .ok (.if_icmp .ge 42, 3) := by decide +kernel
theorem dX12_hangs_44 : decode cX12_hangs 44 = .ok (.aload_n 0, 1) := by decide +kernel
theorem dX12_hangs_45 : decode cX12_hangs 45 = .ok (.getfield 99, 3) := by decide +kernel
theorem dX12_hangs_48 : decode cX12_hangs 48 = .ok (.iload_n 3, 1) := by decide +kernel
theorem dX12_hangs_49 : decode cX12_hangs 49 = .ok (.iaload, 1) := by decide +kernel
theorem dX12_hangs_50 : decode cX12_hangs 50 = .ok (.aload_n 0, 1) := by decide +kernel
theorem dX12_hangs_51 : decode cX12_hangs 51 = .ok (.getfield 99, 3) := by decide +kernel
theorem dX12_hangs_54 : decode cX12_hangs 54 = .ok (.iload_n 1, 1) := by decide +kernel
theorem dX12_hangs_55 : decode cX12_hangs 55 = .ok (.iaload, 1) := by decide +kernel
theorem dX12_hangs_56 : decode cX12_hangs 56 = .ok (.if_icmp .ne 21, 3) := by decide +kernel
theorem dX12_hangs_59 : decode cX12_hangs 59 = .ok (.aload_n 0, 1) := by decide +kernel
theorem dX12_hangs_60 : decode cX12_hangs 60 = .ok (.iload_n 3, 1) := by decide +kernel
theorem dX12_hangs_61 : decode cX12_hangs 61 = .ok (.invokevirtual 383, 3) := by decide +kernel
theorem dX12_hangs_64 : decode cX12_hangs 64 = .ok (.iload_n 2, 1) := by decide +kernel
theorem dX12_hangs_65 : decode cX12_hangs 65 = .ok (.aload_n 0, 1) := by decide +kernel
theorem dX12_hangs_66 : decode cX12_hangs 66 = .ok (.iload_n 3, 1) := by decide +kernel
theorem dX12_hangs_67 : decode cX12_hangs 67 = .ok (.iconst (-1), 1) := by decide +kernel
theorem dX12_hangs_68 : decode cX12_hangs 68 = .ok (.bipush 9, 2) := by decide +kernel
theorem dX12_hangs_70 : decode cX12_hangs 70 = .ok (.invokevirtual 398, 3) := by decide +kernel
theorem dX12_hangs_73 : decode cX12_hangs 73 = .ok (.invokestatic 289, 3) := by decide +kernel
theorem dX12_hangs_76 : decode cX12_hangs 76 = .ok (.istore_n 2, 1) := by decide +kernel
theorem dX12_hangs_77 : decode cX12_hangs 77 = .ok (.iinc 3 1, 3) := by decide +kernel
theorem dX12_hangs_80 : decode cX12_hangs 80 = .ok (.goto (-44), 3) := by decide +kernel
theorem dX12_hangs_83 : decode cX12_hangs 83 = .ok (.iload_n 2, 1) := by decide +kernel
theorem dX12_hangs_84 : decode cX12_hangs 84 = .ok (.ireturn, 1) := by decide +kernel
theorem dX12_areNear_0 : decode cX12_areNear 0 = .ok (.aload_n 0, 1) := by decide +kernel
theorem dX12_areNear_1 : decode cX12_areNear 1 = .ok (.getfield 93, 3) := by decide +kernel
theorem dX12_areNear_4 : decode cX12_areNear 4 = .ok (.sipush 192, 3) := by decide +kernel
theorem dX12_areNear_7 : decode cX12_areNear 7 = .ok (.iload_n 1, 1) := by decide +kernel
theorem dX12_areNear_8 : decode cX12_areNear 8 = .ok (.imul, 1) := by decide +kernel
theorem dX12_areNear_9 : decode cX12_areNear 9 = .ok (.aload_n 0, 1) := by decide +kernel
theorem dX12_areNear_10 : decode cX12_areNear 10 = .ok (.getfield 90, 3) := by decide +kernel
theorem dX12_areNear_13 : decode cX12_areNear 13 = .ok (.iload_n 1, 1) := by decide +kernel
theorem dX12_areNear_14 : decode cX12_areNear 14 = .ok (.iaload, 1) := by decide +kernel
theorem dX12_areNear_15 : decode cX12_areNear 15 = .ok (.iadd, 1) := by decide +kernel
theorem dX12_areNear_16 : decode cX12_areNear 16 = .ok (.iconst 1, 1) := by decide +kernel
theorem dX12_areNear_17 : decode cX12_areNear 17 = .ok (.isub, 1) := by decide +kernel
theorem dX12_areNear_18 : decode cX12_areNear 18 = .ok (.iaload, 1) := by decide +kernel
theorem dX12_areNear_19 : decode cX12_areNear 19 = .ok (.istore_n 3, 1) := by decide +kernel
theorem dX12_areNear_20 : decode cX12_areNear 20 = .ok (.aload_n 0, 1) := by decide +kernel
theorem dX12_areNear_21 : decode cX12_areNear 21 = .ok (.getfield 93, 3) := by decide +kernel
theorem dX12_areNear_24 : decode cX12_areNear 24 = .ok (.sipush 192, 3) := by decide +kernel
theorem dX12_areNear_27 : decode cX12_areNear 27 = .ok (.iload_n 2, 1) := by decide +kernel
theorem dX12_areNear_28 : decode cX12_areNear 28 = .ok (.imul, 1) := by decide +kernel
theorem dX12_areNear_29 : decode cX12_areNear 29 = .ok (.aload_n 0, 1) := by decide +kernel
theorem dX12_areNear_30 : decode cX12_areNear 30 = .ok (.getfield 90, 3) := by decide +kernel
theorem dX12_areNear_33 : decode cX12_areNear 33 = .ok (.iload_n 2, 1) := by decide +kernel
theorem dX12_areNear_34 : decode cX12_areNear 34 = .ok (.iaload, 1) := by decide +kernel
theorem dX12_areNear_35 : decode cX12_areNear 35 = .ok (.iadd, 1) := by decide +kernel
theorem dX12_areNear_36 : decode cX12_areNear 36 = .ok (.iconst 1, 1) := by decide +kernel
theorem dX12_areNear_37 : decode cX12_areNear 37 = .ok (.isub, 1) := by decide +kernel
theorem dX12_areNear_38 : decode cX12_areNear 38 = .ok (.iaload, 1) := by decide +kernel
theorem dX12_areNear_39 : decode cX12_areNear 39 = .ok (.istore 4, 2) := by decide +kernel
theorem dX12_areNear_41 : decode cX12_areNear 41 = .ok (.iload_n 3, 1) := by decide +kernel
theorem dX12_areNear_42 : decode cX12_areNear 42 = .ok (.bipush 16, 2) := by decide +kernel
theorem dX12_areNear_44 : decode cX12_areNear 44 = .ok (.irem, 1) := by decide +kernel
theorem dX12_areNear_45 : decode cX12_areNear 45 = .ok (.iload 4, 2) := by decide +kernel
theorem dX12_areNear_47 : decode cX12_areNear 47 = .ok (.bipush 16, 2) := by decide +kernel
theorem dX12_areNear_49 : decode cX12_areNear 49 = .ok (.irem, 1) := by decide +kernel
theorem dX12_areNear_50 : decode cX12_areNear 50 = .ok (.isub, 1) := by decide +kernel
theorem dX12_areNear_51 : decode cX12_areNear 51 = .ok (.istore 5, 2) := by decide +kernel
theorem dX12_areNear_53 : decode cX12_areNear 53 = .ok (.iload_n 3, 1) := by decide +kernel
theorem dX12_areNear_54 : decode cX12_areNear 54 = .ok (.bipush 16, 2) := by decide +kernel
theorem dX12_areNear_56 : decode cX12_areNear 56 = .ok (.idiv, 1) := by decide +kernel
theorem dX12_areNear_57 : decode cX12_areNear 57 = .ok (.iload 4, 2) := by decide +kernel
theorem dX12_areNear_59 : decode cX12_areNear 59 = .ok (.bipush 16, 2) := by decide +kernel
theorem dX12_areNear_61 : decode cX12_areNear 61 = .ok (.idiv, 1) := by decide +kernel
theorem dX12_areNear_62 : decode cX12_areNear 62 = .ok (.isub, 1) := by decide +kernel
theorem dX12_areNear_63 : decode cX12_areNear 63 = .ok (.istore 6, 2) := by decide +kernel
theorem dX12_areNear_65 : decode cX12_areNear 65 = .ok (.iload 5, 2) := by decide +kernel
theorem dX12_areNear_67 : decode cX12_areNear 67 = .ok (.iconst 2, 1) := by decide +kernel
theorem dX12_areNear_68 : decode cX12_areNear 68 = .ok (.if_icmp .gt 27, 3) := by decide +kernel
theorem dX12_areNear_71 : decode cX12_areNear 71 = .ok (.iload 5, 2) := by decide +kernel
theorem dX12_areNear_73 : decode cX12_areNear 73 = .ok (.bipush (-2), 2) := by decide +kernel
theorem dX12_areNear_75 : decode cX12_areNear 75 = .ok (.if_icmp .lt 20, 3) := by decide +kernel
theorem dX12_areNear_78 : decode cX12_areNear 78 = .ok (.iload 6, 2) := by decide +kernel
theorem dX12_areNear_80 : decode cX12_areNear 80 = .ok (.iconst 2, 1) := by decide +kernel
theorem dX12_areNear_81 : decode cX12_areNear 81 = .ok (.if_icmp .gt 14, 3) := by decide +kernel
theorem dX12_areNear_84 : decode cX12_areNear 84 = .ok (.iload 6, 2) := by decide +kernel
theorem dX12_areNear_86 : decode cX12_areNear 86 = .ok (.bipush (-2), 2) := by decide +kernel
theorem dX12_areNear_88 : decode cX12_areNear 88 = .ok (.if_icmp .lt 7, 3) := by decide +kernel
theorem dX12_areNear_91 : decode cX12_areNear 91 = .ok (.iconst 1, 1) := by decide +kernel
theorem dX12_areNear_92 : decode cX12_areNear 92 = .ok (.goto 4, 3) := by decide +kernel
theorem dX12_areNear_95 : decode cX12_areNear 95 = .ok (.iconst 0, 1) := by decide +kernel
theorem dX12_areNear_96 : decode cX12_areNear 96 = .ok (.ireturn, 1) := by decide +kernel
theorem dX12_join_0 : decode cX12_join 0 = .ok (.aload_n 0, 1) := by decide +kernel
theorem dX12_join_1 : decode cX12_join 1 = .ok (.iconst 0, 1) := by decide +kernel
theorem dX12_join_2 : decode cX12_join 2 = .ok (.putfield 1, 3) := by decide +kernel
theorem dX12_join_5 : decode cX12_join 5 = .ok (.aload_n 0, 1) := by decide +kernel
theorem dX12_join_6 : decode cX12_join 6 = .ok (.iload_n 1, 1) := by decide +kernel
theorem dX12_join_7 : decode cX12_join 7 = .ok (.invokevirtual 389, 3) := by decide +kernel
theorem dX12_join_10 : decode cX12_join 10 = .ok (.ifCond .eq 88, 3) := by decide +kernel
theorem dX12_join_13 : decode cX12_join 13 = .ok (.aload_n 0, 1) := by decide +kernel
theorem dX12_join_14 : decode cX12_join 14 = .ok (.iload_n 2, 1) := by decide +kernel
theorem dX12_join_15 : decode cX12_join 15 = .ok (.invokevirtual 389, 3) := by decide +kernel
theorem dX12_join_18 : decode cX12_join 18 = .ok (.ifCond .eq 80, 3) := by decide +kernel
theorem dX12_join_21 : decode cX12_join 21 = .ok (.aload_n 0, 1) := by decide +kernel
theorem dX12_join_22 : decode cX12_join 22 = .ok (.iload_n 3, 1) := by decide +kernel
theorem dX12_join_23 : decode cX12_join 23 = .ok (.invokevirtual 389, 3) := by decide +kernel
theorem dX12_join_26 : decode cX12_join 26 = .ok (.ifCond .eq 72, 3) := by decide +kernel
theorem dX12_join_29 : decode cX12_join 29 = .ok (.iload_n 1, 1) := by decide +kernel
theorem dX12_join_30 : decode cX12_join 30 = .ok (.iload_n 2, 1) := by decide +kernel
theorem dX12_join_31 : decode cX12_join 31 = .ok (.if_icmp .eq 67, 3) := by decide +kernel
theorem dX12_join_34 : decode cX12_join 34 = .ok (.iload_n 1, 1) := by decide +kernel
theorem dX12_join_35 : decode cX12_join 35 = .ok (.iload_n 3, 1) := by decide +kernel
theorem dX12_join_36 : decode cX12_join 36 = .ok (.if_icmp .eq 62, 3) := by decide +kernel
theorem dX12_join_39 : decode cX12_join 39 = .ok (.iload_n 2, 1) := by decide +kernel
theorem dX12_join_40 : decode cX12_join 40 = .ok (.iload_n 3, 1) := by decide +kernel
theorem dX12_join_41 : decode cX12_join 41 = .ok (.if_icmp .eq 57, 3) := by decide +kernel
theorem dX12_join_44 : decode cX12_join 44 = .ok (.aload_n 0, 1) := by decide +kernel
theorem dX12_join_45 : decode cX12_join 45 = .ok (.getfield 99, 3) := by decide +kernel
theorem dX12_join_48 : decode cX12_join 48 = .ok (.iload_n 1, 1) := by decide +kernel
theorem dX12_join_49 : decode cX12_join 49 = .ok (.iaload, 1) := by decide +kernel
theorem dX12_join_50 : decode cX12_join 50 = .ok (.ifCond .ge 48, 3) := by decide +kernel
theorem dX12_join_53 : decode cX12_join 53 = .ok (.aload_n 0, 1) := by decide +kernel
theorem dX12_join_54 : decode cX12_join 54 = .ok (.getfield 99, 3) := by decide +kernel
theorem dX12_join_57 : decode cX12_join 57 = .ok (.iload_n 2, 1) := by decide +kernel
theorem dX12_join_58 : decode cX12_join 58 = .ok (.iaload, 1) := by decide +kernel
theorem dX12_join_59 : decode cX12_join 59 = .ok (.ifCond .ge 39, 3) := by decide +kernel
theorem dX12_join_62 : decode cX12_join 62 = .ok (.aload_n 0, 1) := by decide +kernel
theorem dX12_join_63 : decode cX12_join 63 = .ok (.getfield 99, 3) := by decide +kernel
theorem dX12_join_66 : decode cX12_join 66 = .ok (.iload_n 3, 1) := by decide +kernel
theorem dX12_join_67 : decode cX12_join 67 = .ok (.iaload, 1) := by decide +kernel
theorem dX12_join_68 : decode cX12_join 68 = .ok (.ifCond .ge 30, 3) := by decide +kernel
theorem dX12_join_71 : decode cX12_join 71 = .ok (.aload_n 0, 1) := by decide +kernel
theorem dX12_join_72 : decode cX12_join 72 = .ok (.iload_n 1, 1) := by decide +kernel
theorem dX12_join_73 : decode cX12_join 73 = .ok (.iload_n 2, 1) := by decide +kernel
theorem dX12_join_74 : decode cX12_join 74 = .ok (.invokevirtual 404, 3) := by decide +kernel
theorem dX12_join_77 : decode cX12_join 77 = .ok (.ifCond .eq 21, 3) := by decide +kernel
theorem dX12_join_80 : decode cX12_join 80 = .ok (.aload_n 0, 1) := by decide +kernel
theorem dX12_join_81 : decode cX12_join 81 = .ok (.iload_n 1, 1) := by decide +kernel
theorem dX12_join_82 : decode cX12_join 82 = .ok (.iload_n 3, 1) := by decide +kernel
theorem dX12_join_83 : decode cX12_join 83 = .ok (.invokevirtual 404, 3) := by decide +kernel
theorem dX12_join_86 : decode cX12_join 86 = .ok (.ifCond .eq 12, 3) := by decide +kernel
theorem dX12_join_89 : decode cX12_join 89 = .ok (.aload_n 0, 1) := by decide +kernel
theorem dX12_join_90 : decode cX12_join 90 = .ok (.iload_n 2, 1) := by decide +kernel
theorem dX12_join_91 : decode cX12_join 91 = .ok (.iload_n 3, 1) := by decide +kernel
theorem dX12_join_92 : decode cX12_join 92 = .ok (.invokevirtual 404, 3) := by decide +kernel
theorem dX12_join_95 : decode cX12_join 95 = .ok (.ifCond .ne 5, 3) := by decide +kernel
theorem dX12_join_98 : decode cX12_join 98 = .ok (.iconst (-1), 1) := by decide +kernel
theorem dX12_join_99 : decode cX12_join 99 = .ok (.ireturn, 1) := by decide +kernel
theorem dX12_join_100 : decode cX12_join 100 = .ok (.aload_n 0, 1) := by decide +kernel
theorem dX12_join_101 : decode cX12_join 101 = .ok (.getfield 99, 3) := by decide +kernel
theorem dX12_join_104 : decode cX12_join 104 = .ok (.iload_n 1, 1) := by decide +kernel
theorem dX12_join_105 : decode cX12_join 105 = .ok (.aload_n 0, 1) := by decide +kernel
theorem dX12_join_106 : decode cX12_join 106 = .ok (.getfield 407, 3) := by decide +kernel
theorem dX12_join_109 : decode cX12_join 109 = .ok (.iastore, 1) := by decide +kernel
theorem dX12_join_110 : decode cX12_join 110 = .ok (.aload_n 0, 1) := by decide +kernel
theorem dX12_join_111 : decode cX12_join 111 = .ok (.getfield 99, 3) := by decide +kernel
theorem dX12_join_114 : decode cX12_join 114 = .ok (.iload_n 2, 1) := by decide +kernel
theorem dX12_join_115 : decode cX12_join 115 = .ok (.aload_n 0, 1) := by decide +kernel
theorem dX12_join_116 : decode cX12_join 116 = .ok (.getfield 407, 3) := by decide +kernel
theorem dX12_join_119 : decode cX12_join 119 = .ok (.iastore, 1) := by decide +kernel
theorem dX12_join_120 : decode cX12_join 120 = .ok (.aload_n 0, 1) := by decide +kernel
theorem dX12_join_121 : decode cX12_join 121 = .ok (.getfield 99, 3) := by decide +kernel
theorem dX12_join_124 : decode cX12_join 124 = .ok (.iload_n 3, 1) := by decide +kernel
theorem dX12_join_125 : decode cX12_join 125 = .ok (.aload_n 0, 1) := by decide +kernel
theorem dX12_join_126 : decode cX12_join 126 = .ok (.getfield 407, 3) := by decide +kernel
theorem dX12_join_129 : decode cX12_join 129 = .ok (.iastore, 1) := by decide +kernel
theorem dX12_join_130 : decode cX12_join 130 = .ok (.aload_n 0, 1) := by decide +kernel
theorem dX12_join_131 : decode cX12_join 131 = .ok (.dup, 1) := by decide +kernel
theorem dX12_join_132 : decode cX12_join 132 = .ok (.getfield 407, 3) := by decide +kernel
theorem dX12_join_135 : decode cX12_join 135 = .ok (.iconst 1, 1) := by decide +kernel
theorem dX12_join_136 : decode cX12_join 136 = .ok (.iadd, 1) := by decide +kernel
theorem dX12_join_137 : decode cX12_join 137 = .ok (.putfield 407, 3) := by decide +kernel
theorem dX12_join_140 : decode cX12_join 140 = .ok (.aload_n 0, 1) := by decide +kernel
theorem dX12_join_141 : decode cX12_join 141 = .ok (.getfield 407, 3) := by decide +kernel
theorem dX12_join_144 : decode cX12_join 144 = .ok (.ireturn, 1) := by decide +kernel
theorem dX12_sortOf_0 : decode cX12_sortOf 0 = .ok (.aload_n 0, 1) := by decide +kernel
theorem dX12_sortOf_1 : decode cX12_sortOf 1 = .ok (.getfield 84, 3) := by decide +kernel
theorem dX12_sortOf_4 : decode cX12_sortOf 4 = .ok (.iload_n 1, 1) := by decide +kernel
theorem dX12_sortOf_5 : decode cX12_sortOf 5 = .ok (.iaload, 1) := by decide +kernel
theorem dX12_sortOf_6 : decode cX12_sortOf 6 = .ok (.ifCond .ge 7, 3) := by decide +kernel
theorem dX12_sortOf_9 : decode cX12_sortOf 9 = .ok (.iconst 0, 1) := by decide +kernel
theorem dX12_sortOf_10 : decode cX12_sortOf 10 = .ok (.goto 32, 3) := by decide +kernel
theorem dX12_sortOf_13 : decode cX12_sortOf 13 = .ok (.aload_n 0, 1) := by decide +kernel
theorem dX12_sortOf_14 : decode cX12_sortOf 14 = .ok (.getfield 87, 3) := by decide +kernel
theorem dX12_sortOf_17 : decode cX12_sortOf 17 = .ok (.iload_n 1, 1) := by decide +kernel
theorem dX12_sortOf_18 : decode cX12_sortOf 18 = .ok (.iaload, 1) := by decide +kernel
theorem dX12_sortOf_19 : decode cX12_sortOf 19 = .ok (.ifCond .lt 7, 3) := by decide +kernel
theorem dX12_sortOf_22 : decode cX12_sortOf 22 = .ok (.iconst 1, 1) := by decide +kernel
theorem dX12_sortOf_23 : decode cX12_sortOf 23 = .ok (.goto 19, 3) := by decide +kernel
theorem dX12_sortOf_26 : decode cX12_sortOf 26 = .ok (.aload_n 0, 1) := by decide +kernel
theorem dX12_sortOf_27 : decode cX12_sortOf 27 = .ok (.getfield 114, 3) := by decide +kernel
theorem dX12_sortOf_30 : decode cX12_sortOf 30 = .ok (.iload_n 1, 1) := by decide +kernel
theorem dX12_sortOf_31 : decode cX12_sortOf 31 = .ok (.iaload, 1) := by decide +kernel
theorem dX12_sortOf_32 : decode cX12_sortOf 32 = .ok (.bipush (-2), 2) := by decide +kernel
theorem dX12_sortOf_34 : decode cX12_sortOf 34 = .ok (.if_icmp .ne 7, 3) := by decide +kernel
theorem dX12_sortOf_37 : decode cX12_sortOf 37 = .ok (.iconst 2, 1) := by decide +kernel
theorem dX12_sortOf_38 : decode cX12_sortOf 38 = .ok (.goto 4, 3) := by decide +kernel
theorem dX12_sortOf_41 : decode cX12_sortOf 41 = .ok (.iconst 3, 1) := by decide +kernel
theorem dX12_sortOf_42 : decode cX12_sortOf 42 = .ok (.ireturn, 1) := by decide +kernel
theorem dX12_isUnlike_0 : decode cX12_isUnlike 0 = .ok (.aload_n 0, 1) := by decide +kernel
theorem dX12_isUnlike_1 : decode cX12_isUnlike 1 = .ok (.iload_n 1, 1) := by decide +kernel
theorem dX12_isUnlike_2 : decode cX12_isUnlike 2 = .ok (.invokevirtual 410, 3) := by decide +kernel
theorem dX12_isUnlike_5 : decode cX12_isUnlike 5 = .ok (.aload_n 0, 1) := by decide +kernel
theorem dX12_isUnlike_6 : decode cX12_isUnlike 6 = .ok (.iload_n 1, 1) := by decide +kernel
theorem dX12_isUnlike_7 : decode cX12_isUnlike 7 = .ok (.bipush 16, 2) := by decide +kernel
theorem dX12_isUnlike_9 : decode cX12_isUnlike 9 = .ok (.idiv, 1) := by decide +kernel
theorem dX12_isUnlike_10 : decode cX12_isUnlike 10 = .ok (.bipush 16, 2) := by decide +kernel
theorem dX12_isUnlike_12 : decode cX12_isUnlike 12 = .ok (.imul, 1) := by decide +kernel
theorem dX12_isUnlike_13 : decode cX12_isUnlike 13 = .ok (.bipush 15, 2) := by decide +kernel
theorem dX12_isUnlike_15 : decode cX12_isUnlike 15 = .ok (.iadd, 1) := by decide +kernel
theorem dX12_isUnlike_16 : decode cX12_isUnlike 16 = .ok (.iload_n 1, 1) := by decide +kernel
theorem dX12_isUnlike_17 : decode cX12_isUnlike 17 = .ok (.bipush 16, 2) := by decide +kernel
theorem dX12_isUnlike_19 : decode cX12_isUnlike 19 = .ok (.irem, 1) := by decide +kernel
theorem dX12_isUnlike_20 : decode cX12_isUnlike 20 = .ok (.isub, 1) := by decide +kernel
theorem dX12_isUnlike_21 : decode cX12_isUnlike 21 = .ok (.invokevirtual 410, 3) := by decide +kernel
theorem dX12_isUnlike_24 : decode cX12_isUnlike 24 = .ok (.if_icmp .eq 7, 3) := by decide +kernel
theorem dX12_isUnlike_27 : decode cX12_isUnlike 27 = .ok (.iconst 1, 1) := by decide +kernel
theorem dX12_isUnlike_28 : decode cX12_isUnlike 28 = .ok (.goto 4, 3) := by decide +kernel
theorem dX12_isUnlike_31 : decode cX12_isUnlike 31 = .ok (.iconst 0, 1) := by decide +kernel
theorem dX12_isUnlike_32 : decode cX12_isUnlike 32 = .ok (.ireturn, 1) := by decide +kernel
theorem dX12_look_0 : decode cX12_look 0 = .ok (.aload_n 0, 1) := by decide +kernel
theorem dX12_look_1 : decode cX12_look 1 = .ok (.iload_n 1, 1) := by decide +kernel
theorem dX12_look_2 : decode cX12_look 2 = .ok (.iload_n 2, 1) := by decide +kernel
theorem dX12_look_3 : decode cX12_look 3 = .ok (.invokestatic 311, 3) := by decide +kernel
theorem dX12_look_6 : decode cX12_look 6 = .ok (.ifCond .eq 16, 3) := by decide +kernel
theorem dX12_look_9 : decode cX12_look 9 = .ok (.iload_n 3, 1) := by decide +kernel
theorem dX12_look_10 : decode cX12_look 10 = .ok (.ifCond .lt 12, 3) := by decide +kernel
theorem dX12_look_13 : decode cX12_look 13 = .ok (.iload_n 3, 1) := by decide +kernel
theorem dX12_look_14 : decode cX12_look 14 = .ok (.iconst 2, 1) := by decide +kernel
theorem dX12_look_15 : decode cX12_look 15 = .ok (.if_icmp .gt 7, 3) := by decide +kernel
theorem dX12_look_18 : decode cX12_look 18 = .ok (.iconst 0, 1) := by decide +kernel
theorem dX12_look_19 : decode cX12_look 19 = .ok (.goto 4, 3) := by decide +kernel
theorem dX12_look_22 : decode cX12_look 22 = .ok (.iconst 1, 1) := by decide +kernel
theorem dX12_look_23 : decode cX12_look 23 = .ok (.putfield 1, 3) := by decide +kernel
theorem dX12_look_26 : decode cX12_look 26 = .ok (.aload_n 0, 1) := by decide +kernel
theorem dX12_look_27 : decode cX12_look 27 = .ok (.getfield 1, 3) := by decide +kernel
theorem dX12_look_30 : decode cX12_look 30 = .ok (.ifCond .le 5, 3) := by decide +kernel
theorem dX12_look_33 : decode cX12_look 33 = .ok (.iconst 0, 1) := by decide +kernel
theorem dX12_look_34 : decode cX12_look 34 = .ok (.ireturn, 1) := by decide +kernel
theorem dX12_look_35 : decode cX12_look 35 = .ok (.bipush 16, 2) := by decide +kernel
theorem dX12_look_37 : decode cX12_look 37 = .ok (.iload_n 2, 1) := by decide +kernel
theorem dX12_look_38 : decode cX12_look 38 = .ok (.imul, 1) := by decide +kernel
theorem dX12_look_39 : decode cX12_look 39 = .ok (.iload_n 1, 1) := by decide +kernel
theorem dX12_look_40 : decode cX12_look 40 = .ok (.iadd, 1) := by decide +kernel
theorem dX12_look_41 : decode cX12_look 41 = .ok (.istore 4, 2) := by decide +kernel
theorem dX12_look_43 : decode cX12_look 43 = .ok (.aload_n 0, 1) := by decide +kernel
theorem dX12_look_44 : decode cX12_look 44 = .ok (.invokevirtual 351, 3) := by decide +kernel
theorem dX12_look_47 : decode cX12_look 47 = .ok (.iload_n 3, 1) := by decide +kernel
theorem dX12_look_48 : decode cX12_look 48 = .ok (.ifCond .ne 13, 3) := by decide +kernel
theorem dX12_look_51 : decode cX12_look 51 = .ok (.aload_n 0, 1) := by decide +kernel
theorem dX12_look_52 : decode cX12_look 52 = .ok (.getfield 84, 3) := by decide +kernel
theorem dX12_look_55 : decode cX12_look 55 = .ok (.iload 4, 2) := by decide +kernel
theorem dX12_look_57 : decode cX12_look 57 = .ok (.iaload, 1) := by decide +kernel
theorem dX12_look_58 : decode cX12_look 58 = .ok (.goto 32, 3) := by decide +kernel
theorem dX12_look_61 : decode cX12_look 61 = .ok (.iload_n 3, 1) := by decide +kernel
theorem dX12_look_62 : decode cX12_look 62 = .ok (.iconst 1, 1) := by decide +kernel
theorem dX12_look_63 : decode cX12_look 63 = .ok (.if_icmp .ne 20, 3) := by decide +kernel
theorem dX12_look_66 : decode cX12_look 66 = .ok (.aload_n 0, 1) := by decide +kernel
theorem dX12_look_67 : decode cX12_look 67 = .ok (.iload 4, 2) := by decide +kernel
theorem dX12_look_69 : decode cX12_look 69 = .ok (.invokevirtual 413, 3) := by decide +kernel
theorem dX12_look_72 : decode cX12_look 72 = .ok (.ifCond .eq 7, 3) := by decide +kernel
theorem dX12_look_75 : decode cX12_look 75 = .ok (.iconst 1, 1) := by decide +kernel
theorem dX12_look_76 : decode cX12_look 76 = .ok (.goto 14, 3) := by decide +kernel
theorem dX12_look_79 : decode cX12_look 79 = .ok (.iconst 0, 1) := by decide +kernel
theorem dX12_look_80 : decode cX12_look 80 = .ok (.goto 10, 3) := by decide +kernel
theorem dX12_look_83 : decode cX12_look 83 = .ok (.aload_n 0, 1) := by decide +kernel
theorem dX12_look_84 : decode cX12_look 84 = .ok (.getfield 87, 3) := by decide +kernel
theorem dX12_look_87 : decode cX12_look 87 = .ok (.iload 4, 2) := by decide +kernel
theorem dX12_look_89 : decode cX12_look 89 = .ok (.iaload, 1) := by decide +kernel
theorem dX12_look_90 : decode cX12_look 90 = .ok (.ireturn, 1) := by decide +kernel
theorem dX12_lastWeights_0 : decode cX12_lastWeights 0 = .ok (.aload_n 0, 1) := by decide +kernel
theorem dX12_lastWeights_1 : decode cX12_lastWeights 1 = .ok (.iload_n 1, 1) := by decide +kernel
theorem dX12_lastWeights_2 : decode cX12_lastWeights 2 = .ok (.invokevirtual 383, 3) := by decide +kernel
theorem dX12_lastWeights_5 : decode cX12_lastWeights 5 = .ok (.aload_n 0, 1) := by decide +kernel
theorem dX12_lastWeights_6 : decode cX12_lastWeights 6 = .ok (.getfield 90, 3) := by decide +kernel
theorem dX12_lastWeights_9 : decode cX12_lastWeights 9 = .ok (.iload_n 1, 1) := by decide +kernel
theorem dX12_lastWeights_10 : decode cX12_lastWeights 10 = .ok (.iaload, 1) := by decide +kernel
theorem dX12_lastWeights_11 : decode cX12_lastWeights 11 = .ok (.iconst 1, 1) := by decide +kernel
theorem dX12_lastWeights_12 : decode cX12_lastWeights 12 = .ok (.isub, 1) := by decide +kernel
theorem dX12_lastWeights_13 : decode cX12_lastWeights 13 = .ok (.istore_n 2, 1) := by decide +kernel
theorem dX12_lastWeights_14 : decode cX12_lastWeights 14 = .ok (.aload_n 0, 1) := by decide +kernel
theorem dX12_lastWeights_15 : decode cX12_lastWeights 15 = .ok (.getfield 135, 3) := by decide +kernel
theorem dX12_lastWeights_18 : decode cX12_lastWeights 18 = .ok (.iconst 3, 1) := by decide +kernel
theorem dX12_lastWeights_19 : decode cX12_lastWeights 19 = .ok (.iload_n 2, 1) := by decide +kernel
theorem dX12_lastWeights_20 : decode cX12_lastWeights 20 = .ok (.imul, 1) := by decide +kernel
theorem dX12_lastWeights_21 : decode cX12_lastWeights 21 = .ok (.iaload, 1) := by decide +kernel
theorem dX12_lastWeights_22 : decode cX12_lastWeights 22 = .ok (.aload_n 0, 1) := by decide +kernel
theorem dX12_lastWeights_23 : decode cX12_lastWeights 23 = .ok (.getfield 135, 3) := by decide +kernel
theorem dX12_lastWeights_26 : decode cX12_lastWeights 26 = .ok (.iconst 3, 1) := by decide +kernel
theorem dX12_lastWeights_27 : decode cX12_lastWeights 27 = .ok (.iload_n 2, 1) := by decide +kernel
theorem dX12_lastWeights_28 : decode cX12_lastWeights 28 = .ok (.imul, 1) := by decide +kernel
theorem dX12_lastWeights_29 : decode cX12_lastWeights 29 = .ok (.iconst 1, 1) := by decide +kernel
theorem dX12_lastWeights_30 : decode cX12_lastWeights 30 = .ok (.iadd, 1) := by decide +kernel
theorem dX12_lastWeights_31 : decode cX12_lastWeights 31 = .ok (.iaload, 1) := by decide +kernel
theorem dX12_lastWeights_32 : decode cX12_lastWeights 32 = .ok (.iadd, 1) := by decide +kernel
theorem dX12_lastWeights_33 : decode cX12_lastWeights 33 = .ok (.aload_n 0, 1) := by decide +kernel
theorem dX12_lastWeights_34 : decode cX12_lastWeights 34 = .ok (.getfield 135, 3) := by decide +kernel
theorem dX12_lastWeights_37 : decode cX12_lastWeights 37 = .ok (.iconst 3, 1) := by decide +kernel
theorem dX12_lastWeights_38 : decode cX12_lastWeights 38 = .ok (.iload_n 2, 1) := by decide +kernel
theorem dX12_lastWeights_39 : decode cX12_lastWeights 39 = .ok (.imul, 1) := by decide +kernel
theorem dX12_lastWeights_40 : decode cX12_lastWeights 40 = .ok (.iconst 2, 1) := by decide +kernel
theorem dX12_lastWeights_41 : decode cX12_lastWeights 41 = .ok (.iadd, 1) := by decide +kernel
theorem dX12_lastWeights_42 : decode cX12_lastWeights 42 = .ok (.iaload, 1) := by decide +kernel
theorem dX12_lastWeights_43 : decode cX12_lastWeights 43 = .ok (.iadd, 1) := by decide +kernel
theorem dX12_lastWeights_44 : decode cX12_lastWeights 44 = .ok (.ireturn, 1) := by decide +kernel
theorem dX12_workOf_0 : decode cX12_workOf 0 = .ok (.iconst 2, 1) := by decide +kernel
theorem dX12_workOf_1 : decode cX12_workOf 1 = .ok (.aload_n 0, 1) := by decide +kernel
theorem dX12_workOf_2 : decode cX12_workOf 2 = .ok (.getfield 90, 3) := by decide +kernel
theorem dX12_workOf_5 : decode cX12_workOf 5 = .ok (.iload_n 1, 1) := by decide +kernel
theorem dX12_workOf_6 : decode cX12_workOf 6 = .ok (.iaload, 1) := by decide +kernel
theorem dX12_workOf_7 : decode cX12_workOf 7 = .ok (.imul, 1) := by decide +kernel
theorem dX12_workOf_8 : decode cX12_workOf 8 = .ok (.aload_n 0, 1) := by decide +kernel
theorem dX12_workOf_9 : decode cX12_workOf 9 = .ok (.iload_n 1, 1) := by decide +kernel
theorem dX12_workOf_10 : decode cX12_workOf 10 = .ok (.invokevirtual 416, 3) := by decide +kernel
theorem dX12_workOf_13 : decode cX12_workOf 13 = .ok (.bipush 10, 2) := by decide +kernel
theorem dX12_workOf_15 : decode cX12_workOf 15 = .ok (.idiv, 1) := by decide +kernel
theorem dX12_workOf_16 : decode cX12_workOf 16 = .ok (.iadd, 1) := by decide +kernel
theorem dX12_workOf_17 : decode cX12_workOf 17 = .ok (.iconst 5, 1) := by decide +kernel
theorem dX12_workOf_18 : decode cX12_workOf 18 = .ok (.aload_n 0, 1) := by decide +kernel
theorem dX12_workOf_19 : decode cX12_workOf 19 = .ok (.iload_n 1, 1) := by decide +kernel
theorem dX12_workOf_20 : decode cX12_workOf 20 = .ok (.invokevirtual 324, 3) := by decide +kernel
theorem dX12_workOf_23 : decode cX12_workOf 23 = .ok (.imul, 1) := by decide +kernel
theorem dX12_workOf_24 : decode cX12_workOf 24 = .ok (.iadd, 1) := by decide +kernel
theorem dX12_workOf_25 : decode cX12_workOf 25 = .ok (.ireturn, 1) := by decide +kernel
theorem dX12_work_0 : decode cX12_work 0 = .ok (.aload_n 0, 1) := by decide +kernel
theorem dX12_work_1 : decode cX12_work 1 = .ok (.iconst 0, 1) := by decide +kernel
theorem dX12_work_2 : decode cX12_work 2 = .ok (.putfield 1, 3) := by decide +kernel
theorem dX12_work_5 : decode cX12_work 5 = .ok (.aload_n 0, 1) := by decide +kernel
theorem dX12_work_6 : decode cX12_work 6 = .ok (.iload_n 1, 1) := by decide +kernel
theorem dX12_work_7 : decode cX12_work 7 = .ok (.invokevirtual 389, 3) := by decide +kernel
theorem dX12_work_10 : decode cX12_work 10 = .ok (.ifCond .eq 11, 3) := by decide +kernel
theorem dX12_work_13 : decode cX12_work 13 = .ok (.aload_n 0, 1) := by decide +kernel
theorem dX12_work_14 : decode cX12_work 14 = .ok (.iload_n 1, 1) := by decide +kernel
theorem dX12_work_15 : decode cX12_work 15 = .ok (.invokevirtual 419, 3) := by decide +kernel
theorem dX12_work_18 : decode cX12_work 18 = .ok (.goto 4, 3) := by decide +kernel
theorem dX12_work_21 : decode cX12_work 21 = .ok (.iconst (-1), 1) := by decide +kernel
theorem dX12_work_22 : decode cX12_work 22 = .ok (.ireturn, 1) := by decide +kernel
theorem dX12_hands_0 : decode cX12_hands 0 = .ok (.aload_n 0, 1) := by decide +kernel
theorem dX12_hands_1 : decode cX12_hands 1 = .ok (.iconst 0, 1) := by decide +kernel
theorem dX12_hands_2 : decode cX12_hands 2 = .ok (.putfield 1, 3) := by decide +kernel
theorem dX12_hands_5 : decode cX12_hands 5 = .ok (.iload_n 1, 1) := by decide +kernel
theorem dX12_hands_6 : decode cX12_hands 6 = .ok (.iconst 1, 1) := by decide +kernel
theorem dX12_hands_7 : decode cX12_hands 7 = .ok (.if_icmp .lt 26, 3) := by decide +kernel
theorem dX12_hands_10 : decode cX12_hands 10 = .ok (.iload_n 1, 1) := by decide +kernel
theorem dX12_hands_11 : decode cX12_hands 11 = .ok (.iconst 3, 1) := by decide +kernel
theorem dX12_hands_12 : decode cX12_hands 12 = .ok (.if_icmp .gt 21, 3) := by decide +kernel
theorem dX12_hands_15 : decode cX12_hands 15 = .ok (.iload_n 2, 1) := by decide +kernel
theorem dX12_hands_16 : decode cX12_hands 16 = .ok (.ifCond .lt 17, 3) := by decide +kernel
theorem dX12_hands_19 : decode cX12_hands 19 = .ok (.iload_n 2, 1) := by decide +kernel
theorem dX12_hands_20 : decode cX12_hands 20 = .ok (.iconst 3, 1) := by decide +kernel
theorem dX12_hands_21 : decode cX12_hands 21 = .ok (.if_icmp .gt 12, 3) := by decide +kernel
theorem dX12_hands_24 : decode cX12_hands 24 = .ok (.iload_n 3, 1) := by decide +kernel
theorem dX12_hands_25 : decode cX12_hands 25 = .ok (.ifCond .lt 8, 3) := by decide +kernel
theorem dX12_hands_28 : decode cX12_hands 28 = .ok (.iload_n 3, 1) := by decide +kernel
theorem dX12_hands_29 : decode cX12_hands 29 = .ok (.iconst 3, 1) := by decide +kernel
theorem dX12_hands_30 : decode cX12_hands 30 = .ok (.if_icmp .le 5, 3) := by decide +kernel
theorem dX12_hands_33 : decode cX12_hands 33 = .ok (.iconst 0, 1) := by decide +kernel
theorem dX12_hands_34 : decode cX12_hands 34 = .ok (.ireturn, 1) := by decide +kernel
theorem dX12_hands_35 : decode cX12_hands 35 = .ok (.aload_n 0, 1) := by decide +kernel
theorem dX12_hands_36 : decode cX12_hands 36 = .ok (.getfield 150, 3) := by decide +kernel
theorem dX12_hands_39 : decode cX12_hands 39 = .ok (.iconst 0, 1) := by decide +kernel
theorem dX12_hands_40 : decode cX12_hands 40 = .ok (.iload_n 1, 1) := by decide +kernel
theorem dX12_hands_41 : decode cX12_hands 41 = .ok (.iastore, 1) := by decide +kernel
theorem dX12_hands_42 : decode cX12_hands 42 = .ok (.aload_n 0, 1) := by decide +kernel
theorem dX12_hands_43 : decode cX12_hands 43 = .ok (.getfield 150, 3) := by decide +kernel
theorem dX12_hands_46 : decode cX12_hands 46 = .ok (.iconst 1, 1) := by decide +kernel
theorem dX12_hands_47 : decode cX12_hands 47 = .ok (.iload_n 2, 1) := by decide +kernel
theorem dX12_hands_48 : decode cX12_hands 48 = .ok (.iastore, 1) := by decide +kernel
theorem dX12_hands_49 : decode cX12_hands 49 = .ok (.aload_n 0, 1) := by decide +kernel
theorem dX12_hands_50 : decode cX12_hands 50 = .ok (.getfield 150, 3) := by decide +kernel
theorem dX12_hands_53 : decode cX12_hands 53 = .ok (.iconst 2, 1) := by decide +kernel
theorem dX12_hands_54 : decode cX12_hands 54 = .ok (.iload_n 2, 1) := by decide +kernel
theorem dX12_hands_55 : decode cX12_hands 55 = .ok (.ifCond .ne 7, 3) := by decide +kernel
theorem dX12_hands_58 : decode cX12_hands 58 = .ok (.iconst 0, 1) := by decide +kernel
theorem dX12_hands_59 : decode cX12_hands 59 = .ok (.goto 4, 3) := by decide +kernel
theorem dX12_hands_62 : decode cX12_hands 62 = .ok (.iload_n 3, 1) := by decide +kernel
theorem dX12_hands_63 : decode cX12_hands 63 = .ok (.iastore, 1) := by decide +kernel
theorem dX12_hands_64 : decode cX12_hands 64 = .ok (.iconst 1, 1) := by decide +kernel
theorem dX12_hands_65 : decode cX12_hands 65 = .ok (.ireturn, 1) := by decide +kernel
theorem dX12_findPlan_0 : decode cX12_findPlan 0 = .ok (.aload_n 0, 1) := by decide +kernel
theorem dX12_findPlan_1 : decode cX12_findPlan 1 = .ok (.iconst 0, 1) := by decide +kernel
theorem dX12_findPlan_2 : decode cX12_findPlan 2 = .ok (.putfield 422, 3) := by decide +kernel
theorem dX12_findPlan_5 : decode cX12_findPlan 5 = .ok (.iconst 0, 1) := by decide +kernel
theorem dX12_findPlan_6 : decode cX12_findPlan 6 = .ok (.istore_n 1, 1) := by decide +kernel
theorem dX12_findPlan_7 : decode cX12_findPlan 7 = .ok (.iload_n 1, 1) := by decide +kernel
theorem dX12_findPlan_8 : decode cX12_findPlan 8 = .ok (.aload_n 0, 1) := by decide +kernel
theorem dX12_findPlan_9 : decode cX12_findPlan 9 = .ok (.getfield 256, 3) := by decide +kernel
theorem dX12_findPlan_12 : decode cX12_findPlan 12 = .ok (.if_icmp .ge 69, 3) := by decide +kernel
theorem dX12_findPlan_15 : decode cX12_findPlan 15 = .ok (.aload_n 0, 1) := by decide +kernel
theorem dX12_findPlan_16 : decode cX12_findPlan 16 = .ok (.getfield 422, 3) := by decide +kernel
theorem dX12_findPlan_19 : decode cX12_findPlan 19 = .ok (.bipush 8, 2) := by decide +kernel
theorem dX12_findPlan_21 : decode cX12_findPlan 21 = .ok (.if_icmp .ge 60, 3) := by decide +kernel
theorem dX12_findPlan_24 : decode cX12_findPlan 24 = .ok (.aload_n 0, 1) := by decide +kernel
theorem dX12_findPlan_25 : decode cX12_findPlan 25 = .ok (.getfield 96, 3) := by decide +kernel
theorem dX12_findPlan_28 : decode cX12_findPlan 28 = .ok (.iload_n 1, 1) := by decide +kernel
theorem dX12_findPlan_29 : decode cX12_findPlan 29 = .ok (.iaload, 1) := by decide +kernel
theorem dX12_findPlan_30 : decode cX12_findPlan 30 = .ok (.ifCond .lt 11, 3) := by decide +kernel
theorem dX12_findPlan_33 : decode cX12_findPlan 33 = .ok (.aload_n 0, 1) := by decide +kernel
theorem dX12_findPlan_34 : decode cX12_findPlan 34 = .ok (.iload_n 1, 1) := by decide +kernel
theorem dX12_findPlan_35 : decode cX12_findPlan 35 = .ok (.invokevirtual 425, 3) := by decide +kernel
theorem dX12_findPlan_38 : decode cX12_findPlan 38 = .ok (.ifCond .eq 37, 3) := by decide +kernel
theorem dX12_findPlan_41 : decode cX12_findPlan 41 = .ok (.aload_n 0, 1) := by decide +kernel
theorem dX12_findPlan_42 : decode cX12_findPlan 42 = .ok (.getfield 153, 3) := by decide +kernel
theorem dX12_findPlan_45 : decode cX12_findPlan 45 = .ok (.aload_n 0, 1) := by decide +kernel
theorem dX12_findPlan_46 : decode cX12_findPlan 46 = .ok (.getfield 422, 3) := by decide +kernel
theorem dX12_findPlan_49 : decode cX12_findPlan 49 = .ok (.iload_n 1, 1) := by decide +kernel
theorem dX12_findPlan_50 : decode cX12_findPlan 50 = .ok (.iastore, 1) := by decide +kernel
theorem dX12_findPlan_51 : decode cX12_findPlan 51 = .ok (.aload_n 0, 1) := by decide +kernel
theorem dX12_findPlan_52 : decode cX12_findPlan 52 = .ok (.getfield 156, 3) := by decide +kernel
theorem dX12_findPlan_55 : decode cX12_findPlan 55 = .ok (.aload_n 0, 1) := by decide +kernel
theorem dX12_findPlan_56 : decode cX12_findPlan 56 = .ok (.getfield 422, 3) := by decide +kernel
theorem dX12_findPlan_59 : decode cX12_findPlan 59 = .ok (.aload_n 0, 1) := by decide +kernel
theorem dX12_findPlan_60 : decode cX12_findPlan 60 = .ok (.iload_n 1, 1) := by decide +kernel
theorem dX12_findPlan_61 : decode cX12_findPlan 61 = .ok (.invokevirtual 419, 3) := by decide +kernel
theorem dX12_findPlan_64 : decode cX12_findPlan 64 = .ok (.iastore, 1) := by decide +kernel
theorem dX12_findPlan_65 : decode cX12_findPlan 65 = .ok (.aload_n 0, 1) := by decide +kernel
theorem dX12_findPlan_66 : decode cX12_findPlan 66 = .ok (.dup, 1) := by decide +kernel
theorem dX12_findPlan_67 : decode cX12_findPlan 67 = .ok (.getfield 422, 3) := by decide +kernel
theorem dX12_findPlan_70 : decode cX12_findPlan 70 = .ok (.iconst 1, 1) := by decide +kernel
theorem dX12_findPlan_71 : decode cX12_findPlan 71 = .ok (.iadd, 1) := by decide +kernel
theorem dX12_findPlan_72 : decode cX12_findPlan 72 = .ok (.putfield 422, 3) := by decide +kernel
theorem dX12_findPlan_75 : decode cX12_findPlan 75 = .ok (.iinc 1 1, 3) := by decide +kernel
theorem dX12_findPlan_78 : decode cX12_findPlan 78 = .ok (.goto (-71), 3) := by decide +kernel
theorem dX12_findPlan_81 : decode cX12_findPlan 81 = .ok (.iconst 1, 1) := by decide +kernel
theorem dX12_findPlan_82 : decode cX12_findPlan 82 = .ok (.istore_n 1, 1) := by decide +kernel
theorem dX12_findPlan_83 : decode cX12_findPlan 83 = .ok (.iconst 0, 1) := by decide +kernel
theorem dX12_findPlan_84 : decode cX12_findPlan 84 = .ok (.istore_n 2, 1) := by decide +kernel
theorem dX12_findPlan_85 : decode cX12_findPlan 85 = .ok (.iload_n 2, 1) := by decide +kernel
theorem dX12_findPlan_86 : decode cX12_findPlan 86 = .ok (.aload_n 0, 1) := by decide +kernel
theorem dX12_findPlan_87 : decode cX12_findPlan 87 = .ok (.getfield 422, 3) := by decide +kernel
theorem dX12_findPlan_90 : decode cX12_findPlan 90 = .ok (.if_icmp .ge 13, 3) := by decide +kernel
theorem dX12_findPlan_93 : decode cX12_findPlan 93 = .ok (.iload_n 1, 1) := by decide +kernel
theorem dX12_findPlan_94 : decode cX12_findPlan 94 = .ok (.iconst 3, 1) := by decide +kernel
theorem dX12_findPlan_95 : decode cX12_findPlan 95 = .ok (.imul, 1) := by decide +kernel
theorem dX12_findPlan_96 : decode cX12_findPlan 96 = .ok (.istore_n 1, 1) := by decide +kernel
theorem dX12_findPlan_97 : decode cX12_findPlan 97 = .ok (.iinc 2 1, 3) := by decide +kernel
theorem dX12_findPlan_100 : decode cX12_findPlan 100 = .ok (.goto (-15), 3) := by decide +kernel
theorem dX12_findPlan_103 : decode cX12_findPlan 103 = .ok (.aload_n 0, 1) := by decide +kernel
theorem dX12_findPlan_104 : decode cX12_findPlan 104 = .ok (.iconst (-1), 1) := by decide +kernel
theorem dX12_findPlan_105 : decode cX12_findPlan 105 = .ok (.putfield 428, 3) := by decide +kernel
theorem dX12_findPlan_108 : decode cX12_findPlan 108 = .ok (.iconst 0, 1) := by decide +kernel
theorem dX12_findPlan_109 : decode cX12_findPlan 109 = .ok (.istore_n 2, 1) := by decide +kernel
theorem dX12_findPlan_110 : decode cX12_findPlan 110 = .ok (.iload_n 2, 1) := by decide +kernel
theorem dX12_findPlan_111 : decode cX12_findPlan 111 = .ok (.iload_n 1, 1) := by decide +kernel
theorem dX12_findPlan_112 : decode cX12_findPlan 112 = .ok (.if_icmp .ge 78, 3) := by decide +kernel
theorem dX12_findPlan_115 : decode cX12_findPlan 115 = .ok (.aload_n 0, 1) := by decide +kernel
theorem dX12_findPlan_116 : decode cX12_findPlan 116 = .ok (.iload_n 2, 1) := by decide +kernel
theorem dX12_findPlan_117 : decode cX12_findPlan 117 = .ok (.invokevirtual 431, 3) := by decide +kernel
theorem dX12_findPlan_120 : decode cX12_findPlan 120 = .ok (.istore_n 3, 1) := by decide +kernel
theorem dX12_findPlan_121 : decode cX12_findPlan 121 = .ok (.iload_n 3, 1) := by decide +kernel
theorem dX12_findPlan_122 : decode cX12_findPlan 122 = .ok (.ifCond .lt 62, 3) := by decide +kernel
theorem dX12_findPlan_125 : decode cX12_findPlan 125 = .ok (.aload_n 0, 1) := by decide +kernel
theorem dX12_findPlan_126 : decode cX12_findPlan 126 = .ok (.getfield 428, 3) := by decide +kernel
theorem dX12_findPlan_129 : decode cX12_findPlan 129 = .ok (.ifCond .lt 11, 3) := by decide +kernel
theorem dX12_findPlan_132 : decode cX12_findPlan 132 = .ok (.iload_n 3, 1) := by decide +kernel
theorem dX12_findPlan_133 : decode cX12_findPlan 133 = .ok (.aload_n 0, 1) := by decide +kernel
theorem dX12_findPlan_134 : decode cX12_findPlan 134 = .ok (.getfield 428, 3) := by decide +kernel
theorem dX12_findPlan_137 : decode cX12_findPlan 137 = .ok (.if_icmp .ge 47, 3) := by decide +kernel
theorem dX12_findPlan_140 : decode cX12_findPlan 140 = .ok (.aload_n 0, 1) := by decide +kernel
theorem dX12_findPlan_141 : decode cX12_findPlan 141 = .ok (.iload_n 3, 1) := by decide +kernel
theorem dX12_findPlan_142 : decode cX12_findPlan 142 = .ok (.putfield 428, 3) := by decide +kernel
theorem dX12_findPlan_145 : decode cX12_findPlan 145 = .ok (.iload_n 2, 1) := by decide +kernel
theorem dX12_findPlan_146 : decode cX12_findPlan 146 = .ok (.istore 4, 2) := by decide +kernel
theorem dX12_findPlan_148 : decode cX12_findPlan 148 = .ok (.aload_n 0, 1) := by decide +kernel
theorem dX12_findPlan_149 : decode cX12_findPlan 149 = .ok (.getfield 422, 3) := by decide +kernel
theorem dX12_findPlan_152 : decode cX12_findPlan 152 = .ok (.iconst 1, 1) := by decide +kernel
theorem dX12_findPlan_153 : decode cX12_findPlan 153 = .ok (.isub, 1) := by decide +kernel
theorem dX12_findPlan_154 : decode cX12_findPlan 154 = .ok (.istore 5, 2) := by decide +kernel
theorem dX12_findPlan_156 : decode cX12_findPlan 156 = .ok (.iload 5, 2) := by decide +kernel
theorem dX12_findPlan_158 : decode cX12_findPlan 158 = .ok (.ifCond .lt 26, 3) := by decide +kernel
theorem dX12_findPlan_161 : decode cX12_findPlan 161 = .ok (.aload_n 0, 1) := by decide +kernel
theorem dX12_findPlan_162 : decode cX12_findPlan 162 = .ok (.getfield 159, 3) := by decide +kernel
theorem dX12_findPlan_165 : decode cX12_findPlan 165 = .ok (.iload 5, 2) := by decide +kernel
theorem dX12_findPlan_167 : decode cX12_findPlan 167 = .ok (.iload 4, 2) := by decide +kernel
theorem dX12_findPlan_169 : decode cX12_findPlan 169 = .ok (.iconst 3, 1) := by decide +kernel
theorem dX12_findPlan_170 : decode cX12_findPlan 170 = .ok (.irem, 1) := by decide +kernel
theorem dX12_findPlan_171 : decode cX12_findPlan 171 = .ok (.iastore, 1) := by decide +kernel
theorem dX12_findPlan_172 : decode cX12_findPlan 172 = .ok (.iload 4, 2) := by decide +kernel
theorem dX12_findPlan_174 : decode cX12_findPlan 174 = .ok (.iconst 3, 1) := by decide +kernel
theorem dX12_findPlan_175 : decode cX12_findPlan 175 = .ok (.idiv, 1) := by decide +kernel
theorem dX12_findPlan_176 : decode cX12_findPlan 176 = .ok (.istore 4, 2) := by decide +kernel
theorem dX12_findPlan_178 : decode cX12_findPlan 178 = .ok (.iinc 5 (-1), 3) := by decide +kernel
theorem dX12_findPlan_181 : decode cX12_findPlan 181 = .ok (.goto (-25), 3) := by decide +kernel
theorem dX12_findPlan_184 : decode cX12_findPlan 184 = .ok (.iinc 2 1, 3) := by decide +kernel
theorem dX12_findPlan_187 : decode cX12_findPlan 187 = .ok (.goto (-77), 3) := by decide +kernel
theorem dX12_findPlan_190 : decode cX12_findPlan 190 = .ok (.return_, 1) := by decide +kernel
theorem dX12_timeOf_0 : decode cX12_timeOf 0 = .ok (.iconst 0, 1) := by decide +kernel
theorem dX12_timeOf_1 : decode cX12_timeOf 1 = .ok (.istore_n 2, 1) := by decide +kernel
theorem dX12_timeOf_2 : decode cX12_timeOf 2 = .ok (.iload_n 2, 1) := by decide +kernel
theorem dX12_timeOf_3 : decode cX12_timeOf 3 = .ok (.iconst 3, 1) := by decide +kernel
theorem dX12_timeOf_4 : decode cX12_timeOf 4 = .ok (.if_icmp .ge 16, 3) := by decide +kernel
theorem dX12_timeOf_7 : decode cX12_timeOf 7 = .ok (.aload_n 0, 1) := by decide +kernel
theorem dX12_timeOf_8 : decode cX12_timeOf 8 = .ok (.getfield 162, 3) := by decide +kernel
theorem dX12_timeOf_11 : decode cX12_timeOf 11 = .ok (.iload_n 2, 1) := by decide +kernel
theorem dX12_timeOf_12 : decode cX12_timeOf 12 = .ok (.iconst 0, 1) := by decide +kernel
theorem dX12_timeOf_13 : decode cX12_timeOf 13 = .ok (.iastore, 1) := by decide +kernel
theorem dX12_timeOf_14 : decode cX12_timeOf 14 = .ok (.iinc 2 1, 3) := by decide +kernel
theorem dX12_timeOf_17 : decode cX12_timeOf 17 = .ok (.goto (-15), 3) := by decide +kernel
theorem dX12_timeOf_20 : decode cX12_timeOf 20 = .ok (.iload_n 1, 1) := by decide +kernel
theorem dX12_timeOf_21 : decode cX12_timeOf 21 = .ok (.istore_n 2, 1) := by decide +kernel
theorem dX12_timeOf_22 : decode cX12_timeOf 22 = .ok (.aload_n 0, 1) := by decide +kernel
theorem dX12_timeOf_23 : decode cX12_timeOf 23 = .ok (.getfield 422, 3) := by decide +kernel
theorem dX12_timeOf_26 : decode cX12_timeOf 26 = .ok (.iconst 1, 1) := by decide +kernel
theorem dX12_timeOf_27 : decode cX12_timeOf 27 = .ok (.isub, 1) := by decide +kernel
theorem dX12_timeOf_28 : decode cX12_timeOf 28 = .ok (.istore_n 3, 1) := by decide +kernel
theorem dX12_timeOf_29 : decode cX12_timeOf 29 = .ok (.iload_n 3, 1) := by decide +kernel
theorem dX12_timeOf_30 : decode cX12_timeOf 30 = .ok (.ifCond .lt 64, 3) := by decide +kernel
theorem dX12_timeOf_33 : decode cX12_timeOf 33 = .ok (.iload_n 2, 1) := by decide +kernel
theorem dX12_timeOf_34 : decode cX12_timeOf 34 = .ok (.iconst 3, 1) := by decide +kernel
theorem dX12_timeOf_35 : decode cX12_timeOf 35 = .ok (.irem, 1) := by decide +kernel
theorem dX12_timeOf_36 : decode cX12_timeOf 36 = .ok (.istore 4, 2) := by decide +kernel
theorem dX12_timeOf_38 : decode cX12_timeOf 38 = .ok (.iload_n 2, 1) := by decide +kernel
theorem dX12_timeOf_39 : decode cX12_timeOf 39 = .ok (.iconst 3, 1) := by decide +kernel
theorem dX12_timeOf_40 : decode cX12_timeOf 40 = .ok (.idiv, 1) := by decide +kernel
theorem dX12_timeOf_41 : decode cX12_timeOf 41 = .ok (.istore_n 2, 1) := by decide +kernel
theorem dX12_timeOf_42 : decode cX12_timeOf 42 = .ok (.aload_n 0, 1) := by decide +kernel
theorem dX12_timeOf_43 : decode cX12_timeOf 43 = .ok (.getfield 150, 3) := by decide +kernel
theorem dX12_timeOf_46 : decode cX12_timeOf 46 = .ok (.iload 4, 2) := by decide +kernel
theorem dX12_timeOf_48 : decode cX12_timeOf 48 = .ok (.iaload, 1) := by decide +kernel
theorem dX12_timeOf_49 : decode cX12_timeOf 49 = .ok (.ifCond .ne 5, 3) := by decide +kernel
theorem dX12_timeOf_52 : decode cX12_timeOf 52 = .ok (.iconst (-1), 1) := by decide +kernel
theorem dX12_timeOf_53 : decode cX12_timeOf 53 = .ok (.ireturn, 1) := by decide +kernel
theorem dX12_timeOf_54 : decode cX12_timeOf 54 = .ok (.aload_n 0, 1) := by decide +kernel
theorem dX12_timeOf_55 : decode cX12_timeOf 55 = .ok (.getfield 162, 3) := by decide +kernel
theorem dX12_timeOf_58 : decode cX12_timeOf 58 = .ok (.iload 4, 2) := by decide +kernel
theorem dX12_timeOf_60 : decode cX12_timeOf 60 = .ok (.dup2, 1) := by decide +kernel
theorem dX12_timeOf_61 : decode cX12_timeOf 61 = .ok (.iaload, 1) := by decide +kernel
theorem dX12_timeOf_62 : decode cX12_timeOf 62 = .ok (.aload_n 0, 1) := by decide +kernel
theorem dX12_timeOf_63 : decode cX12_timeOf 63 = .ok (.getfield 156, 3) := by decide +kernel
theorem dX12_timeOf_66 : decode cX12_timeOf 66 = .ok (.iload_n 3, 1) := by decide +kernel
theorem dX12_timeOf_67 : decode cX12_timeOf 67 = .ok (.iaload, 1) := by decide +kernel
theorem dX12_timeOf_68 : decode cX12_timeOf 68 = .ok (.aload_n 0, 1) := by decide +kernel
theorem dX12_timeOf_69 : decode cX12_timeOf 69 = .ok (.getfield 150, 3) := by decide +kernel
theorem dX12_timeOf_72 : decode cX12_timeOf 72 = .ok (.iload 4, 2) := by decide +kernel
theorem dX12_timeOf_74 : decode cX12_timeOf 74 = .ok (.iaload, 1) := by decide +kernel
theorem dX12_timeOf_75 : decode cX12_timeOf 75 = .ok (.iadd, 1) := by decide +kernel
theorem dX12_timeOf_76 : decode cX12_timeOf 76 = .ok (.iconst 1, 1) := by decide +kernel
theorem dX12_timeOf_77 : decode cX12_timeOf 77 = .ok (.isub, 1) := by decide +kernel
theorem dX12_timeOf_78 : decode cX12_timeOf 78 = .ok (.aload_n 0, 1) := by decide +kernel
theorem dX12_timeOf_79 : decode cX12_timeOf 79 = .ok (.getfield 150, 3) := by decide +kernel
theorem dX12_timeOf_82 : decode cX12_timeOf 82 = .ok (.iload 4, 2) := by decide +kernel
theorem dX12_timeOf_84 : decode cX12_timeOf 84 = .ok (.iaload, 1) := by decide +kernel
theorem dX12_timeOf_85 : decode cX12_timeOf 85 = .ok (.idiv, 1) := by decide +kernel
theorem dX12_timeOf_86 : decode cX12_timeOf 86 = .ok (.iadd, 1) := by decide +kernel
theorem dX12_timeOf_87 : decode cX12_timeOf 87 = .ok (.iastore, 1) := by decide +kernel
theorem dX12_timeOf_88 : decode cX12_timeOf 88 = .ok (.iinc 3 (-1), 3) := by decide +kernel
theorem dX12_timeOf_91 : decode cX12_timeOf 91 = .ok (.goto (-62), 3) := by decide +kernel
theorem dX12_timeOf_94 : decode cX12_timeOf 94 = .ok (.aload_n 0, 1) := by decide +kernel
theorem dX12_timeOf_95 : decode cX12_timeOf 95 = .ok (.getfield 162, 3) := by decide +kernel
theorem dX12_timeOf_98 : decode cX12_timeOf 98 = .ok (.iconst 0, 1) := by decide +kernel
theorem dX12_timeOf_99 : decode cX12_timeOf 99 = .ok (.iaload, 1) := by decide +kernel
theorem dX12_timeOf_100 : decode cX12_timeOf 100 = .ok (.istore_n 3, 1) := by decide +kernel
theorem dX12_timeOf_101 : decode cX12_timeOf 101 = .ok (.aload_n 0, 1) := by decide +kernel
theorem dX12_timeOf_102 : decode cX12_timeOf 102 = .ok (.getfield 162, 3) := by decide +kernel
theorem dX12_timeOf_105 : decode cX12_timeOf 105 = .ok (.iconst 1, 1) := by decide +kernel
theorem dX12_timeOf_106 : decode cX12_timeOf 106 = .ok (.iaload, 1) := by decide +kernel
theorem dX12_timeOf_107 : decode cX12_timeOf 107 = .ok (.iload_n 3, 1) := by decide +kernel
theorem dX12_timeOf_108 : decode cX12_timeOf 108 = .ok (.if_icmp .le 12, 3) := by decide +kernel
theorem dX12_timeOf_111 : decode cX12_timeOf 111 = .ok (.aload_n 0, 1) := by decide +kernel
theorem dX12_timeOf_112 : decode cX12_timeOf 112 = .ok (.getfield 162, 3) := by decide +kernel
theorem dX12_timeOf_115 : decode cX12_timeOf 115 = .ok (.iconst 1, 1) := by decide +kernel
theorem dX12_timeOf_116 : decode cX12_timeOf 116 = .ok (.iaload, 1) := by decide +kernel
theorem dX12_timeOf_117 : decode cX12_timeOf 117 = .ok (.goto 4, 3) := by decide +kernel
theorem dX12_timeOf_120 : decode cX12_timeOf 120 = .ok (.iload_n 3, 1) := by decide +kernel
theorem dX12_timeOf_121 : decode cX12_timeOf 121 = .ok (.istore_n 3, 1) := by decide +kernel
theorem dX12_timeOf_122 : decode cX12_timeOf 122 = .ok (.aload_n 0, 1) := by decide +kernel
theorem dX12_timeOf_123 : decode cX12_timeOf 123 = .ok (.getfield 162, 3) := by decide +kernel
theorem dX12_timeOf_126 : decode cX12_timeOf 126 = .ok (.iconst 2, 1) := by decide +kernel
theorem dX12_timeOf_127 : decode cX12_timeOf 127 = .ok (.iaload, 1) := by decide +kernel
theorem dX12_timeOf_128 : decode cX12_timeOf 128 = .ok (.iload_n 3, 1) := by decide +kernel
theorem dX12_timeOf_129 : decode cX12_timeOf 129 = .ok (.if_icmp .le 12, 3) := by decide +kernel
theorem dX12_timeOf_132 : decode cX12_timeOf 132 = .ok (.aload_n 0, 1) := by decide +kernel
theorem dX12_timeOf_133 : decode cX12_timeOf 133 = .ok (.getfield 162, 3) := by decide +kernel
theorem dX12_timeOf_136 : decode cX12_timeOf 136 = .ok (.iconst 2, 1) := by decide +kernel
theorem dX12_timeOf_137 : decode cX12_timeOf 137 = .ok (.iaload, 1) := by decide +kernel
theorem dX12_timeOf_138 : decode cX12_timeOf 138 = .ok (.goto 4, 3) := by decide +kernel
theorem dX12_timeOf_141 : decode cX12_timeOf 141 = .ok (.iload_n 3, 1) := by decide +kernel
theorem dX12_timeOf_142 : decode cX12_timeOf 142 = .ok (.ireturn, 1) := by decide +kernel
theorem dX12_plan_0 : decode cX12_plan 0 = .ok (.aload_n 0, 1) := by decide +kernel
theorem dX12_plan_1 : decode cX12_plan 1 = .ok (.iconst 0, 1) := by decide +kernel
theorem dX12_plan_2 : decode cX12_plan 2 = .ok (.putfield 1, 3) := by decide +kernel
theorem dX12_plan_5 : decode cX12_plan 5 = .ok (.aload_n 0, 1) := by decide +kernel
theorem dX12_plan_6 : decode cX12_plan 6 = .ok (.invokevirtual 434, 3) := by decide +kernel
theorem dX12_plan_9 : decode cX12_plan 9 = .ok (.iload_n 1, 1) := by decide +kernel
theorem dX12_plan_10 : decode cX12_plan 10 = .ok (.ifCond .ne 10, 3) := by decide +kernel
theorem dX12_plan_13 : decode cX12_plan 13 = .ok (.aload_n 0, 1) := by decide +kernel
theorem dX12_plan_14 : decode cX12_plan 14 = .ok (.getfield 428, 3) := by decide +kernel
theorem dX12_plan_17 : decode cX12_plan 17 = .ok (.goto 52, 3) := by decide +kernel
theorem dX12_plan_20 : decode cX12_plan 20 = .ok (.iload_n 1, 1) := by decide +kernel
theorem dX12_plan_21 : decode cX12_plan 21 = .ok (.iconst 1, 1) := by decide +kernel
theorem dX12_plan_22 : decode cX12_plan 22 = .ok (.if_icmp .ne 34, 3) := by decide +kernel
theorem dX12_plan_25 : decode cX12_plan 25 = .ok (.aload_n 0, 1) := by decide +kernel
theorem dX12_plan_26 : decode cX12_plan 26 = .ok (.getfield 428, 3) := by decide +kernel
theorem dX12_plan_29 : decode cX12_plan 29 = .ok (.ifCond .ne 7, 3) := by decide +kernel
theorem dX12_plan_32 : decode cX12_plan 32 = .ok (.iconst 0, 1) := by decide +kernel
theorem dX12_plan_33 : decode cX12_plan 33 = .ok (.goto 36, 3) := by decide +kernel
theorem dX12_plan_36 : decode cX12_plan 36 = .ok (.aload_n 0, 1) := by decide +kernel
theorem dX12_plan_37 : decode cX12_plan 37 = .ok (.getfield 428, 3) := by decide +kernel
theorem dX12_plan_40 : decode cX12_plan 40 = .ok (.aload_n 0, 1) := by decide +kernel
theorem dX12_plan_41 : decode cX12_plan 41 = .ok (.getfield 428, 3) := by decide +kernel
theorem dX12_plan_44 : decode cX12_plan 44 = .ok (.iconst 1, 1) := by decide +kernel
theorem dX12_plan_45 : decode cX12_plan 45 = .ok (.isub, 1) := by decide +kernel
theorem dX12_plan_46 : decode cX12_plan 46 = .ok (.bipush 60, 2) := by decide +kernel
theorem dX12_plan_48 : decode cX12_plan 48 = .ok (.idiv, 1) := by decide +kernel
theorem dX12_plan_49 : decode cX12_plan 49 = .ok (.bipush 10, 2) := by decide +kernel
theorem dX12_plan_51 : decode cX12_plan 51 = .ok (.imul, 1) := by decide +kernel
theorem dX12_plan_52 : decode cX12_plan 52 = .ok (.iadd, 1) := by decide +kernel
theorem dX12_plan_53 : decode cX12_plan 53 = .ok (.goto 16, 3) := by decide +kernel
theorem dX12_plan_56 : decode cX12_plan 56 = .ok (.iload_n 1, 1) := by decide +kernel
theorem dX12_plan_57 : decode cX12_plan 57 = .ok (.iconst 2, 1) := by decide +kernel
theorem dX12_plan_58 : decode cX12_plan 58 = .ok (.if_icmp .ne 10, 3) := by decide +kernel
theorem dX12_plan_61 : decode cX12_plan 61 = .ok (.aload_n 0, 1) := by decide +kernel
theorem dX12_plan_62 : decode cX12_plan 62 = .ok (.getfield 422, 3) := by decide +kernel
theorem dX12_plan_65 : decode cX12_plan 65 = .ok (.goto 4, 3) := by decide +kernel
theorem dX12_plan_68 : decode cX12_plan 68 = .ok (.iconst (-1), 1) := by decide +kernel
theorem dX12_plan_69 : decode cX12_plan 69 = .ok (.ireturn, 1) := by decide +kernel
theorem dX12_planned_0 : decode cX12_planned 0 = .ok (.aload_n 0, 1) := by decide +kernel
theorem dX12_planned_1 : decode cX12_planned 1 = .ok (.iconst 0, 1) := by decide +kernel
theorem dX12_planned_2 : decode cX12_planned 2 = .ok (.putfield 1, 3) := by decide +kernel
theorem dX12_planned_5 : decode cX12_planned 5 = .ok (.aload_n 0, 1) := by decide +kernel
theorem dX12_planned_6 : decode cX12_planned 6 = .ok (.invokevirtual 434, 3) := by decide +kernel
theorem dX12_planned_9 : decode cX12_planned 9 = .ok (.iconst (-1), 1) := by decide +kernel
theorem dX12_planned_10 : decode cX12_planned 10 = .ok (.istore_n 2, 1) := by decide +kernel
theorem dX12_planned_11 : decode cX12_planned 11 = .ok (.iconst 0, 1) := by decide +kernel
theorem dX12_planned_12 : decode cX12_planned 12 = .ok (.istore_n 3, 1) := by decide +kernel
theorem dX12_planned_13 : decode cX12_planned 13 = .ok (.iload_n 3, 1) := by decide +kernel
theorem dX12_planned_14 : decode cX12_planned 14 = .ok (.aload_n 0, 1) := by decide +kernel
theorem dX12_planned_15 : decode cX12_planned 15 = .ok (.getfield 422, 3) := by decide +kernel
theorem dX12_planned_18 : decode cX12_planned 18 = .ok (.if_icmp .ge 30, 3) := by decide +kernel
theorem dX12_planned_21 : decode cX12_planned 21 = .ok (.aload_n 0, 1) := by decide +kernel
theorem dX12_planned_22 : decode cX12_planned 22 = .ok (.getfield 153, 3) := by decide +kernel
theorem dX12_planned_25 : decode cX12_planned 25 = .ok (.iload_n 3, 1) := by decide +kernel
theorem dX12_planned_26 : decode cX12_planned 26 = .ok (.iaload, 1) := by decide +kernel
theorem dX12_planned_27 : decode cX12_planned 27 = .ok (.iload_n 1, 1) := by decide +kernel
theorem dX12_planned_28 : decode cX12_planned 28 = .ok (.if_icmp .ne 12, 3) := by decide +kernel
theorem dX12_planned_31 : decode cX12_planned 31 = .ok (.aload_n 0, 1) := by decide +kernel
theorem dX12_planned_32 : decode cX12_planned 32 = .ok (.getfield 159, 3) := by decide +kernel
theorem dX12_planned_35 : decode cX12_planned 35 = .ok (.iload_n 3, 1) := by decide +kernel
theorem dX12_planned_36 : decode cX12_planned 36 = .ok (.iaload, 1) := by decide +kernel
theorem dX12_planned_37 : decode cX12_planned 37 = .ok (.goto 4, 3) := by decide +kernel
theorem dX12_planned_40 : decode cX12_planned 40 = .ok (.iload_n 2, 1) := by decide +kernel
theorem dX12_planned_41 : decode cX12_planned 41 = .ok (.istore_n 2, 1) := by decide +kernel
theorem dX12_planned_42 : decode cX12_planned 42 = .ok (.iinc 3 1, 3) := by decide +kernel
theorem dX12_planned_45 : decode cX12_planned 45 = .ok (.goto (-32), 3) := by decide +kernel
theorem dX12_planned_48 : decode cX12_planned 48 = .ok (.iload_n 2, 1) := by decide +kernel
theorem dX12_planned_49 : decode cX12_planned 49 = .ok (.ireturn, 1) := by decide +kernel
theorem dX12_done_0 : decode cX12_done 0 = .ok (.aload_n 0, 1) := by decide +kernel
theorem dX12_done_1 : decode cX12_done 1 = .ok (.iconst 0, 1) := by decide +kernel
theorem dX12_done_2 : decode cX12_done 2 = .ok (.putfield 1, 3) := by decide +kernel
theorem dX12_done_5 : decode cX12_done 5 = .ok (.iconst 0, 1) := by decide +kernel
theorem dX12_done_6 : decode cX12_done 6 = .ok (.istore_n 1, 1) := by decide +kernel
theorem dX12_done_7 : decode cX12_done 7 = .ok (.iload_n 1, 1) := by decide +kernel
theorem dX12_done_8 : decode cX12_done 8 = .ok (.aload_n 0, 1) := by decide +kernel
theorem dX12_done_9 : decode cX12_done 9 = .ok (.getfield 256, 3) := by decide +kernel
theorem dX12_done_12 : decode cX12_done 12 = .ok (.if_icmp .ge 19, 3) := by decide +kernel
theorem dX12_done_15 : decode cX12_done 15 = .ok (.aload_n 0, 1) := by decide +kernel
theorem dX12_done_16 : decode cX12_done 16 = .ok (.getfield 96, 3) := by decide +kernel
theorem dX12_done_19 : decode cX12_done 19 = .ok (.iload_n 1, 1) := by decide +kernel
theorem dX12_done_20 : decode cX12_done 20 = .ok (.aload_n 0, 1) := by decide +kernel
theorem dX12_done_21 : decode cX12_done 21 = .ok (.getfield 327, 3) := by decide +kernel
theorem dX12_done_24 : decode cX12_done 24 = .ok (.iastore, 1) := by decide +kernel
theorem dX12_done_25 : decode cX12_done 25 = .ok (.iinc 1 1, 3) := by decide +kernel
theorem dX12_done_28 : decode cX12_done 28 = .ok (.goto (-21), 3) := by decide +kernel
theorem dX12_done_31 : decode cX12_done 31 = .ok (.aload_n 0, 1) := by decide +kernel
theorem dX12_done_32 : decode cX12_done 32 = .ok (.getfield 256, 3) := by decide +kernel
theorem dX12_done_35 : decode cX12_done 35 = .ok (.ireturn, 1) := by decide +kernel
theorem dX12_weeks_0 : decode cX12_weeks 0 = .ok (.aload_n 0, 1) := by decide +kernel
theorem dX12_weeks_1 : decode cX12_weeks 1 = .ok (.iconst 0, 1) := by decide +kernel
theorem dX12_weeks_2 : decode cX12_weeks 2 = .ok (.putfield 1, 3) := by decide +kernel
theorem dX12_weeks_5 : decode cX12_weeks 5 = .ok (.iload_n 1, 1) := by decide +kernel
theorem dX12_weeks_6 : decode cX12_weeks 6 = .ok (.ifCond .lt 20, 3) := by decide +kernel
theorem dX12_weeks_9 : decode cX12_weeks 9 = .ok (.iload_n 1, 1) := by decide +kernel
theorem dX12_weeks_10 : decode cX12_weeks 10 = .ok (.bipush 20, 2) := by decide +kernel
theorem dX12_weeks_12 : decode cX12_weeks 12 = .ok (.if_icmp .gt 14, 3) := by decide +kernel
theorem dX12_weeks_15 : decode cX12_weeks 15 = .ok (.aload_n 0, 1) := by decide +kernel
theorem dX12_weeks_16 : decode cX12_weeks 16 = .ok (.getfield 327, 3) := by decide +kernel
theorem dX12_weeks_19 : decode cX12_weeks 19 = .ok (.iload_n 1, 1) := by decide +kernel
theorem dX12_weeks_20 : decode cX12_weeks 20 = .ok (.iadd, 1) := by decide +kernel
theorem dX12_weeks_21 : decode cX12_weeks 21 = .ok (.bipush 99, 2) := by decide +kernel
theorem dX12_weeks_23 : decode cX12_weeks 23 = .ok (.if_icmp .le 5, 3) := by decide +kernel
theorem dX12_weeks_26 : decode cX12_weeks 26 = .ok (.iconst (-1), 1) := by decide +kernel
theorem dX12_weeks_27 : decode cX12_weeks 27 = .ok (.ireturn, 1) := by decide +kernel
theorem dX12_weeks_28 : decode cX12_weeks 28 = .ok (.aload_n 0, 1) := by decide +kernel
theorem dX12_weeks_29 : decode cX12_weeks 29 = .ok (.dup, 1) := by decide +kernel
theorem dX12_weeks_30 : decode cX12_weeks 30 = .ok (.getfield 327, 3) := by decide +kernel
theorem dX12_weeks_33 : decode cX12_weeks 33 = .ok (.iload_n 1, 1) := by decide +kernel
theorem dX12_weeks_34 : decode cX12_weeks 34 = .ok (.iadd, 1) := by decide +kernel
theorem dX12_weeks_35 : decode cX12_weeks 35 = .ok (.putfield 327, 3) := by decide +kernel
theorem dX12_weeks_38 : decode cX12_weeks 38 = .ok (.aload_n 0, 1) := by decide +kernel
theorem dX12_weeks_39 : decode cX12_weeks 39 = .ok (.sipush 2000, 3) := by decide +kernel
theorem dX12_weeks_42 : decode cX12_weeks 42 = .ok (.aload_n 0, 1) := by decide +kernel
theorem dX12_weeks_43 : decode cX12_weeks 43 = .ok (.getfield 165, 3) := by decide +kernel
theorem dX12_weeks_46 : decode cX12_weeks 46 = .ok (.iconst 3, 1) := by decide +kernel
theorem dX12_weeks_47 : decode cX12_weeks 47 = .ok (.iload_n 1, 1) := by decide +kernel
theorem dX12_weeks_48 : decode cX12_weeks 48 = .ok (.imul, 1) := by decide +kernel
theorem dX12_weeks_49 : decode cX12_weeks 49 = .ok (.iadd, 1) := by decide +kernel
theorem dX12_weeks_50 : decode cX12_weeks 50 = .ok (.invokestatic 289, 3) := by decide +kernel
theorem dX12_weeks_53 : decode cX12_weeks 53 = .ok (.putfield 165, 3) := by decide +kernel
theorem dX12_weeks_56 : decode cX12_weeks 56 = .ok (.aload_n 0, 1) := by decide +kernel
theorem dX12_weeks_57 : decode cX12_weeks 57 = .ok (.getfield 327, 3) := by decide +kernel
theorem dX12_weeks_60 : decode cX12_weeks 60 = .ok (.ireturn, 1) := by decide +kernel
theorem dX12_holdsFor_0 : decode cX12_holdsFor 0 = .ok (.aload_n 0, 1) := by decide +kernel
theorem dX12_holdsFor_1 : decode cX12_holdsFor 1 = .ok (.iload_n 1, 1) := by decide +kernel
theorem dX12_holdsFor_2 : decode cX12_holdsFor 2 = .ok (.invokevirtual 383, 3) := by decide +kernel
theorem dX12_holdsFor_5 : decode cX12_holdsFor 5 = .ok (.aload_n 0, 1) := by decide +kernel
theorem dX12_holdsFor_6 : decode cX12_holdsFor 6 = .ok (.iconst 0, 1) := by decide +kernel
theorem dX12_holdsFor_7 : decode cX12_holdsFor 7 = .ok (.invokevirtual 377, 3) := by decide +kernel
theorem dX12_holdsFor_10 : decode cX12_holdsFor 10 = .ok (.istore_n 2, 1) := by decide +kernel
theorem dX12_holdsFor_11 : decode cX12_holdsFor 11 = .ok (.iconst 1, 1) := by decide +kernel
theorem dX12_holdsFor_12 : decode cX12_holdsFor 12 = .ok (.istore_n 3, 1) := by decide +kernel
theorem dX12_holdsFor_13 : decode cX12_holdsFor 13 = .ok (.iload_n 3, 1) := by decide +kernel
theorem dX12_holdsFor_14 : decode cX12_holdsFor 14 = .ok (.aload_n 0, 1) := by decide +kernel
theorem dX12_holdsFor_15 : decode cX12_holdsFor 15 = .ok (.getfield 90, 3) := by decide +kernel
theorem dX12_holdsFor_18 : decode cX12_holdsFor 18 = .ok (.iload_n 1, 1) := by decide +kernel
theorem dX12_holdsFor_19 : decode cX12_holdsFor 19 = .ok (.iaload, 1) := by decide +kernel
theorem dX12_holdsFor_20 : decode cX12_holdsFor 20 = .ok (.if_icmp .ge 19, 3) := by decide +kernel
theorem dX12_holdsFor_23 : decode cX12_holdsFor 23 = .ok (.iload_n 2, 1) := by decide +kernel
theorem dX12_holdsFor_24 : decode cX12_holdsFor 24 = .ok (.aload_n 0, 1) := by decide +kernel
theorem dX12_holdsFor_25 : decode cX12_holdsFor 25 = .ok (.iload_n 3, 1) := by decide +kernel
theorem dX12_holdsFor_26 : decode cX12_holdsFor 26 = .ok (.invokevirtual 377, 3) := by decide +kernel
theorem dX12_holdsFor_29 : decode cX12_holdsFor 29 = .ok (.invokestatic 289, 3) := by decide +kernel
theorem dX12_holdsFor_32 : decode cX12_holdsFor 32 = .ok (.istore_n 2, 1) := by decide +kernel
theorem dX12_holdsFor_33 : decode cX12_holdsFor 33 = .ok (.iinc 3 1, 3) := by decide +kernel
theorem dX12_holdsFor_36 : decode cX12_holdsFor 36 = .ok (.goto (-23), 3) := by decide +kernel
theorem dX12_holdsFor_39 : decode cX12_holdsFor 39 = .ok (.bipush 8, 2) := by decide +kernel
theorem dX12_holdsFor_41 : decode cX12_holdsFor 41 = .ok (.iload_n 2, 1) := by decide +kernel
theorem dX12_holdsFor_42 : decode cX12_holdsFor 42 = .ok (.iconst 4, 1) := by decide +kernel
theorem dX12_holdsFor_43 : decode cX12_holdsFor 43 = .ok (.idiv, 1) := by decide +kernel
theorem dX12_holdsFor_44 : decode cX12_holdsFor 44 = .ok (.iconst 1, 1) := by decide +kernel
theorem dX12_holdsFor_45 : decode cX12_holdsFor 45 = .ok (.iadd, 1) := by decide +kernel
theorem dX12_holdsFor_46 : decode cX12_holdsFor 46 = .ok (.invokestatic 289, 3) := by decide +kernel
theorem dX12_holdsFor_49 : decode cX12_holdsFor 49 = .ok (.ireturn, 1) := by decide +kernel
theorem dX12_holds_0 : decode cX12_holds 0 = .ok (.aload_n 0, 1) := by decide +kernel
theorem dX12_holds_1 : decode cX12_holds 1 = .ok (.iconst 0, 1) := by decide +kernel
theorem dX12_holds_2 : decode cX12_holds 2 = .ok (.putfield 1, 3) := by decide +kernel
theorem dX12_holds_5 : decode cX12_holds 5 = .ok (.aload_n 0, 1) := by decide +kernel
theorem dX12_holds_6 : decode cX12_holds 6 = .ok (.iload_n 1, 1) := by decide +kernel
theorem dX12_holds_7 : decode cX12_holds 7 = .ok (.invokevirtual 389, 3) := by decide +kernel
theorem dX12_holds_10 : decode cX12_holds 10 = .ok (.ifCond .eq 11, 3) := by decide +kernel
theorem dX12_holds_13 : decode cX12_holds 13 = .ok (.aload_n 0, 1) := by decide +kernel
theorem dX12_holds_14 : decode cX12_holds 14 = .ok (.iload_n 1, 1) := by decide +kernel
theorem dX12_holds_15 : decode cX12_holds 15 = .ok (.invokevirtual 437, 3) := by decide +kernel
theorem dX12_holds_18 : decode cX12_holds 18 = .ok (.goto 4, 3) := by decide +kernel
theorem dX12_holds_21 : decode cX12_holds 21 = .ok (.iconst (-1), 1) := by decide +kernel
theorem dX12_holds_22 : decode cX12_holds 22 = .ok (.ireturn, 1) := by decide +kernel
theorem dX12_isOutNow_0 : decode cX12_isOutNow 0 = .ok (.aload_n 0, 1) := by decide +kernel
theorem dX12_isOutNow_1 : decode cX12_isOutNow 1 = .ok (.getfield 96, 3) := by decide +kernel
theorem dX12_isOutNow_4 : decode cX12_isOutNow 4 = .ok (.iload_n 1, 1) := by decide +kernel
theorem dX12_isOutNow_5 : decode cX12_isOutNow 5 = .ok (.iaload, 1) := by decide +kernel
theorem dX12_isOutNow_6 : decode cX12_isOutNow 6 = .ok (.ifCond .lt 26, 3) := by decide +kernel
theorem dX12_isOutNow_9 : decode cX12_isOutNow 9 = .ok (.aload_n 0, 1) := by decide +kernel
theorem dX12_isOutNow_10 : decode cX12_isOutNow 10 = .ok (.getfield 327, 3) := by decide +kernel
theorem dX12_isOutNow_13 : decode cX12_isOutNow 13 = .ok (.aload_n 0, 1) := by decide +kernel
theorem dX12_isOutNow_14 : decode cX12_isOutNow 14 = .ok (.getfield 96, 3) := by decide +kernel
theorem dX12_isOutNow_17 : decode cX12_isOutNow 17 = .ok (.iload_n 1, 1) := by decide +kernel
theorem dX12_isOutNow_18 : decode cX12_isOutNow 18 = .ok (.iaload, 1) := by decide +kernel
theorem dX12_isOutNow_19 : decode cX12_isOutNow 19 = .ok (.isub, 1) := by decide +kernel
theorem dX12_isOutNow_20 : decode cX12_isOutNow 20 = .ok (.aload_n 0, 1) := by decide +kernel
theorem dX12_isOutNow_21 : decode cX12_isOutNow 21 = .ok (.iload_n 1, 1) := by decide +kernel
theorem dX12_isOutNow_22 : decode cX12_isOutNow 22 = .ok (.invokevirtual 437, 3) := by decide +kernel
theorem dX12_isOutNow_25 : decode cX12_isOutNow 25 = .ok (.if_icmp .lt 7, 3) := by decide +kernel
theorem dX12_isOutNow_28 : decode cX12_isOutNow 28 = .ok (.iconst 1, 1) := by decide +kernel
theorem dX12_isOutNow_29 : decode cX12_isOutNow 29 = .ok (.goto 4, 3) := by decide +kernel
theorem dX12_isOutNow_32 : decode cX12_isOutNow 32 = .ok (.iconst 0, 1) := by decide +kernel
theorem dX12_isOutNow_33 : decode cX12_isOutNow 33 = .ok (.ireturn, 1) := by decide +kernel
theorem dX12_isOut_0 : decode cX12_isOut 0 = .ok (.aload_n 0, 1) := by decide +kernel
theorem dX12_isOut_1 : decode cX12_isOut 1 = .ok (.iconst 0, 1) := by decide +kernel
theorem dX12_isOut_2 : decode cX12_isOut 2 = .ok (.putfield 1, 3) := by decide +kernel
theorem dX12_isOut_5 : decode cX12_isOut 5 = .ok (.aload_n 0, 1) := by decide +kernel
theorem dX12_isOut_6 : decode cX12_isOut 6 = .ok (.iload_n 1, 1) := by decide +kernel
theorem dX12_isOut_7 : decode cX12_isOut 7 = .ok (.invokevirtual 389, 3) := by decide +kernel
theorem dX12_isOut_10 : decode cX12_isOut 10 = .ok (.ifCond .ne 7, 3) := by decide +kernel
theorem dX12_isOut_13 : decode cX12_isOut 13 = .ok (.iconst (-1), 1) := by decide +kernel
theorem dX12_isOut_14 : decode cX12_isOut 14 = .ok (.goto 16, 3) := by decide +kernel
theorem dX12_isOut_17 : decode cX12_isOut 17 = .ok (.aload_n 0, 1) := by decide +kernel
theorem dX12_isOut_18 : decode cX12_isOut 18 = .ok (.iload_n 1, 1) := by decide +kernel
theorem dX12_isOut_19 : decode cX12_isOut 19 = .ok (.invokevirtual 425, 3) := by decide +kernel
theorem dX12_isOut_22 : decode cX12_isOut 22 = .ok (.ifCond .eq 7, 3) := by decide +kernel
theorem dX12_isOut_25 : decode cX12_isOut 25 = .ok (.iconst 1, 1) := by decide +kernel
theorem dX12_isOut_26 : decode cX12_isOut 26 = .ok (.goto 4, 3) := by decide +kernel
theorem dX12_isOut_29 : decode cX12_isOut 29 = .ok (.iconst 0, 1) := by decide +kernel
theorem dX12_isOut_30 : decode cX12_isOut 30 = .ok (.ireturn, 1) := by decide +kernel
theorem dX12_redo_0 : decode cX12_redo 0 = .ok (.aload_n 0, 1) := by decide +kernel
theorem dX12_redo_1 : decode cX12_redo 1 = .ok (.iconst 0, 1) := by decide +kernel
theorem dX12_redo_2 : decode cX12_redo 2 = .ok (.putfield 1, 3) := by decide +kernel
theorem dX12_redo_5 : decode cX12_redo 5 = .ok (.aload_n 0, 1) := by decide +kernel
theorem dX12_redo_6 : decode cX12_redo 6 = .ok (.iload_n 1, 1) := by decide +kernel
theorem dX12_redo_7 : decode cX12_redo 7 = .ok (.invokevirtual 389, 3) := by decide +kernel
theorem dX12_redo_10 : decode cX12_redo 10 = .ok (.ifCond .eq 20, 3) := by decide +kernel
theorem dX12_redo_13 : decode cX12_redo 13 = .ok (.aload_n 0, 1) := by decide +kernel
theorem dX12_redo_14 : decode cX12_redo 14 = .ok (.getfield 99, 3) := by decide +kernel
theorem dX12_redo_17 : decode cX12_redo 17 = .ok (.iload_n 1, 1) := by decide +kernel
theorem dX12_redo_18 : decode cX12_redo 18 = .ok (.iaload, 1) := by decide +kernel
theorem dX12_redo_19 : decode cX12_redo 19 = .ok (.ifCond .ge 11, 3) := by decide +kernel
theorem dX12_redo_22 : decode cX12_redo 22 = .ok (.aload_n 0, 1) := by decide +kernel
theorem dX12_redo_23 : decode cX12_redo 23 = .ok (.iload_n 1, 1) := by decide +kernel
theorem dX12_redo_24 : decode cX12_redo 24 = .ok (.invokevirtual 425, 3) := by decide +kernel
theorem dX12_redo_27 : decode cX12_redo 27 = .ok (.ifCond .ne 5, 3) := by decide +kernel
theorem dX12_redo_30 : decode cX12_redo 30 = .ok (.iconst 0, 1) := by decide +kernel
theorem dX12_redo_31 : decode cX12_redo 31 = .ok (.ireturn, 1) := by decide +kernel
theorem dX12_redo_32 : decode cX12_redo 32 = .ok (.aload_n 0, 1) := by decide +kernel
theorem dX12_redo_33 : decode cX12_redo 33 = .ok (.getfield 96, 3) := by decide +kernel
theorem dX12_redo_36 : decode cX12_redo 36 = .ok (.iload_n 1, 1) := by decide +kernel
theorem dX12_redo_37 : decode cX12_redo 37 = .ok (.aload_n 0, 1) := by decide +kernel
theorem dX12_redo_38 : decode cX12_redo 38 = .ok (.getfield 327, 3) := by decide +kernel
theorem dX12_redo_41 : decode cX12_redo 41 = .ok (.iastore, 1) := by decide +kernel
theorem dX12_redo_42 : decode cX12_redo 42 = .ok (.iconst 1, 1) := by decide +kernel
theorem dX12_redo_43 : decode cX12_redo 43 = .ok (.ireturn, 1) := by decide +kernel
theorem dX12_cellsThat_0 : decode cX12_cellsThat 0 = .ok (.aload_n 0, 1) := by decide +kernel
theorem dX12_cellsThat_1 : decode cX12_cellsThat 1 = .ok (.invokevirtual 351, 3) := by decide +kernel
theorem dX12_cellsThat_4 : decode cX12_cellsThat 4 = .ok (.iconst 0, 1) := by decide +kernel
theorem dX12_cellsThat_5 : decode cX12_cellsThat 5 = .ok (.istore_n 2, 1) := by decide +kernel
theorem dX12_cellsThat_6 : decode cX12_cellsThat 6 = .ok (.iconst 0, 1) := by decide +kernel
theorem dX12_cellsThat_7 : decode cX12_cellsThat 7 = .ok (.istore_n 3, 1) := by decide +kernel
theorem dX12_cellsThat_8 : decode cX12_cellsThat 8 = .ok (.iload_n 3, 1) := by decide +kernel
theorem dX12_cellsThat_9 : decode cX12_cellsThat 9 = .ok (.sipush 192, 3) := by decide +kernel
theorem dX12_cellsThat_12 : decode cX12_cellsThat 12 = .ok (.if_icmp .ge 100, 3) := by decide +kernel
theorem dX12_cellsThat_15 : decode cX12_cellsThat 15 = .ok (.iload_n 1, 1) := by decide +kernel
theorem dX12_cellsThat_16 : decode cX12_cellsThat 16 = .ok (.iconst 3, 1) := by decide +kernel
theorem dX12_cellsThat_17 : decode cX12_cellsThat 17 = .ok (.if_icmp .ne 34, 3) := by decide +kernel
theorem dX12_cellsThat_20 : decode cX12_cellsThat 20 = .ok (.iload_n 2, 1) := by decide +kernel
theorem dX12_cellsThat_21 : decode cX12_cellsThat 21 = .ok (.aload_n 0, 1) := by decide +kernel
theorem dX12_cellsThat_22 : decode cX12_cellsThat 22 = .ok (.getfield 84, 3) := by decide +kernel
theorem dX12_cellsThat_25 : decode cX12_cellsThat 25 = .ok (.iload_n 3, 1) := by decide +kernel
theorem dX12_cellsThat_26 : decode cX12_cellsThat 26 = .ok (.iaload, 1) := by decide +kernel
theorem dX12_cellsThat_27 : decode cX12_cellsThat 27 = .ok (.ifCond .lt 18, 3) := by decide +kernel
theorem dX12_cellsThat_30 : decode cX12_cellsThat 30 = .ok (.aload_n 0, 1) := by decide +kernel
theorem dX12_cellsThat_31 : decode cX12_cellsThat 31 = .ok (.getfield 114, 3) := by decide +kernel
theorem dX12_cellsThat_34 : decode cX12_cellsThat 34 = .ok (.iload_n 3, 1) := by decide +kernel
theorem dX12_cellsThat_35 : decode cX12_cellsThat 35 = .ok (.iaload, 1) := by decide +kernel
theorem dX12_cellsThat_36 : decode cX12_cellsThat 36 = .ok (.bipush (-2), 2) := by decide +kernel
theorem dX12_cellsThat_38 : decode cX12_cellsThat 38 = .ok (.if_icmp .ne 7, 3) := by decide +kernel
theorem dX12_cellsThat_41 : decode cX12_cellsThat 41 = .ok (.iconst 1, 1) := by decide +kernel
theorem dX12_cellsThat_42 : decode cX12_cellsThat 42 = .ok (.goto 4, 3) := by decide +kernel
theorem dX12_cellsThat_45 : decode cX12_cellsThat 45 = .ok (.iconst 0, 1) := by decide +kernel
theorem dX12_cellsThat_46 : decode cX12_cellsThat 46 = .ok (.iadd, 1) := by decide +kernel
theorem dX12_cellsThat_47 : decode cX12_cellsThat 47 = .ok (.istore_n 2, 1) := by decide +kernel
theorem dX12_cellsThat_48 : decode cX12_cellsThat 48 = .ok (.goto 58, 3) := by decide +kernel
theorem dX12_cellsThat_51 : decode cX12_cellsThat 51 = .ok (.iload_n 1, 1) := by decide +kernel
theorem dX12_cellsThat_52 : decode cX12_cellsThat 52 = .ok (.iconst 4, 1) := by decide +kernel
theorem dX12_cellsThat_53 : decode cX12_cellsThat 53 = .ok (.if_icmp .ne 31, 3) := by decide +kernel
theorem dX12_cellsThat_56 : decode cX12_cellsThat 56 = .ok (.iload_n 2, 1) := by decide +kernel
theorem dX12_cellsThat_57 : decode cX12_cellsThat 57 = .ok (.iload_n 3, 1) := by decide +kernel
theorem dX12_cellsThat_58 : decode cX12_cellsThat 58 = .ok (.bipush 16, 2) := by decide +kernel
theorem dX12_cellsThat_60 : decode cX12_cellsThat 60 = .ok (.irem, 1) := by decide +kernel
theorem dX12_cellsThat_61 : decode cX12_cellsThat 61 = .ok (.bipush 8, 2) := by decide +kernel
theorem dX12_cellsThat_63 : decode cX12_cellsThat 63 = .ok (.if_icmp .ge 15, 3) := by decide +kernel
theorem dX12_cellsThat_66 : decode cX12_cellsThat 66 = .ok (.aload_n 0, 1) := by decide +kernel
theorem dX12_cellsThat_67 : decode cX12_cellsThat 67 = .ok (.iload_n 3, 1) := by decide +kernel
theorem dX12_cellsThat_68 : decode cX12_cellsThat 68 = .ok (.invokevirtual 413, 3) := by decide +kernel
theorem dX12_cellsThat_71 : decode cX12_cellsThat 71 = .ok (.ifCond .eq 7, 3) := by decide +kernel
theorem dX12_cellsThat_74 : decode cX12_cellsThat 74 = .ok (.iconst 1, 1) := by decide +kernel
theorem dX12_cellsThat_75 : decode cX12_cellsThat 75 = .ok (.goto 4, 3) := by decide +kernel
theorem dX12_cellsThat_78 : decode cX12_cellsThat 78 = .ok (.iconst 0, 1) := by decide +kernel
theorem dX12_cellsThat_79 : decode cX12_cellsThat 79 = .ok (.iadd, 1) := by decide +kernel
theorem dX12_cellsThat_80 : decode cX12_cellsThat 80 = .ok (.istore_n 2, 1) := by decide +kernel
theorem dX12_cellsThat_81 : decode cX12_cellsThat 81 = .ok (.goto 25, 3) := by decide +kernel
theorem dX12_cellsThat_84 : decode cX12_cellsThat 84 = .ok (.iload_n 2, 1) := by decide +kernel
theorem dX12_cellsThat_85 : decode cX12_cellsThat 85 = .ok (.aload_n 0, 1) := by decide +kernel
theorem dX12_cellsThat_86 : decode cX12_cellsThat 86 = .ok (.getfield 84, 3) := by decide +kernel
theorem dX12_cellsThat_89 : decode cX12_cellsThat 89 = .ok (.iload_n 3, 1) := by decide +kernel
theorem dX12_cellsThat_90 : decode cX12_cellsThat 90 = .ok (.iaload, 1) := by decide +kernel
theorem dX12_cellsThat_91 : decode cX12_cellsThat 91 = .ok (.ifCond .le 12, 3) := by decide +kernel
theorem dX12_cellsThat_94 : decode cX12_cellsThat 94 = .ok (.aload_n 0, 1) := by decide +kernel
theorem dX12_cellsThat_95 : decode cX12_cellsThat 95 = .ok (.getfield 84, 3) := by decide +kernel
theorem dX12_cellsThat_98 : decode cX12_cellsThat 98 = .ok (.iload_n 3, 1) := by decide +kernel
theorem dX12_cellsThat_99 : decode cX12_cellsThat 99 = .ok (.iaload, 1) := by decide +kernel
theorem dX12_cellsThat_100 : decode cX12_cellsThat 100 = .ok (.goto 4, 3) := by decide +kernel
theorem dX12_cellsThat_103 : decode cX12_cellsThat 103 = .ok (.iconst 0, 1) := by decide +kernel
theorem dX12_cellsThat_104 : decode cX12_cellsThat 104 = .ok (.iadd, 1) := by decide +kernel
theorem dX12_cellsThat_105 : decode cX12_cellsThat 105 = .ok (.istore_n 2, 1) := by decide +kernel
theorem dX12_cellsThat_106 : decode cX12_cellsThat 106 = .ok (.iinc 3 1, 3) := by decide +kernel
theorem dX12_cellsThat_109 : decode cX12_cellsThat 109 = .ok (.goto (-101), 3) := by decide +kernel
theorem dX12_cellsThat_112 : decode cX12_cellsThat 112 = .ok (.iload_n 2, 1) := by decide +kernel
theorem dX12_cellsThat_113 : decode cX12_cellsThat 113 = .ok (.ireturn, 1) := by decide +kernel
theorem dX12_allWeights_0 : decode cX12_allWeights 0 = .ok (.iconst 0, 1) := by decide +kernel
theorem dX12_allWeights_1 : decode cX12_allWeights 1 = .ok (.istore_n 1, 1) := by decide +kernel
theorem dX12_allWeights_2 : decode cX12_allWeights 2 = .ok (.iconst 0, 1) := by decide +kernel
theorem dX12_allWeights_3 : decode cX12_allWeights 3 = .ok (.istore_n 2, 1) := by decide +kernel
theorem dX12_allWeights_4 : decode cX12_allWeights 4 = .ok (.iload_n 2, 1) := by decide +kernel
theorem dX12_allWeights_5 : decode cX12_allWeights 5 = .ok (.aload_n 0, 1) := by decide +kernel
theorem dX12_allWeights_6 : decode cX12_allWeights 6 = .ok (.getfield 256, 3) := by decide +kernel
theorem dX12_allWeights_9 : decode cX12_allWeights 9 = .ok (.if_icmp .ge 17, 3) := by decide +kernel
theorem dX12_allWeights_12 : decode cX12_allWeights 12 = .ok (.iload_n 1, 1) := by decide +kernel
theorem dX12_allWeights_13 : decode cX12_allWeights 13 = .ok (.aload_n 0, 1) := by decide +kernel
theorem dX12_allWeights_14 : decode cX12_allWeights 14 = .ok (.iload_n 2, 1) := by decide +kernel
theorem dX12_allWeights_15 : decode cX12_allWeights 15 = .ok (.invokevirtual 416, 3) := by decide +kernel
theorem dX12_allWeights_18 : decode cX12_allWeights 18 = .ok (.iadd, 1) := by decide +kernel
theorem dX12_allWeights_19 : decode cX12_allWeights 19 = .ok (.istore_n 1, 1) := by decide +kernel
theorem dX12_allWeights_20 : decode cX12_allWeights 20 = .ok (.iinc 2 1, 3) := by decide +kernel
theorem dX12_allWeights_23 : decode cX12_allWeights 23 = .ok (.goto (-19), 3) := by decide +kernel
theorem dX12_allWeights_26 : decode cX12_allWeights 26 = .ok (.iload_n 1, 1) := by decide +kernel
theorem dX12_allWeights_27 : decode cX12_allWeights 27 = .ok (.ireturn, 1) := by decide +kernel
theorem dX12_count_0 : decode cX12_count 0 = .ok (.aload_n 0, 1) := by decide +kernel
theorem dX12_count_1 : decode cX12_count 1 = .ok (.iconst 0, 1) := by decide +kernel
theorem dX12_count_2 : decode cX12_count 2 = .ok (.putfield 1, 3) := by decide +kernel
theorem dX12_count_5 : decode cX12_count 5 = .ok (.iload_n 1, 1) := by decide +kernel
theorem dX12_count_6 : decode cX12_count 6 = .ok (.tableswitch 122 0 12 #[66, 71, 76, 81, 81, 81, 87, 92, 97, 102, 107, 112, 117], 66) := by decide +kernel
theorem dX12_count_72 : decode cX12_count 72 = .ok (.aload_n 0, 1) := by decide +kernel
theorem dX12_count_73 : decode cX12_count 73 = .ok (.getfield 253, 3) := by decide +kernel
theorem dX12_count_76 : decode cX12_count 76 = .ok (.ireturn, 1) := by decide +kernel
theorem dX12_count_77 : decode cX12_count 77 = .ok (.aload_n 0, 1) := by decide +kernel
theorem dX12_count_78 : decode cX12_count 78 = .ok (.getfield 256, 3) := by decide +kernel
theorem dX12_count_81 : decode cX12_count 81 = .ok (.ireturn, 1) := by decide +kernel
theorem dX12_count_82 : decode cX12_count 82 = .ok (.aload_n 0, 1) := by decide +kernel
theorem dX12_count_83 : decode cX12_count 83 = .ok (.invokevirtual 345, 3) := by decide +kernel
theorem dX12_count_86 : decode cX12_count 86 = .ok (.ireturn, 1) := by decide +kernel
theorem dX12_count_87 : decode cX12_count 87 = .ok (.aload_n 0, 1) := by decide +kernel
theorem dX12_count_88 : decode cX12_count 88 = .ok (.iload_n 1, 1) := by decide +kernel
theorem dX12_count_89 : decode cX12_count 89 = .ok (.invokevirtual 440, 3) := by decide +kernel
theorem dX12_count_92 : decode cX12_count 92 = .ok (.ireturn, 1) := by decide +kernel
theorem dX12_count_93 : decode cX12_count 93 = .ok (.aload_n 0, 1) := by decide +kernel
theorem dX12_count_94 : decode cX12_count 94 = .ok (.invokevirtual 443, 3) := by decide +kernel
theorem dX12_count_97 : decode cX12_count 97 = .ok (.ireturn, 1) := by decide +kernel
theorem dX12_count_98 : decode cX12_count 98 = .ok (.aload_n 0, 1) := by decide +kernel
theorem dX12_count_99 : decode cX12_count 99 = .ok (.getfield 407, 3) := by decide +kernel
theorem dX12_count_102 : decode cX12_count 102 = .ok (.ireturn, 1) := by decide +kernel
theorem dX12_count_103 : decode cX12_count 103 = .ok (.aload_n 0, 1) := by decide +kernel
theorem dX12_count_104 : decode cX12_count 104 = .ok (.getfield 273, 3) := by decide +kernel
theorem dX12_count_107 : decode cX12_count 107 = .ok (.ireturn, 1) := by decide +kernel
theorem dX12_count_108 : decode cX12_count 108 = .ok (.aload_n 0, 1) := by decide +kernel
theorem dX12_count_109 : decode cX12_count 109 = .ok (.getfield 327, 3) := by decide +kernel
theorem dX12_count_112 : decode cX12_count 112 = .ok (.ireturn, 1) := by decide +kernel
theorem dX12_count_113 : decode cX12_count 113 = .ok (.aload_n 0, 1) := by decide +kernel
theorem dX12_count_114 : decode cX12_count 114 = .ok (.getfield 165, 3) := by decide +kernel
theorem dX12_count_117 : decode cX12_count 117 = .ok (.ireturn, 1) := by decide +kernel
theorem dX12_count_118 : decode cX12_count 118 = .ok (.aload_n 0, 1) := by decide +kernel
theorem dX12_count_119 : decode cX12_count 119 = .ok (.getfield 11, 3) := by decide +kernel
theorem dX12_count_122 : decode cX12_count 122 = .ok (.ireturn, 1) := by decide +kernel
theorem dX12_count_123 : decode cX12_count 123 = .ok (.aload_n 0, 1) := by decide +kernel
theorem dX12_count_124 : decode cX12_count 124 = .ok (.getfield 357, 3) := by decide +kernel
theorem dX12_count_127 : decode cX12_count 127 = .ok (.ireturn, 1) := by decide +kernel
theorem dX12_count_128 : decode cX12_count 128 = .ok (.iconst (-1), 1) := by decide +kernel
theorem dX12_count_129 : decode cX12_count 129 = .ok (.ireturn, 1) := by decide +kernel
theorem dJ7_fill_53178_0 : decode cJ7_fill_53178 0 = .ok (.iconst 0, 1) := by decide +kernel
theorem dJ7_fill_53178_1 : decode cJ7_fill_53178 1 = .ok (.istore_n 2, 1) := by decide +kernel
theorem dJ7_fill_53178_2 : decode cJ7_fill_53178 2 = .ok (.aload_n 0, 1) := by decide +kernel
theorem dJ7_fill_53178_3 : decode cJ7_fill_53178 3 = .ok (.arraylength, 1) := by decide +kernel
theorem dJ7_fill_53178_4 : decode cJ7_fill_53178 4 = .ok (.istore_n 3, 1) := by decide +kernel
theorem dJ7_fill_53178_5 : decode cJ7_fill_53178 5 = .ok (.iload_n 2, 1) := by decide +kernel
theorem dJ7_fill_53178_6 : decode cJ7_fill_53178 6 = .ok (.iload_n 3, 1) := by decide +kernel
theorem dJ7_fill_53178_7 : decode cJ7_fill_53178 7 = .ok (.if_icmp .ge 13, 3) := by decide +kernel
theorem dJ7_fill_53178_10 : decode cJ7_fill_53178 10 = .ok (.aload_n 0, 1) := by decide +kernel
theorem dJ7_fill_53178_11 : decode cJ7_fill_53178 11 = .ok (.iload_n 2, 1) := by decide +kernel
theorem dJ7_fill_53178_12 : decode cJ7_fill_53178 12 = .ok (.iload_n 1, 1) := by decide +kernel
theorem dJ7_fill_53178_13 : decode cJ7_fill_53178 13 = .ok (.iastore, 1) := by decide +kernel
theorem dJ7_fill_53178_14 : decode cJ7_fill_53178 14 = .ok (.iinc 2 1, 3) := by decide +kernel
theorem dJ7_fill_53178_17 : decode cJ7_fill_53178 17 = .ok (.goto (-12), 3) := by decide +kernel
theorem dJ7_fill_53178_20 : decode cJ7_fill_53178 20 = .ok (.return_, 1) := by decide +kernel
theorem dL_strand_0 : decode cL_strand 0 = .ok (.aload 4, 2) := by decide +kernel
theorem dL_strand_2 : decode cL_strand 2 = .ok (.iconst 0, 1) := by decide +kernel
theorem dL_strand_3 : decode cL_strand 3 = .ok (.aload_n 0, 1) := by decide +kernel
theorem dL_strand_4 : decode cL_strand 4 = .ok (.iload_n 1, 1) := by decide +kernel
theorem dL_strand_5 : decode cL_strand 5 = .ok (.iload_n 2, 1) := by decide +kernel
theorem dL_strand_6 : decode cL_strand 6 = .ok (.iload_n 3, 1) := by decide +kernel
theorem dL_strand_7 : decode cL_strand 7 = .ok (.invokevirtual 7, 3) := by decide +kernel
theorem dL_strand_10 : decode cL_strand 10 = .ok (.i2l, 1) := by decide +kernel
theorem dL_strand_11 : decode cL_strand 11 = .ok (.lastore, 1) := by decide +kernel
theorem dL_strand_12 : decode cL_strand 12 = .ok (.goto 7, 3) := by decide +kernel
theorem dL_strand_15 : decode cL_strand 15 = .ok (.astore 5, 2) := by decide +kernel
theorem dL_strand_17 : decode cL_strand 17 = .ok (.iconst 1, 1) := by decide +kernel
theorem dL_strand_18 : decode cL_strand 18 = .ok (.ireturn, 1) := by decide +kernel
theorem dL_strand_19 : decode cL_strand 19 = .ok (.iconst 0, 1) := by decide +kernel
theorem dL_strand_20 : decode cL_strand 20 = .ok (.ireturn, 1) := by decide +kernel
theorem dL_look_0 : decode cL_look 0 = .ok (.aload 4, 2) := by decide +kernel
theorem dL_look_2 : decode cL_look 2 = .ok (.iconst 0, 1) := by decide +kernel
theorem dL_look_3 : decode cL_look 3 = .ok (.aload_n 0, 1) := by decide +kernel
theorem dL_look_4 : decode cL_look 4 = .ok (.iload_n 1, 1) := by decide +kernel
theorem dL_look_5 : decode cL_look 5 = .ok (.iload_n 2, 1) := by decide +kernel
theorem dL_look_6 : decode cL_look 6 = .ok (.iload_n 3, 1) := by decide +kernel
theorem dL_look_7 : decode cL_look 7 = .ok (.invokevirtual 15, 3) := by decide +kernel
theorem dL_look_10 : decode cL_look 10 = .ok (.i2l, 1) := by decide +kernel
theorem dL_look_11 : decode cL_look 11 = .ok (.lastore, 1) := by decide +kernel
theorem dL_look_12 : decode cL_look 12 = .ok (.goto 7, 3) := by decide +kernel
theorem dL_look_15 : decode cL_look 15 = .ok (.astore 5, 2) := by decide +kernel
theorem dL_look_17 : decode cL_look 17 = .ok (.iconst 1, 1) := by decide +kernel
theorem dL_look_18 : decode cL_look 18 = .ok (.ireturn, 1) := by decide +kernel
theorem dL_look_19 : decode cL_look 19 = .ok (.iconst 0, 1) := by decide +kernel
theorem dL_look_20 : decode cL_look 20 = .ok (.ireturn, 1) := by decide +kernel
theorem dL_law_0 : decode cL_law 0 = .ok (.new 8, 3) := by decide +kernel
theorem dL_law_3 : decode cL_law 3 = .ok (.dup, 1) := by decide +kernel
theorem dL_law_4 : decode cL_law 4 = .ok (.invokespecial 18, 3) := by decide +kernel
theorem dL_law_7 : decode cL_law 7 = .ok (.astore_n 1, 1) := by decide +kernel
theorem dL_law_8 : decode cL_law 8 = .ok (.new 19, 3) := by decide +kernel
theorem dL_law_11 : decode cL_law 11 = .ok (.dup, 1) := by decide +kernel
theorem dL_law_12 : decode cL_law 12 = .ok (.invokespecial 21, 3) := by decide +kernel
theorem dL_law_15 : decode cL_law 15 = .ok (.astore_n 2, 1) := by decide +kernel
theorem dL_law_16 : decode cL_law 16 = .ok (.iconst 1, 1) := by decide +kernel
theorem dL_law_17 : decode cL_law 17 = .ok (.newarray .long, 2) := by decide +kernel
theorem dL_law_19 : decode cL_law 19 = .ok (.astore_n 3, 1) := by decide +kernel
theorem dL_law_20 : decode cL_law 20 = .ok (.iconst 0, 1) := by decide +kernel
theorem dL_law_21 : decode cL_law 21 = .ok (.istore 4, 2) := by decide +kernel
theorem dL_law_23 : decode cL_law 23 = .ok (.iload 4, 2) := by decide +kernel
theorem dL_law_25 : decode cL_law 25 = .ok (.aload_n 0, 1) := by decide +kernel
theorem dL_law_26 : decode cL_law 26 = .ok (.arraylength, 1) := by decide +kernel
theorem dL_law_27 : decode cL_law 27 = .ok (.bipush 7, 2) := by decide +kernel
theorem dL_law_29 : decode cL_law 29 = .ok (.isub, 1) := by decide +kernel
theorem dL_law_30 : decode cL_law 30 = .ok (.if_icmp .gt 1150, 3) := by decide +kernel
theorem dL_law_33 : decode cL_law 33 = .ok (.aload_n 0, 1) := by decide +kernel
theorem dL_law_34 : decode cL_law 34 = .ok (.iload 4, 2) := by decide +kernel
theorem dL_law_36 : decode cL_law 36 = .ok (.iaload, 1) := by decide +kernel
theorem dL_law_37 : decode cL_law 37 = .ok (.bipush 31, 2) := by decide +kernel
theorem dL_law_39 : decode cL_law 39 = .ok (.iand, 1) := by decide +kernel
theorem dL_law_40 : decode cL_law 40 = .ok (.tableswitch 1134 0 25 #[120, 169, 194, 341, 354, 367, 404, 441, 490, 527, 607, 668, 693, 718, 743, 792, 872, 897, 946, 971, 996, 1009, 1034, 1059, 1084, 1109], 120) := by decide +kernel
theorem dL_law_160 : decode cL_law 160 = .ok (.aload_n 1, 1) := by decide +kernel
theorem dL_law_161 : decode cL_law 161 = .ok (.aload_n 0, 1) := by decide +kernel
theorem dL_law_162 : decode cL_law 162 = .ok (.iload 4, 2) := by decide +kernel
theorem dL_law_164 : decode cL_law 164 = .ok (.iconst 1, 1) := by decide +kernel
theorem dL_law_165 : decode cL_law 165 = .ok (.iadd, 1) := by decide +kernel
theorem dL_law_166 : decode cL_law 166 = .ok (.iaload, 1) := by decide +kernel
theorem dL_law_167 : decode cL_law 167 = .ok (.aload_n 0, 1) := by decide +kernel
theorem dL_law_168 : decode cL_law 168 = .ok (.iload 4, 2) := by decide +kernel
theorem dL_law_170 : decode cL_law 170 = .ok (.iconst 2, 1) := by decide +kernel
theorem dL_law_171 : decode cL_law 171 = .ok (.iadd, 1) := by decide +kernel
theorem dL_law_172 : decode cL_law 172 = .ok (.iaload, 1) := by decide +kernel
theorem dL_law_173 : decode cL_law 173 = .ok (.aload_n 0, 1) := by decide +kernel
theorem dL_law_174 : decode cL_law 174 = .ok (.iload 4, 2) := by decide +kernel
theorem dL_law_176 : decode cL_law 176 = .ok (.iconst 3, 1) := by decide +kernel
theorem dL_law_177 : decode cL_law 177 = .ok (.iadd, 1) := by decide +kernel
theorem dL_law_178 : decode cL_law 178 = .ok (.iaload, 1) := by decide +kernel
theorem dL_law_179 : decode cL_law 179 = .ok (.invokevirtual 22, 3) := by decide +kernel
theorem dL_law_182 : decode cL_law 182 = .ok (.aload_n 2, 1) := by decide +kernel
theorem dL_law_183 : decode cL_law 183 = .ok (.aload_n 0, 1) := by decide +kernel
theorem dL_law_184 : decode cL_law 184 = .ok (.iload 4, 2) := by decide +kernel
theorem dL_law_186 : decode cL_law 186 = .ok (.iconst 1, 1) := by decide +kernel
theorem dL_law_187 : decode cL_law 187 = .ok (.iadd, 1) := by decide +kernel
theorem dL_law_188 : decode cL_law 188 = .ok (.iaload, 1) := by decide +kernel
theorem dL_law_189 : decode cL_law 189 = .ok (.aload_n 0, 1) := by decide +kernel
theorem dL_law_190 : decode cL_law 190 = .ok (.iload 4, 2) := by decide +kernel
theorem dL_law_192 : decode cL_law 192 = .ok (.iconst 2, 1) := by decide +kernel
theorem dL_law_193 : decode cL_law 193 = .ok (.iadd, 1) := by decide +kernel
theorem dL_law_194 : decode cL_law 194 = .ok (.iaload, 1) := by decide +kernel
theorem dL_law_195 : decode cL_law 195 = .ok (.aload_n 0, 1) := by decide +kernel
theorem dL_law_196 : decode cL_law 196 = .ok (.iload 4, 2) := by decide +kernel
theorem dL_law_198 : decode cL_law 198 = .ok (.iconst 3, 1) := by decide +kernel
theorem dL_law_199 : decode cL_law 199 = .ok (.iadd, 1) := by decide +kernel
theorem dL_law_200 : decode cL_law 200 = .ok (.iaload, 1) := by decide +kernel
theorem dL_law_201 : decode cL_law 201 = .ok (.invokevirtual 26, 3) := by decide +kernel
theorem dL_law_204 : decode cL_law 204 = .ok (.if_icmp .eq 970, 3) := by decide +kernel
theorem dL_law_207 : decode cL_law 207 = .ok (.iconst 0, 1) := by decide +kernel
theorem dL_law_208 : decode cL_law 208 = .ok (.ireturn, 1) := by decide +kernel
theorem dL_law_209 : decode cL_law 209 = .ok (.aload_n 1, 1) := by decide +kernel
theorem dL_law_210 : decode cL_law 210 = .ok (.aload_n 0, 1) := by decide +kernel
theorem dL_law_211 : decode cL_law 211 = .ok (.iload 4, 2) := by decide +kernel
theorem dL_law_213 : decode cL_law 213 = .ok (.iconst 1, 1) := by decide +kernel
theorem dL_law_214 : decode cL_law 214 = .ok (.iadd, 1) := by decide +kernel
theorem dL_law_215 : decode cL_law 215 = .ok (.iaload, 1) := by decide +kernel
theorem dL_law_216 : decode cL_law 216 = .ok (.invokevirtual 27, 3) := by decide +kernel
theorem dL_law_219 : decode cL_law 219 = .ok (.aload_n 2, 1) := by decide +kernel
theorem dL_law_220 : decode cL_law 220 = .ok (.aload_n 0, 1) := by decide +kernel
theorem dL_law_221 : decode cL_law 221 = .ok (.iload 4, 2) := by decide +kernel
theorem dL_law_223 : decode cL_law 223 = .ok (.iconst 1, 1) := by decide +kernel
theorem dL_law_224 : decode cL_law 224 = .ok (.iadd, 1) := by decide +kernel
theorem dL_law_225 : decode cL_law 225 = .ok (.iaload, 1) := by decide +kernel
theorem dL_law_226 : decode cL_law 226 = .ok (.invokevirtual 31, 3) := by decide +kernel
theorem dL_law_229 : decode cL_law 229 = .ok (.if_icmp .eq 945, 3) := by decide +kernel
theorem dL_law_232 : decode cL_law 232 = .ok (.iconst 0, 1) := by decide +kernel
theorem dL_law_233 : decode cL_law 233 = .ok (.ireturn, 1) := by decide +kernel
theorem dL_law_234 : decode cL_law 234 = .ok (.aload_n 1, 1) := by decide +kernel
theorem dL_law_235 : decode cL_law 235 = .ok (.aload_n 0, 1) := by decide +kernel
theorem dL_law_236 : decode cL_law 236 = .ok (.iload 4, 2) := by decide +kernel
theorem dL_law_238 : decode cL_law 238 = .ok (.iconst 1, 1) := by decide +kernel
theorem dL_law_239 : decode cL_law 239 = .ok (.iadd, 1) := by decide +kernel
theorem dL_law_240 : decode cL_law 240 = .ok (.iaload, 1) := by decide +kernel
theorem dL_law_241 : decode cL_law 241 = .ok (.i2l, 1) := by decide +kernel
theorem dL_law_242 : decode cL_law 242 = .ok (.bipush 32, 2) := by decide +kernel
theorem dL_law_244 : decode cL_law 244 = .ok (.lshl, 1) := by decide +kernel
theorem dL_law_245 : decode cL_law 245 = .ok (.aload_n 0, 1) := by decide +kernel
theorem dL_law_246 : decode cL_law 246 = .ok (.iload 4, 2) := by decide +kernel
theorem dL_law_248 : decode cL_law 248 = .ok (.iconst 2, 1) := by decide +kernel
theorem dL_law_249 : decode cL_law 249 = .ok (.iadd, 1) := by decide +kernel
theorem dL_law_250 : decode cL_law 250 = .ok (.iaload, 1) := by decide +kernel
theorem dL_law_251 : decode cL_law 251 = .ok (.i2l, 1) := by decide +kernel
theorem dL_law_252 : decode cL_law 252 = .ok (.ldc2_w 32, 3) := by decide +kernel
theorem dL_law_255 : decode cL_law 255 = .ok (.land, 1) := by decide +kernel
theorem dL_law_256 : decode cL_law 256 = .ok (.lor, 1) := by decide +kernel
theorem dL_law_257 : decode cL_law 257 = .ok (.aload_n 0, 1) := by decide +kernel
theorem dL_law_258 : decode cL_law 258 = .ok (.iload 4, 2) := by decide +kernel
theorem dL_law_260 : decode cL_law 260 = .ok (.iconst 3, 1) := by decide +kernel
theorem dL_law_261 : decode cL_law 261 = .ok (.iadd, 1) := by decide +kernel
theorem dL_law_262 : decode cL_law 262 = .ok (.iaload, 1) := by decide +kernel
theorem dL_law_263 : decode cL_law 263 = .ok (.i2l, 1) := by decide +kernel
theorem dL_law_264 : decode cL_law 264 = .ok (.bipush 32, 2) := by decide +kernel
theorem dL_law_266 : decode cL_law 266 = .ok (.lshl, 1) := by decide +kernel
theorem dL_law_267 : decode cL_law 267 = .ok (.aload_n 0, 1) := by decide +kernel
theorem dL_law_268 : decode cL_law 268 = .ok (.iload 4, 2) := by decide +kernel
theorem dL_law_270 : decode cL_law 270 = .ok (.iconst 4, 1) := by decide +kernel
theorem dL_law_271 : decode cL_law 271 = .ok (.iadd, 1) := by decide +kernel
theorem dL_law_272 : decode cL_law 272 = .ok (.iaload, 1) := by decide +kernel
theorem dL_law_273 : decode cL_law 273 = .ok (.i2l, 1) := by decide +kernel
theorem dL_law_274 : decode cL_law 274 = .ok (.ldc2_w 32, 3) := by decide +kernel
theorem dL_law_277 : decode cL_law 277 = .ok (.land, 1) := by decide +kernel
theorem dL_law_278 : decode cL_law 278 = .ok (.lor, 1) := by decide +kernel
theorem dL_law_279 : decode cL_law 279 = .ok (.aload_n 0, 1) := by decide +kernel
theorem dL_law_280 : decode cL_law 280 = .ok (.iload 4, 2) := by decide +kernel
theorem dL_law_282 : decode cL_law 282 = .ok (.iconst 5, 1) := by decide +kernel
theorem dL_law_283 : decode cL_law 283 = .ok (.iadd, 1) := by decide +kernel
theorem dL_law_284 : decode cL_law 284 = .ok (.iaload, 1) := by decide +kernel
theorem dL_law_285 : decode cL_law 285 = .ok (.i2l, 1) := by decide +kernel
theorem dL_law_286 : decode cL_law 286 = .ok (.bipush 32, 2) := by decide +kernel
theorem dL_law_288 : decode cL_law 288 = .ok (.lshl, 1) := by decide +kernel
theorem dL_law_289 : decode cL_law 289 = .ok (.aload_n 0, 1) := by decide +kernel
theorem dL_law_290 : decode cL_law 290 = .ok (.iload 4, 2) := by decide +kernel
theorem dL_law_292 : decode cL_law 292 = .ok (.bipush 6, 2) := by decide +kernel
theorem dL_law_294 : decode cL_law 294 = .ok (.iadd, 1) := by decide +kernel
theorem dL_law_295 : decode cL_law 295 = .ok (.iaload, 1) := by decide +kernel
theorem dL_law_296 : decode cL_law 296 = .ok (.i2l, 1) := by decide +kernel
theorem dL_law_297 : decode cL_law 297 = .ok (.ldc2_w 32, 3) := by decide +kernel
theorem dL_law_300 : decode cL_law 300 = .ok (.land, 1) := by decide +kernel
theorem dL_law_301 : decode cL_law 301 = .ok (.lor, 1) := by decide +kernel
theorem dL_law_302 : decode cL_law 302 = .ok (.invokevirtual 34, 3) := by decide +kernel
theorem dL_law_305 : decode cL_law 305 = .ok (.aload_n 2, 1) := by decide +kernel
theorem dL_law_306 : decode cL_law 306 = .ok (.aload_n 0, 1) := by decide +kernel
theorem dL_law_307 : decode cL_law 307 = .ok (.iload 4, 2) := by decide +kernel
theorem dL_law_309 : decode cL_law 309 = .ok (.iconst 1, 1) := by decide +kernel
theorem dL_law_310 : decode cL_law 310 = .ok (.iadd, 1) := by decide +kernel
theorem dL_law_311 : decode cL_law 311 = .ok (.iaload, 1) := by decide +kernel
theorem dL_law_312 : decode cL_law 312 = .ok (.i2l, 1) := by decide +kernel
theorem dL_law_313 : decode cL_law 313 = .ok (.bipush 32, 2) := by decide +kernel
theorem dL_law_315 : decode cL_law 315 = .ok (.lshl, 1) := by decide +kernel
theorem dL_law_316 : decode cL_law 316 = .ok (.aload_n 0, 1) := by decide +kernel
theorem dL_law_317 : decode cL_law 317 = .ok (.iload 4, 2) := by decide +kernel
theorem dL_law_319 : decode cL_law 319 = .ok (.iconst 2, 1) := by decide +kernel
theorem dL_law_320 : decode cL_law 320 = .ok (.iadd, 1) := by decide +kernel
theorem dL_law_321 : decode cL_law 321 = .ok (.iaload, 1) := by decide +kernel
theorem dL_law_322 : decode cL_law 322 = .ok (.i2l, 1) := by decide +kernel
theorem dL_law_323 : decode cL_law 323 = .ok (.ldc2_w 32, 3) := by decide +kernel
theorem dL_law_326 : decode cL_law 326 = .ok (.land, 1) := by decide +kernel
theorem dL_law_327 : decode cL_law 327 = .ok (.lor, 1) := by decide +kernel
theorem dL_law_328 : decode cL_law 328 = .ok (.aload_n 0, 1) := by decide +kernel
theorem dL_law_329 : decode cL_law 329 = .ok (.iload 4, 2) := by decide +kernel
theorem dL_law_331 : decode cL_law 331 = .ok (.iconst 3, 1) := by decide +kernel
theorem dL_law_332 : decode cL_law 332 = .ok (.iadd, 1) := by decide +kernel
theorem dL_law_333 : decode cL_law 333 = .ok (.iaload, 1) := by decide +kernel
theorem dL_law_334 : decode cL_law 334 = .ok (.i2l, 1) := by decide +kernel
theorem dL_law_335 : decode cL_law 335 = .ok (.bipush 32, 2) := by decide +kernel
theorem dL_law_337 : decode cL_law 337 = .ok (.lshl, 1) := by decide +kernel
theorem dL_law_338 : decode cL_law 338 = .ok (.aload_n 0, 1) := by decide +kernel
theorem dL_law_339 : decode cL_law 339 = .ok (.iload 4, 2) := by decide +kernel
theorem dL_law_341 : decode cL_law 341 = .ok (.iconst 4, 1) := by decide +kernel
theorem dL_law_342 : decode cL_law 342 = .ok (.iadd, 1) := by decide +kernel
theorem dL_law_343 : decode cL_law 343 = .ok (.iaload, 1) := by decide +kernel
theorem dL_law_344 : decode cL_law 344 = .ok (.i2l, 1) := by decide +kernel
theorem dL_law_345 : decode cL_law 345 = .ok (.ldc2_w 32, 3) := by decide +kernel
theorem dL_law_348 : decode cL_law 348 = .ok (.land, 1) := by decide +kernel
theorem dL_law_349 : decode cL_law 349 = .ok (.lor, 1) := by decide +kernel
theorem dL_law_350 : decode cL_law 350 = .ok (.aload_n 0, 1) := by decide +kernel
theorem dL_law_351 : decode cL_law 351 = .ok (.iload 4, 2) := by decide +kernel
theorem dL_law_353 : decode cL_law 353 = .ok (.iconst 5, 1) := by decide +kernel
theorem dL_law_354 : decode cL_law 354 = .ok (.iadd, 1) := by decide +kernel
theorem dL_law_355 : decode cL_law 355 = .ok (.iaload, 1) := by decide +kernel
theorem dL_law_356 : decode cL_law 356 = .ok (.i2l, 1) := by decide +kernel
theorem dL_law_357 : decode cL_law 357 = .ok (.bipush 32, 2) := by decide +kernel
theorem dL_law_359 : decode cL_law 359 = .ok (.lshl, 1) := by decide +kernel
theorem dL_law_360 : decode cL_law 360 = .ok (.aload_n 0, 1) := by decide +kernel
theorem dL_law_361 : decode cL_law 361 = .ok (.iload 4, 2) := by decide +kernel
theorem dL_law_363 : decode cL_law 363 = .ok (.bipush 6, 2) := by decide +kernel
theorem dL_law_365 : decode cL_law 365 = .ok (.iadd, 1) := by decide +kernel
theorem dL_law_366 : decode cL_law 366 = .ok (.iaload, 1) := by decide +kernel
theorem dL_law_367 : decode cL_law 367 = .ok (.i2l, 1) := by decide +kernel
theorem dL_law_368 : decode cL_law 368 = .ok (.ldc2_w 32, 3) := by decide +kernel
theorem dL_law_371 : decode cL_law 371 = .ok (.land, 1) := by decide +kernel
theorem dL_law_372 : decode cL_law 372 = .ok (.lor, 1) := by decide +kernel
theorem dL_law_373 : decode cL_law 373 = .ok (.invokevirtual 38, 3) := by decide +kernel
theorem dL_law_376 : decode cL_law 376 = .ok (.if_icmp .eq 798, 3) := by decide +kernel
theorem dL_law_379 : decode cL_law 379 = .ok (.iconst 0, 1) := by decide +kernel
theorem dL_law_380 : decode cL_law 380 = .ok (.ireturn, 1) := by decide +kernel
theorem dL_law_381 : decode cL_law 381 = .ok (.aload_n 1, 1) := by decide +kernel
theorem dL_law_382 : decode cL_law 382 = .ok (.invokevirtual 39, 3) := by decide +kernel
theorem dL_law_385 : decode cL_law 385 = .ok (.aload_n 2, 1) := by decide +kernel
theorem dL_law_386 : decode cL_law 386 = .ok (.invokevirtual 43, 3) := by decide +kernel
theorem dL_law_389 : decode cL_law 389 = .ok (.if_icmp .eq 785, 3) := by decide +kernel
theorem dL_law_392 : decode cL_law 392 = .ok (.iconst 0, 1) := by decide +kernel
theorem dL_law_393 : decode cL_law 393 = .ok (.ireturn, 1) := by decide +kernel
theorem dL_law_394 : decode cL_law 394 = .ok (.aload_n 1, 1) := by decide +kernel
theorem dL_law_395 : decode cL_law 395 = .ok (.invokevirtual 44, 3) := by decide +kernel
theorem dL_law_398 : decode cL_law 398 = .ok (.aload_n 2, 1) := by decide +kernel
theorem dL_law_399 : decode cL_law 399 = .ok (.invokevirtual 47, 3) := by decide +kernel
theorem dL_law_402 : decode cL_law 402 = .ok (.if_icmp .eq 772, 3) := by decide +kernel
theorem dL_law_405 : decode cL_law 405 = .ok (.iconst 0, 1) := by decide +kernel
theorem dL_law_406 : decode cL_law 406 = .ok (.ireturn, 1) := by decide +kernel
theorem dL_law_407 : decode cL_law 407 = .ok (.aload_n 1, 1) := by decide +kernel
theorem dL_law_408 : decode cL_law 408 = .ok (.aload_n 0, 1) := by decide +kernel
theorem dL_law_409 : decode cL_law 409 = .ok (.iload 4, 2) := by decide +kernel
theorem dL_law_411 : decode cL_law 411 = .ok (.iconst 1, 1) := by decide +kernel
theorem dL_law_412 : decode cL_law 412 = .ok (.iadd, 1) := by decide +kernel
theorem dL_law_413 : decode cL_law 413 = .ok (.iaload, 1) := by decide +kernel
theorem dL_law_414 : decode cL_law 414 = .ok (.aload_n 0, 1) := by decide +kernel
theorem dL_law_415 : decode cL_law 415 = .ok (.iload 4, 2) := by decide +kernel
theorem dL_law_417 : decode cL_law 417 = .ok (.iconst 2, 1) := by decide +kernel
theorem dL_law_418 : decode cL_law 418 = .ok (.iadd, 1) := by decide +kernel
theorem dL_law_419 : decode cL_law 419 = .ok (.iaload, 1) := by decide +kernel
theorem dL_law_420 : decode cL_law 420 = .ok (.invokevirtual 48, 3) := by decide +kernel
theorem dL_law_423 : decode cL_law 423 = .ok (.aload_n 2, 1) := by decide +kernel
theorem dL_law_424 : decode cL_law 424 = .ok (.aload_n 0, 1) := by decide +kernel
theorem dL_law_425 : decode cL_law 425 = .ok (.iload 4, 2) := by decide +kernel
theorem dL_law_427 : decode cL_law 427 = .ok (.iconst 1, 1) := by decide +kernel
theorem dL_law_428 : decode cL_law 428 = .ok (.iadd, 1) := by decide +kernel
theorem dL_law_429 : decode cL_law 429 = .ok (.iaload, 1) := by decide +kernel
theorem dL_law_430 : decode cL_law 430 = .ok (.aload_n 0, 1) := by decide +kernel
theorem dL_law_431 : decode cL_law 431 = .ok (.iload 4, 2) := by decide +kernel
theorem dL_law_433 : decode cL_law 433 = .ok (.iconst 2, 1) := by decide +kernel
theorem dL_law_434 : decode cL_law 434 = .ok (.iadd, 1) := by decide +kernel
theorem dL_law_435 : decode cL_law 435 = .ok (.iaload, 1) := by decide +kernel
theorem dL_law_436 : decode cL_law 436 = .ok (.invokevirtual 52, 3) := by decide +kernel
theorem dL_law_439 : decode cL_law 439 = .ok (.if_icmp .eq 735, 3) := by decide +kernel
theorem dL_law_442 : decode cL_law 442 = .ok (.iconst 0, 1) := by decide +kernel
theorem dL_law_443 : decode cL_law 443 = .ok (.ireturn, 1) := by decide +kernel
theorem dL_law_444 : decode cL_law 444 = .ok (.aload_n 1, 1) := by decide +kernel
theorem dL_law_445 : decode cL_law 445 = .ok (.aload_n 0, 1) := by decide +kernel
theorem dL_law_446 : decode cL_law 446 = .ok (.iload 4, 2) := by decide +kernel
theorem dL_law_448 : decode cL_law 448 = .ok (.iconst 1, 1) := by decide +kernel
theorem dL_law_449 : decode cL_law 449 = .ok (.iadd, 1) := by decide +kernel
theorem dL_law_450 : decode cL_law 450 = .ok (.iaload, 1) := by decide +kernel
theorem dL_law_451 : decode cL_law 451 = .ok (.aload_n 0, 1) := by decide +kernel
theorem dL_law_452 : decode cL_law 452 = .ok (.iload 4, 2) := by decide +kernel
theorem dL_law_454 : decode cL_law 454 = .ok (.iconst 2, 1) := by decide +kernel
theorem dL_law_455 : decode cL_law 455 = .ok (.iadd, 1) := by decide +kernel
theorem dL_law_456 : decode cL_law 456 = .ok (.iaload, 1) := by decide +kernel
theorem dL_law_457 : decode cL_law 457 = .ok (.invokevirtual 53, 3) := by decide +kernel
theorem dL_law_460 : decode cL_law 460 = .ok (.aload_n 2, 1) := by decide +kernel
theorem dL_law_461 : decode cL_law 461 = .ok (.aload_n 0, 1) := by decide +kernel
theorem dL_law_462 : decode cL_law 462 = .ok (.iload 4, 2) := by decide +kernel
theorem dL_law_464 : decode cL_law 464 = .ok (.iconst 1, 1) := by decide +kernel
theorem dL_law_465 : decode cL_law 465 = .ok (.iadd, 1) := by decide +kernel
theorem dL_law_466 : decode cL_law 466 = .ok (.iaload, 1) := by decide +kernel
theorem dL_law_467 : decode cL_law 467 = .ok (.aload_n 0, 1) := by decide +kernel
theorem dL_law_468 : decode cL_law 468 = .ok (.iload 4, 2) := by decide +kernel
theorem dL_law_470 : decode cL_law 470 = .ok (.iconst 2, 1) := by decide +kernel
theorem dL_law_471 : decode cL_law 471 = .ok (.iadd, 1) := by decide +kernel
theorem dL_law_472 : decode cL_law 472 = .ok (.iaload, 1) := by decide +kernel
theorem dL_law_473 : decode cL_law 473 = .ok (.invokevirtual 56, 3) := by decide +kernel
theorem dL_law_476 : decode cL_law 476 = .ok (.if_icmp .eq 698, 3) := by decide +kernel
theorem dL_law_479 : decode cL_law 479 = .ok (.iconst 0, 1) := by decide +kernel
theorem dL_law_480 : decode cL_law 480 = .ok (.ireturn, 1) := by decide +kernel
theorem dL_law_481 : decode cL_law 481 = .ok (.aload_n 1, 1) := by decide +kernel
theorem dL_law_482 : decode cL_law 482 = .ok (.aload_n 0, 1) := by decide +kernel
theorem dL_law_483 : decode cL_law 483 = .ok (.iload 4, 2) := by decide +kernel
theorem dL_law_485 : decode cL_law 485 = .ok (.iconst 1, 1) := by decide +kernel
theorem dL_law_486 : decode cL_law 486 = .ok (.iadd, 1) := by decide +kernel
theorem dL_law_487 : decode cL_law 487 = .ok (.iaload, 1) := by decide +kernel
theorem dL_law_488 : decode cL_law 488 = .ok (.aload_n 0, 1) := by decide +kernel
theorem dL_law_489 : decode cL_law 489 = .ok (.iload 4, 2) := by decide +kernel
theorem dL_law_491 : decode cL_law 491 = .ok (.iconst 2, 1) := by decide +kernel
theorem dL_law_492 : decode cL_law 492 = .ok (.iadd, 1) := by decide +kernel
theorem dL_law_493 : decode cL_law 493 = .ok (.iaload, 1) := by decide +kernel
theorem dL_law_494 : decode cL_law 494 = .ok (.aload_n 0, 1) := by decide +kernel
theorem dL_law_495 : decode cL_law 495 = .ok (.iload 4, 2) := by decide +kernel
theorem dL_law_497 : decode cL_law 497 = .ok (.iconst 3, 1) := by decide +kernel
theorem dL_law_498 : decode cL_law 498 = .ok (.iadd, 1) := by decide +kernel
theorem dL_law_499 : decode cL_law 499 = .ok (.iaload, 1) := by decide +kernel
theorem dL_law_500 : decode cL_law 500 = .ok (.invokevirtual 57, 3) := by decide +kernel
theorem dL_law_503 : decode cL_law 503 = .ok (.aload_n 2, 1) := by decide +kernel
theorem dL_law_504 : decode cL_law 504 = .ok (.aload_n 0, 1) := by decide +kernel
theorem dL_law_505 : decode cL_law 505 = .ok (.iload 4, 2) := by decide +kernel
theorem dL_law_507 : decode cL_law 507 = .ok (.iconst 1, 1) := by decide +kernel
theorem dL_law_508 : decode cL_law 508 = .ok (.iadd, 1) := by decide +kernel
theorem dL_law_509 : decode cL_law 509 = .ok (.iaload, 1) := by decide +kernel
theorem dL_law_510 : decode cL_law 510 = .ok (.aload_n 0, 1) := by decide +kernel
theorem dL_law_511 : decode cL_law 511 = .ok (.iload 4, 2) := by decide +kernel
theorem dL_law_513 : decode cL_law 513 = .ok (.iconst 2, 1) := by decide +kernel
theorem dL_law_514 : decode cL_law 514 = .ok (.iadd, 1) := by decide +kernel
theorem dL_law_515 : decode cL_law 515 = .ok (.iaload, 1) := by decide +kernel
theorem dL_law_516 : decode cL_law 516 = .ok (.aload_n 0, 1) := by decide +kernel
theorem dL_law_517 : decode cL_law 517 = .ok (.iload 4, 2) := by decide +kernel
theorem dL_law_519 : decode cL_law 519 = .ok (.iconst 3, 1) := by decide +kernel
theorem dL_law_520 : decode cL_law 520 = .ok (.iadd, 1) := by decide +kernel
theorem dL_law_521 : decode cL_law 521 = .ok (.iaload, 1) := by decide +kernel
theorem dL_law_522 : decode cL_law 522 = .ok (.invokevirtual 60, 3) := by decide +kernel
theorem dL_law_525 : decode cL_law 525 = .ok (.if_icmp .eq 649, 3) := by decide +kernel
theorem dL_law_528 : decode cL_law 528 = .ok (.iconst 0, 1) := by decide +kernel
theorem dL_law_529 : decode cL_law 529 = .ok (.ireturn, 1) := by decide +kernel
theorem dL_law_530 : decode cL_law 530 = .ok (.aload_n 1, 1) := by decide +kernel
theorem dL_law_531 : decode cL_law 531 = .ok (.aload_n 0, 1) := by decide +kernel
theorem dL_law_532 : decode cL_law 532 = .ok (.iload 4, 2) := by decide +kernel
theorem dL_law_534 : decode cL_law 534 = .ok (.iconst 1, 1) := by decide +kernel
theorem dL_law_535 : decode cL_law 535 = .ok (.iadd, 1) := by decide +kernel
theorem dL_law_536 : decode cL_law 536 = .ok (.iaload, 1) := by decide +kernel
theorem dL_law_537 : decode cL_law 537 = .ok (.aload_n 0, 1) := by decide +kernel
theorem dL_law_538 : decode cL_law 538 = .ok (.iload 4, 2) := by decide +kernel
theorem dL_law_540 : decode cL_law 540 = .ok (.iconst 2, 1) := by decide +kernel
theorem dL_law_541 : decode cL_law 541 = .ok (.iadd, 1) := by decide +kernel
theorem dL_law_542 : decode cL_law 542 = .ok (.iaload, 1) := by decide +kernel
theorem dL_law_543 : decode cL_law 543 = .ok (.invokevirtual 61, 3) := by decide +kernel
theorem dL_law_546 : decode cL_law 546 = .ok (.aload_n 2, 1) := by decide +kernel
theorem dL_law_547 : decode cL_law 547 = .ok (.aload_n 0, 1) := by decide +kernel
theorem dL_law_548 : decode cL_law 548 = .ok (.iload 4, 2) := by decide +kernel
theorem dL_law_550 : decode cL_law 550 = .ok (.iconst 1, 1) := by decide +kernel
theorem dL_law_551 : decode cL_law 551 = .ok (.iadd, 1) := by decide +kernel
theorem dL_law_552 : decode cL_law 552 = .ok (.iaload, 1) := by decide +kernel
theorem dL_law_553 : decode cL_law 553 = .ok (.aload_n 0, 1) := by decide +kernel
theorem dL_law_554 : decode cL_law 554 = .ok (.iload 4, 2) := by decide +kernel
theorem dL_law_556 : decode cL_law 556 = .ok (.iconst 2, 1) := by decide +kernel
theorem dL_law_557 : decode cL_law 557 = .ok (.iadd, 1) := by decide +kernel
theorem dL_law_558 : decode cL_law 558 = .ok (.iaload, 1) := by decide +kernel
theorem dL_law_559 : decode cL_law 559 = .ok (.invokevirtual 64, 3) := by decide +kernel
theorem dL_law_562 : decode cL_law 562 = .ok (.if_icmp .eq 612, 3) := by decide +kernel
theorem dL_law_565 : decode cL_law 565 = .ok (.iconst 0, 1) := by decide +kernel
theorem dL_law_566 : decode cL_law 566 = .ok (.ireturn, 1) := by decide +kernel
theorem dL_law_567 : decode cL_law 567 = .ok (.aload_n 1, 1) := by decide +kernel
theorem dL_law_568 : decode cL_law 568 = .ok (.aload_n 0, 1) := by decide +kernel
theorem dL_law_569 : decode cL_law 569 = .ok (.iload 4, 2) := by decide +kernel
theorem dL_law_571 : decode cL_law 571 = .ok (.iconst 1, 1) := by decide +kernel
theorem dL_law_572 : decode cL_law 572 = .ok (.iadd, 1) := by decide +kernel
theorem dL_law_573 : decode cL_law 573 = .ok (.iaload, 1) := by decide +kernel
theorem dL_law_574 : decode cL_law 574 = .ok (.aload_n 0, 1) := by decide +kernel
theorem dL_law_575 : decode cL_law 575 = .ok (.iload 4, 2) := by decide +kernel
theorem dL_law_577 : decode cL_law 577 = .ok (.iconst 2, 1) := by decide +kernel
theorem dL_law_578 : decode cL_law 578 = .ok (.iadd, 1) := by decide +kernel
theorem dL_law_579 : decode cL_law 579 = .ok (.iaload, 1) := by decide +kernel
theorem dL_law_580 : decode cL_law 580 = .ok (.aload_n 0, 1) := by decide +kernel
theorem dL_law_581 : decode cL_law 581 = .ok (.iload 4, 2) := by decide +kernel
theorem dL_law_583 : decode cL_law 583 = .ok (.iconst 3, 1) := by decide +kernel
theorem dL_law_584 : decode cL_law 584 = .ok (.iadd, 1) := by decide +kernel
theorem dL_law_585 : decode cL_law 585 = .ok (.iaload, 1) := by decide +kernel
theorem dL_law_586 : decode cL_law 586 = .ok (.aload_n 3, 1) := by decide +kernel
theorem dL_law_587 : decode cL_law 587 = .ok (.invokestatic 65, 3) := by decide +kernel
theorem dL_law_590 : decode cL_law 590 = .ok (.istore 5, 2) := by decide +kernel
theorem dL_law_592 : decode cL_law 592 = .ok (.aload_n 2, 1) := by decide +kernel
theorem dL_law_593 : decode cL_law 593 = .ok (.aload_n 0, 1) := by decide +kernel
theorem dL_law_594 : decode cL_law 594 = .ok (.iload 4, 2) := by decide +kernel
theorem dL_law_596 : decode cL_law 596 = .ok (.iconst 1, 1) := by decide +kernel
theorem dL_law_597 : decode cL_law 597 = .ok (.iadd, 1) := by decide +kernel
theorem dL_law_598 : decode cL_law 598 = .ok (.iaload, 1) := by decide +kernel
theorem dL_law_599 : decode cL_law 599 = .ok (.aload_n 0, 1) := by decide +kernel
theorem dL_law_600 : decode cL_law 600 = .ok (.iload 4, 2) := by decide +kernel
theorem dL_law_602 : decode cL_law 602 = .ok (.iconst 2, 1) := by decide +kernel
theorem dL_law_603 : decode cL_law 603 = .ok (.iadd, 1) := by decide +kernel
theorem dL_law_604 : decode cL_law 604 = .ok (.iaload, 1) := by decide +kernel
theorem dL_law_605 : decode cL_law 605 = .ok (.aload_n 0, 1) := by decide +kernel
theorem dL_law_606 : decode cL_law 606 = .ok (.iload 4, 2) := by decide +kernel
theorem dL_law_608 : decode cL_law 608 = .ok (.iconst 3, 1) := by decide +kernel
theorem dL_law_609 : decode cL_law 609 = .ok (.iadd, 1) := by decide +kernel
theorem dL_law_610 : decode cL_law 610 = .ok (.iaload, 1) := by decide +kernel
theorem dL_law_611 : decode cL_law 611 = .ok (.invokevirtual 70, 3) := by decide +kernel
theorem dL_law_614 : decode cL_law 614 = .ok (.istore 6, 2) := by decide +kernel
theorem dL_law_616 : decode cL_law 616 = .ok (.aload_n 2, 1) := by decide +kernel
theorem dL_law_617 : decode cL_law 617 = .ok (.invokevirtual 71, 3) := by decide +kernel
theorem dL_law_620 : decode cL_law 620 = .ok (.iload 5, 2) := by decide +kernel
theorem dL_law_622 : decode cL_law 622 = .ok (.if_icmp .eq 5, 3) := by decide +kernel
theorem dL_law_625 : decode cL_law 625 = .ok (.iconst 0, 1) := by decide +kernel
theorem dL_law_626 : decode cL_law 626 = .ok (.ireturn, 1) := by decide +kernel
theorem dL_law_627 : decode cL_law 627 = .ok (.iload 5, 2) := by decide +kernel
theorem dL_law_629 : decode cL_law 629 = .ok (.ifCond .ne 15, 3) := by decide +kernel
theorem dL_law_632 : decode cL_law 632 = .ok (.aload_n 3, 1) := by decide +kernel
theorem dL_law_633 : decode cL_law 633 = .ok (.iconst 0, 1) := by decide +kernel
theorem dL_law_634 : decode cL_law 634 = .ok (.laload, 1) := by decide +kernel
theorem dL_law_635 : decode cL_law 635 = .ok (.iload 6, 2) := by decide +kernel
theorem dL_law_637 : decode cL_law 637 = .ok (.i2l, 1) := by decide +kernel
theorem dL_law_638 : decode cL_law 638 = .ok (.lcmp, 1) := by decide +kernel
theorem dL_law_639 : decode cL_law 639 = .ok (.ifCond .eq 5, 3) := by decide +kernel
theorem dL_law_642 : decode cL_law 642 = .ok (.iconst 0, 1) := by decide +kernel
theorem dL_law_643 : decode cL_law 643 = .ok (.ireturn, 1) := by decide +kernel
theorem dL_law_644 : decode cL_law 644 = .ok (.goto 530, 3) := by decide +kernel
theorem dL_law_647 : decode cL_law 647 = .ok (.aload_n 1, 1) := by decide +kernel
theorem dL_law_648 : decode cL_law 648 = .ok (.aload_n 0, 1) := by decide +kernel
theorem dL_law_649 : decode cL_law 649 = .ok (.iload 4, 2) := by decide +kernel
theorem dL_law_651 : decode cL_law 651 = .ok (.iconst 1, 1) := by decide +kernel
theorem dL_law_652 : decode cL_law 652 = .ok (.iadd, 1) := by decide +kernel
theorem dL_law_653 : decode cL_law 653 = .ok (.iaload, 1) := by decide +kernel
theorem dL_law_654 : decode cL_law 654 = .ok (.aload_n 0, 1) := by decide +kernel
theorem dL_law_655 : decode cL_law 655 = .ok (.iload 4, 2) := by decide +kernel
theorem dL_law_657 : decode cL_law 657 = .ok (.iconst 2, 1) := by decide +kernel
theorem dL_law_658 : decode cL_law 658 = .ok (.iadd, 1) := by decide +kernel
theorem dL_law_659 : decode cL_law 659 = .ok (.iaload, 1) := by decide +kernel
theorem dL_law_660 : decode cL_law 660 = .ok (.aload_n 0, 1) := by decide +kernel
theorem dL_law_661 : decode cL_law 661 = .ok (.iload 4, 2) := by decide +kernel
theorem dL_law_663 : decode cL_law 663 = .ok (.iconst 3, 1) := by decide +kernel
theorem dL_law_664 : decode cL_law 664 = .ok (.iadd, 1) := by decide +kernel
theorem dL_law_665 : decode cL_law 665 = .ok (.iaload, 1) := by decide +kernel
theorem dL_law_666 : decode cL_law 666 = .ok (.aload_n 0, 1) := by decide +kernel
theorem dL_law_667 : decode cL_law 667 = .ok (.iload 4, 2) := by decide +kernel
theorem dL_law_669 : decode cL_law 669 = .ok (.iconst 4, 1) := by decide +kernel
theorem dL_law_670 : decode cL_law 670 = .ok (.iadd, 1) := by decide +kernel
theorem dL_law_671 : decode cL_law 671 = .ok (.iaload, 1) := by decide +kernel
theorem dL_law_672 : decode cL_law 672 = .ok (.invokevirtual 74, 3) := by decide +kernel
theorem dL_law_675 : decode cL_law 675 = .ok (.aload_n 2, 1) := by decide +kernel
theorem dL_law_676 : decode cL_law 676 = .ok (.aload_n 0, 1) := by decide +kernel
theorem dL_law_677 : decode cL_law 677 = .ok (.iload 4, 2) := by decide +kernel
theorem dL_law_679 : decode cL_law 679 = .ok (.iconst 1, 1) := by decide +kernel
theorem dL_law_680 : decode cL_law 680 = .ok (.iadd, 1) := by decide +kernel
theorem dL_law_681 : decode cL_law 681 = .ok (.iaload, 1) := by decide +kernel
theorem dL_law_682 : decode cL_law 682 = .ok (.aload_n 0, 1) := by decide +kernel
theorem dL_law_683 : decode cL_law 683 = .ok (.iload 4, 2) := by decide +kernel
theorem dL_law_685 : decode cL_law 685 = .ok (.iconst 2, 1) := by decide +kernel
theorem dL_law_686 : decode cL_law 686 = .ok (.iadd, 1) := by decide +kernel
theorem dL_law_687 : decode cL_law 687 = .ok (.iaload, 1) := by decide +kernel
theorem dL_law_688 : decode cL_law 688 = .ok (.aload_n 0, 1) := by decide +kernel
theorem dL_law_689 : decode cL_law 689 = .ok (.iload 4, 2) := by decide +kernel
theorem dL_law_691 : decode cL_law 691 = .ok (.iconst 3, 1) := by decide +kernel
theorem dL_law_692 : decode cL_law 692 = .ok (.iadd, 1) := by decide +kernel
theorem dL_law_693 : decode cL_law 693 = .ok (.iaload, 1) := by decide +kernel
theorem dL_law_694 : decode cL_law 694 = .ok (.aload_n 0, 1) := by decide +kernel
theorem dL_law_695 : decode cL_law 695 = .ok (.iload 4, 2) := by decide +kernel
theorem dL_law_697 : decode cL_law 697 = .ok (.iconst 4, 1) := by decide +kernel
theorem dL_law_698 : decode cL_law 698 = .ok (.iadd, 1) := by decide +kernel
theorem dL_law_699 : decode cL_law 699 = .ok (.iaload, 1) := by decide +kernel
theorem dL_law_700 : decode cL_law 700 = .ok (.invokevirtual 78, 3) := by decide +kernel
theorem dL_law_703 : decode cL_law 703 = .ok (.if_icmp .eq 471, 3) := by decide +kernel
theorem dL_law_706 : decode cL_law 706 = .ok (.iconst 0, 1) := by decide +kernel
theorem dL_law_707 : decode cL_law 707 = .ok (.ireturn, 1) := by decide +kernel
theorem dL_law_708 : decode cL_law 708 = .ok (.aload_n 1, 1) := by decide +kernel
theorem dL_law_709 : decode cL_law 709 = .ok (.aload_n 0, 1) := by decide +kernel
theorem dL_law_710 : decode cL_law 710 = .ok (.iload 4, 2) := by decide +kernel
theorem dL_law_712 : decode cL_law 712 = .ok (.iconst 1, 1) := by decide +kernel
theorem dL_law_713 : decode cL_law 713 = .ok (.iadd, 1) := by decide +kernel
theorem dL_law_714 : decode cL_law 714 = .ok (.iaload, 1) := by decide +kernel
theorem dL_law_715 : decode cL_law 715 = .ok (.invokevirtual 79, 3) := by decide +kernel
theorem dL_law_718 : decode cL_law 718 = .ok (.aload_n 2, 1) := by decide +kernel
theorem dL_law_719 : decode cL_law 719 = .ok (.aload_n 0, 1) := by decide +kernel
theorem dL_law_720 : decode cL_law 720 = .ok (.iload 4, 2) := by decide +kernel
theorem dL_law_722 : decode cL_law 722 = .ok (.iconst 1, 1) := by decide +kernel
theorem dL_law_723 : decode cL_law 723 = .ok (.iadd, 1) := by decide +kernel
theorem dL_law_724 : decode cL_law 724 = .ok (.iaload, 1) := by decide +kernel
theorem dL_law_725 : decode cL_law 725 = .ok (.invokevirtual 83, 3) := by decide +kernel
theorem dL_law_728 : decode cL_law 728 = .ok (.if_icmp .eq 446, 3) := by decide +kernel
theorem dL_law_731 : decode cL_law 731 = .ok (.iconst 0, 1) := by decide +kernel
theorem dL_law_732 : decode cL_law 732 = .ok (.ireturn, 1) := by decide +kernel
theorem dL_law_733 : decode cL_law 733 = .ok (.aload_n 1, 1) := by decide +kernel
theorem dL_law_734 : decode cL_law 734 = .ok (.aload_n 0, 1) := by decide +kernel
theorem dL_law_735 : decode cL_law 735 = .ok (.iload 4, 2) := by decide +kernel
theorem dL_law_737 : decode cL_law 737 = .ok (.iconst 1, 1) := by decide +kernel
theorem dL_law_738 : decode cL_law 738 = .ok (.iadd, 1) := by decide +kernel
theorem dL_law_739 : decode cL_law 739 = .ok (.iaload, 1) := by decide +kernel
theorem dL_law_740 : decode cL_law 740 = .ok (.invokevirtual 84, 3) := by decide +kernel
theorem dL_law_743 : decode cL_law 743 = .ok (.aload_n 2, 1) := by decide +kernel
theorem dL_law_744 : decode cL_law 744 = .ok (.aload_n 0, 1) := by decide +kernel
theorem dL_law_745 : decode cL_law 745 = .ok (.iload 4, 2) := by decide +kernel
theorem dL_law_747 : decode cL_law 747 = .ok (.iconst 1, 1) := by decide +kernel
theorem dL_law_748 : decode cL_law 748 = .ok (.iadd, 1) := by decide +kernel
theorem dL_law_749 : decode cL_law 749 = .ok (.iaload, 1) := by decide +kernel
theorem dL_law_750 : decode cL_law 750 = .ok (.invokevirtual 87, 3) := by decide +kernel
theorem dL_law_753 : decode cL_law 753 = .ok (.if_icmp .eq 421, 3) := by decide +kernel
theorem dL_law_756 : decode cL_law 756 = .ok (.iconst 0, 1) := by decide +kernel
theorem dL_law_757 : decode cL_law 757 = .ok (.ireturn, 1) := by decide +kernel
theorem dL_law_758 : decode cL_law 758 = .ok (.aload_n 1, 1) := by decide +kernel
theorem dL_law_759 : decode cL_law 759 = .ok (.aload_n 0, 1) := by decide +kernel
theorem dL_law_760 : decode cL_law 760 = .ok (.iload 4, 2) := by decide +kernel
theorem dL_law_762 : decode cL_law 762 = .ok (.iconst 1, 1) := by decide +kernel
theorem dL_law_763 : decode cL_law 763 = .ok (.iadd, 1) := by decide +kernel
theorem dL_law_764 : decode cL_law 764 = .ok (.iaload, 1) := by decide +kernel
theorem dL_law_765 : decode cL_law 765 = .ok (.invokevirtual 88, 3) := by decide +kernel
theorem dL_law_768 : decode cL_law 768 = .ok (.aload_n 2, 1) := by decide +kernel
theorem dL_law_769 : decode cL_law 769 = .ok (.aload_n 0, 1) := by decide +kernel
theorem dL_law_770 : decode cL_law 770 = .ok (.iload 4, 2) := by decide +kernel
theorem dL_law_772 : decode cL_law 772 = .ok (.iconst 1, 1) := by decide +kernel
theorem dL_law_773 : decode cL_law 773 = .ok (.iadd, 1) := by decide +kernel
theorem dL_law_774 : decode cL_law 774 = .ok (.iaload, 1) := by decide +kernel
theorem dL_law_775 : decode cL_law 775 = .ok (.invokevirtual 91, 3) := by decide +kernel
theorem dL_law_778 : decode cL_law 778 = .ok (.if_icmp .eq 396, 3) := by decide +kernel
theorem dL_law_781 : decode cL_law 781 = .ok (.iconst 0, 1) := by decide +kernel
theorem dL_law_782 : decode cL_law 782 = .ok (.ireturn, 1) := by decide +kernel
theorem dL_law_783 : decode cL_law 783 = .ok (.aload_n 1, 1) := by decide +kernel
theorem dL_law_784 : decode cL_law 784 = .ok (.aload_n 0, 1) := by decide +kernel
theorem dL_law_785 : decode cL_law 785 = .ok (.iload 4, 2) := by decide +kernel
theorem dL_law_787 : decode cL_law 787 = .ok (.iconst 1, 1) := by decide +kernel
theorem dL_law_788 : decode cL_law 788 = .ok (.iadd, 1) := by decide +kernel
theorem dL_law_789 : decode cL_law 789 = .ok (.iaload, 1) := by decide +kernel
theorem dL_law_790 : decode cL_law 790 = .ok (.aload_n 0, 1) := by decide +kernel
theorem dL_law_791 : decode cL_law 791 = .ok (.iload 4, 2) := by decide +kernel
theorem dL_law_793 : decode cL_law 793 = .ok (.iconst 2, 1) := by decide +kernel
theorem dL_law_794 : decode cL_law 794 = .ok (.iadd, 1) := by decide +kernel
theorem dL_law_795 : decode cL_law 795 = .ok (.iaload, 1) := by decide +kernel
theorem dL_law_796 : decode cL_law 796 = .ok (.aload_n 0, 1) := by decide +kernel
theorem dL_law_797 : decode cL_law 797 = .ok (.iload 4, 2) := by decide +kernel
theorem dL_law_799 : decode cL_law 799 = .ok (.iconst 3, 1) := by decide +kernel
theorem dL_law_800 : decode cL_law 800 = .ok (.iadd, 1) := by decide +kernel
theorem dL_law_801 : decode cL_law 801 = .ok (.iaload, 1) := by decide +kernel
theorem dL_law_802 : decode cL_law 802 = .ok (.invokevirtual 92, 3) := by decide +kernel
theorem dL_law_805 : decode cL_law 805 = .ok (.aload_n 2, 1) := by decide +kernel
theorem dL_law_806 : decode cL_law 806 = .ok (.aload_n 0, 1) := by decide +kernel
theorem dL_law_807 : decode cL_law 807 = .ok (.iload 4, 2) := by decide +kernel
theorem dL_law_809 : decode cL_law 809 = .ok (.iconst 1, 1) := by decide +kernel
theorem dL_law_810 : decode cL_law 810 = .ok (.iadd, 1) := by decide +kernel
theorem dL_law_811 : decode cL_law 811 = .ok (.iaload, 1) := by decide +kernel
theorem dL_law_812 : decode cL_law 812 = .ok (.aload_n 0, 1) := by decide +kernel
theorem dL_law_813 : decode cL_law 813 = .ok (.iload 4, 2) := by decide +kernel
theorem dL_law_815 : decode cL_law 815 = .ok (.iconst 2, 1) := by decide +kernel
theorem dL_law_816 : decode cL_law 816 = .ok (.iadd, 1) := by decide +kernel
theorem dL_law_817 : decode cL_law 817 = .ok (.iaload, 1) := by decide +kernel
theorem dL_law_818 : decode cL_law 818 = .ok (.aload_n 0, 1) := by decide +kernel
theorem dL_law_819 : decode cL_law 819 = .ok (.iload 4, 2) := by decide +kernel
theorem dL_law_821 : decode cL_law 821 = .ok (.iconst 3, 1) := by decide +kernel
theorem dL_law_822 : decode cL_law 822 = .ok (.iadd, 1) := by decide +kernel
theorem dL_law_823 : decode cL_law 823 = .ok (.iaload, 1) := by decide +kernel
theorem dL_law_824 : decode cL_law 824 = .ok (.invokevirtual 95, 3) := by decide +kernel
theorem dL_law_827 : decode cL_law 827 = .ok (.if_icmp .eq 347, 3) := by decide +kernel
theorem dL_law_830 : decode cL_law 830 = .ok (.iconst 0, 1) := by decide +kernel
theorem dL_law_831 : decode cL_law 831 = .ok (.ireturn, 1) := by decide +kernel
theorem dL_law_832 : decode cL_law 832 = .ok (.aload_n 1, 1) := by decide +kernel
theorem dL_law_833 : decode cL_law 833 = .ok (.aload_n 0, 1) := by decide +kernel
theorem dL_law_834 : decode cL_law 834 = .ok (.iload 4, 2) := by decide +kernel
theorem dL_law_836 : decode cL_law 836 = .ok (.iconst 1, 1) := by decide +kernel
theorem dL_law_837 : decode cL_law 837 = .ok (.iadd, 1) := by decide +kernel
theorem dL_law_838 : decode cL_law 838 = .ok (.iaload, 1) := by decide +kernel
theorem dL_law_839 : decode cL_law 839 = .ok (.aload_n 0, 1) := by decide +kernel
theorem dL_law_840 : decode cL_law 840 = .ok (.iload 4, 2) := by decide +kernel
theorem dL_law_842 : decode cL_law 842 = .ok (.iconst 2, 1) := by decide +kernel
theorem dL_law_843 : decode cL_law 843 = .ok (.iadd, 1) := by decide +kernel
theorem dL_law_844 : decode cL_law 844 = .ok (.iaload, 1) := by decide +kernel
theorem dL_law_845 : decode cL_law 845 = .ok (.aload_n 0, 1) := by decide +kernel
theorem dL_law_846 : decode cL_law 846 = .ok (.iload 4, 2) := by decide +kernel
theorem dL_law_848 : decode cL_law 848 = .ok (.iconst 3, 1) := by decide +kernel
theorem dL_law_849 : decode cL_law 849 = .ok (.iadd, 1) := by decide +kernel
theorem dL_law_850 : decode cL_law 850 = .ok (.iaload, 1) := by decide +kernel
theorem dL_law_851 : decode cL_law 851 = .ok (.aload_n 3, 1) := by decide +kernel
theorem dL_law_852 : decode cL_law 852 = .ok (.invokestatic 96, 3) := by decide +kernel
theorem dL_law_855 : decode cL_law 855 = .ok (.istore 5, 2) := by decide +kernel
theorem dL_law_857 : decode cL_law 857 = .ok (.aload_n 2, 1) := by decide +kernel
theorem dL_law_858 : decode cL_law 858 = .ok (.aload_n 0, 1) := by decide +kernel
theorem dL_law_859 : decode cL_law 859 = .ok (.iload 4, 2) := by decide +kernel
theorem dL_law_861 : decode cL_law 861 = .ok (.iconst 1, 1) := by decide +kernel
theorem dL_law_862 : decode cL_law 862 = .ok (.iadd, 1) := by decide +kernel
theorem dL_law_863 : decode cL_law 863 = .ok (.iaload, 1) := by decide +kernel
theorem dL_law_864 : decode cL_law 864 = .ok (.aload_n 0, 1) := by decide +kernel
theorem dL_law_865 : decode cL_law 865 = .ok (.iload 4, 2) := by decide +kernel
theorem dL_law_867 : decode cL_law 867 = .ok (.iconst 2, 1) := by decide +kernel
theorem dL_law_868 : decode cL_law 868 = .ok (.iadd, 1) := by decide +kernel
theorem dL_law_869 : decode cL_law 869 = .ok (.iaload, 1) := by decide +kernel
theorem dL_law_870 : decode cL_law 870 = .ok (.aload_n 0, 1) := by decide +kernel
theorem dL_law_871 : decode cL_law 871 = .ok (.iload 4, 2) := by decide +kernel
theorem dL_law_873 : decode cL_law 873 = .ok (.iconst 3, 1) := by decide +kernel
theorem dL_law_874 : decode cL_law 874 = .ok (.iadd, 1) := by decide +kernel
theorem dL_law_875 : decode cL_law 875 = .ok (.iaload, 1) := by decide +kernel
theorem dL_law_876 : decode cL_law 876 = .ok (.invokevirtual 98, 3) := by decide +kernel
theorem dL_law_879 : decode cL_law 879 = .ok (.istore 6, 2) := by decide +kernel
theorem dL_law_881 : decode cL_law 881 = .ok (.aload_n 2, 1) := by decide +kernel
theorem dL_law_882 : decode cL_law 882 = .ok (.invokevirtual 71, 3) := by decide +kernel
theorem dL_law_885 : decode cL_law 885 = .ok (.iload 5, 2) := by decide +kernel
theorem dL_law_887 : decode cL_law 887 = .ok (.if_icmp .eq 5, 3) := by decide +kernel
theorem dL_law_890 : decode cL_law 890 = .ok (.iconst 0, 1) := by decide +kernel
theorem dL_law_891 : decode cL_law 891 = .ok (.ireturn, 1) := by decide +kernel
theorem dL_law_892 : decode cL_law 892 = .ok (.iload 5, 2) := by decide +kernel
theorem dL_law_894 : decode cL_law 894 = .ok (.ifCond .ne 15, 3) := by decide +kernel
theorem dL_law_897 : decode cL_law 897 = .ok (.aload_n 3, 1) := by decide +kernel
theorem dL_law_898 : decode cL_law 898 = .ok (.iconst 0, 1) := by decide +kernel
theorem dL_law_899 : decode cL_law 899 = .ok (.laload, 1) := by decide +kernel
theorem dL_law_900 : decode cL_law 900 = .ok (.iload 6, 2) := by decide +kernel
theorem dL_law_902 : decode cL_law 902 = .ok (.i2l, 1) := by decide +kernel
theorem dL_law_903 : decode cL_law 903 = .ok (.lcmp, 1) := by decide +kernel
theorem dL_law_904 : decode cL_law 904 = .ok (.ifCond .eq 5, 3) := by decide +kernel
theorem dL_law_907 : decode cL_law 907 = .ok (.iconst 0, 1) := by decide +kernel
theorem dL_law_908 : decode cL_law 908 = .ok (.ireturn, 1) := by decide +kernel
theorem dL_law_909 : decode cL_law 909 = .ok (.goto 265, 3) := by decide +kernel
theorem dL_law_912 : decode cL_law 912 = .ok (.aload_n 1, 1) := by decide +kernel
theorem dL_law_913 : decode cL_law 913 = .ok (.aload_n 0, 1) := by decide +kernel
theorem dL_law_914 : decode cL_law 914 = .ok (.iload 4, 2) := by decide +kernel
theorem dL_law_916 : decode cL_law 916 = .ok (.iconst 1, 1) := by decide +kernel
theorem dL_law_917 : decode cL_law 917 = .ok (.iadd, 1) := by decide +kernel
theorem dL_law_918 : decode cL_law 918 = .ok (.iaload, 1) := by decide +kernel
theorem dL_law_919 : decode cL_law 919 = .ok (.invokevirtual 99, 3) := by decide +kernel
theorem dL_law_922 : decode cL_law 922 = .ok (.aload_n 2, 1) := by decide +kernel
theorem dL_law_923 : decode cL_law 923 = .ok (.aload_n 0, 1) := by decide +kernel
theorem dL_law_924 : decode cL_law 924 = .ok (.iload 4, 2) := by decide +kernel
theorem dL_law_926 : decode cL_law 926 = .ok (.iconst 1, 1) := by decide +kernel
theorem dL_law_927 : decode cL_law 927 = .ok (.iadd, 1) := by decide +kernel
theorem dL_law_928 : decode cL_law 928 = .ok (.iaload, 1) := by decide +kernel
theorem dL_law_929 : decode cL_law 929 = .ok (.invokevirtual 102, 3) := by decide +kernel
theorem dL_law_932 : decode cL_law 932 = .ok (.if_icmp .eq 242, 3) := by decide +kernel
theorem dL_law_935 : decode cL_law 935 = .ok (.iconst 0, 1) := by decide +kernel
theorem dL_law_936 : decode cL_law 936 = .ok (.ireturn, 1) := by decide +kernel
theorem dL_law_937 : decode cL_law 937 = .ok (.aload_n 1, 1) := by decide +kernel
theorem dL_law_938 : decode cL_law 938 = .ok (.aload_n 0, 1) := by decide +kernel
theorem dL_law_939 : decode cL_law 939 = .ok (.iload 4, 2) := by decide +kernel
theorem dL_law_941 : decode cL_law 941 = .ok (.iconst 1, 1) := by decide +kernel
theorem dL_law_942 : decode cL_law 942 = .ok (.iadd, 1) := by decide +kernel
theorem dL_law_943 : decode cL_law 943 = .ok (.iaload, 1) := by decide +kernel
theorem dL_law_944 : decode cL_law 944 = .ok (.aload_n 0, 1) := by decide +kernel
theorem dL_law_945 : decode cL_law 945 = .ok (.iload 4, 2) := by decide +kernel
theorem dL_law_947 : decode cL_law 947 = .ok (.iconst 2, 1) := by decide +kernel
theorem dL_law_948 : decode cL_law 948 = .ok (.iadd, 1) := by decide +kernel
theorem dL_law_949 : decode cL_law 949 = .ok (.iaload, 1) := by decide +kernel
theorem dL_law_950 : decode cL_law 950 = .ok (.aload_n 0, 1) := by decide +kernel
theorem dL_law_951 : decode cL_law 951 = .ok (.iload 4, 2) := by decide +kernel
theorem dL_law_953 : decode cL_law 953 = .ok (.iconst 3, 1) := by decide +kernel
theorem dL_law_954 : decode cL_law 954 = .ok (.iadd, 1) := by decide +kernel
theorem dL_law_955 : decode cL_law 955 = .ok (.iaload, 1) := by decide +kernel
theorem dL_law_956 : decode cL_law 956 = .ok (.invokevirtual 103, 3) := by decide +kernel
theorem dL_law_959 : decode cL_law 959 = .ok (.aload_n 2, 1) := by decide +kernel
theorem dL_law_960 : decode cL_law 960 = .ok (.aload_n 0, 1) := by decide +kernel
theorem dL_law_961 : decode cL_law 961 = .ok (.iload 4, 2) := by decide +kernel
theorem dL_law_963 : decode cL_law 963 = .ok (.iconst 1, 1) := by decide +kernel
theorem dL_law_964 : decode cL_law 964 = .ok (.iadd, 1) := by decide +kernel
theorem dL_law_965 : decode cL_law 965 = .ok (.iaload, 1) := by decide +kernel
theorem dL_law_966 : decode cL_law 966 = .ok (.aload_n 0, 1) := by decide +kernel
theorem dL_law_967 : decode cL_law 967 = .ok (.iload 4, 2) := by decide +kernel
theorem dL_law_969 : decode cL_law 969 = .ok (.iconst 2, 1) := by decide +kernel
theorem dL_law_970 : decode cL_law 970 = .ok (.iadd, 1) := by decide +kernel
theorem dL_law_971 : decode cL_law 971 = .ok (.iaload, 1) := by decide +kernel
theorem dL_law_972 : decode cL_law 972 = .ok (.aload_n 0, 1) := by decide +kernel
theorem dL_law_973 : decode cL_law 973 = .ok (.iload 4, 2) := by decide +kernel
theorem dL_law_975 : decode cL_law 975 = .ok (.iconst 3, 1) := by decide +kernel
theorem dL_law_976 : decode cL_law 976 = .ok (.iadd, 1) := by decide +kernel
theorem dL_law_977 : decode cL_law 977 = .ok (.iaload, 1) := by decide +kernel
theorem dL_law_978 : decode cL_law 978 = .ok (.invokevirtual 106, 3) := by decide +kernel
theorem dL_law_981 : decode cL_law 981 = .ok (.if_icmp .eq 193, 3) := by decide +kernel
theorem dL_law_984 : decode cL_law 984 = .ok (.iconst 0, 1) := by decide +kernel
theorem dL_law_985 : decode cL_law 985 = .ok (.ireturn, 1) := by decide +kernel
theorem dL_law_986 : decode cL_law 986 = .ok (.aload_n 1, 1) := by decide +kernel
theorem dL_law_987 : decode cL_law 987 = .ok (.aload_n 0, 1) := by decide +kernel
theorem dL_law_988 : decode cL_law 988 = .ok (.iload 4, 2) := by decide +kernel
theorem dL_law_990 : decode cL_law 990 = .ok (.iconst 1, 1) := by decide +kernel
theorem dL_law_991 : decode cL_law 991 = .ok (.iadd, 1) := by decide +kernel
theorem dL_law_992 : decode cL_law 992 = .ok (.iaload, 1) := by decide +kernel
theorem dL_law_993 : decode cL_law 993 = .ok (.invokevirtual 107, 3) := by decide +kernel
theorem dL_law_996 : decode cL_law 996 = .ok (.aload_n 2, 1) := by decide +kernel
theorem dL_law_997 : decode cL_law 997 = .ok (.aload_n 0, 1) := by decide +kernel
theorem dL_law_998 : decode cL_law 998 = .ok (.iload 4, 2) := by decide +kernel
theorem dL_law_1000 : decode cL_law 1000 = .ok (.iconst 1, 1) := by decide +kernel
theorem dL_law_1001 : decode cL_law 1001 = .ok (.iadd, 1) := by decide +kernel
theorem dL_law_1002 : decode cL_law 1002 = .ok (.iaload, 1) := by decide +kernel
theorem dL_law_1003 : decode cL_law 1003 = .ok (.invokevirtual 110, 3) := by decide +kernel
theorem dL_law_1006 : decode cL_law 1006 = .ok (.if_icmp .eq 168, 3) := by decide +kernel
theorem dL_law_1009 : decode cL_law 1009 = .ok (.iconst 0, 1) := by decide +kernel
theorem dL_law_1010 : decode cL_law 1010 = .ok (.ireturn, 1) := by decide +kernel
theorem dL_law_1011 : decode cL_law 1011 = .ok (.aload_n 1, 1) := by decide +kernel
theorem dL_law_1012 : decode cL_law 1012 = .ok (.aload_n 0, 1) := by decide +kernel
theorem dL_law_1013 : decode cL_law 1013 = .ok (.iload 4, 2) := by decide +kernel
theorem dL_law_1015 : decode cL_law 1015 = .ok (.iconst 1, 1) := by decide +kernel
theorem dL_law_1016 : decode cL_law 1016 = .ok (.iadd, 1) := by decide +kernel
theorem dL_law_1017 : decode cL_law 1017 = .ok (.iaload, 1) := by decide +kernel
theorem dL_law_1018 : decode cL_law 1018 = .ok (.invokevirtual 111, 3) := by decide +kernel
theorem dL_law_1021 : decode cL_law 1021 = .ok (.aload_n 2, 1) := by decide +kernel
theorem dL_law_1022 : decode cL_law 1022 = .ok (.aload_n 0, 1) := by decide +kernel
theorem dL_law_1023 : decode cL_law 1023 = .ok (.iload 4, 2) := by decide +kernel
theorem dL_law_1025 : decode cL_law 1025 = .ok (.iconst 1, 1) := by decide +kernel
theorem dL_law_1026 : decode cL_law 1026 = .ok (.iadd, 1) := by decide +kernel
theorem dL_law_1027 : decode cL_law 1027 = .ok (.iaload, 1) := by decide +kernel
theorem dL_law_1028 : decode cL_law 1028 = .ok (.invokevirtual 114, 3) := by decide +kernel
theorem dL_law_1031 : decode cL_law 1031 = .ok (.if_icmp .eq 143, 3) := by decide +kernel
theorem dL_law_1034 : decode cL_law 1034 = .ok (.iconst 0, 1) := by decide +kernel
theorem dL_law_1035 : decode cL_law 1035 = .ok (.ireturn, 1) := by decide +kernel
theorem dL_law_1036 : decode cL_law 1036 = .ok (.aload_n 1, 1) := by decide +kernel
theorem dL_law_1037 : decode cL_law 1037 = .ok (.invokevirtual 115, 3) := by decide +kernel
theorem dL_law_1040 : decode cL_law 1040 = .ok (.aload_n 2, 1) := by decide +kernel
theorem dL_law_1041 : decode cL_law 1041 = .ok (.invokevirtual 118, 3) := by decide +kernel
theorem dL_law_1044 : decode cL_law 1044 = .ok (.if_icmp .eq 130, 3) := by decide +kernel
theorem dL_law_1047 : decode cL_law 1047 = .ok (.iconst 0, 1) := by decide +kernel
theorem dL_law_1048 : decode cL_law 1048 = .ok (.ireturn, 1) := by decide +kernel
theorem dL_law_1049 : decode cL_law 1049 = .ok (.aload_n 1, 1) := by decide +kernel
theorem dL_law_1050 : decode cL_law 1050 = .ok (.aload_n 0, 1) := by decide +kernel
theorem dL_law_1051 : decode cL_law 1051 = .ok (.iload 4, 2) := by decide +kernel
theorem dL_law_1053 : decode cL_law 1053 = .ok (.iconst 1, 1) := by decide +kernel
theorem dL_law_1054 : decode cL_law 1054 = .ok (.iadd, 1) := by decide +kernel
theorem dL_law_1055 : decode cL_law 1055 = .ok (.iaload, 1) := by decide +kernel
theorem dL_law_1056 : decode cL_law 1056 = .ok (.invokevirtual 119, 3) := by decide +kernel
theorem dL_law_1059 : decode cL_law 1059 = .ok (.aload_n 2, 1) := by decide +kernel
theorem dL_law_1060 : decode cL_law 1060 = .ok (.aload_n 0, 1) := by decide +kernel
theorem dL_law_1061 : decode cL_law 1061 = .ok (.iload 4, 2) := by decide +kernel
theorem dL_law_1063 : decode cL_law 1063 = .ok (.iconst 1, 1) := by decide +kernel
theorem dL_law_1064 : decode cL_law 1064 = .ok (.iadd, 1) := by decide +kernel
theorem dL_law_1065 : decode cL_law 1065 = .ok (.iaload, 1) := by decide +kernel
theorem dL_law_1066 : decode cL_law 1066 = .ok (.invokevirtual 122, 3) := by decide +kernel
theorem dL_law_1069 : decode cL_law 1069 = .ok (.if_icmp .eq 105, 3) := by decide +kernel
theorem dL_law_1072 : decode cL_law 1072 = .ok (.iconst 0, 1) := by decide +kernel
theorem dL_law_1073 : decode cL_law 1073 = .ok (.ireturn, 1) := by decide +kernel
theorem dL_law_1074 : decode cL_law 1074 = .ok (.aload_n 1, 1) := by decide +kernel
theorem dL_law_1075 : decode cL_law 1075 = .ok (.aload_n 0, 1) := by decide +kernel
theorem dL_law_1076 : decode cL_law 1076 = .ok (.iload 4, 2) := by decide +kernel
theorem dL_law_1078 : decode cL_law 1078 = .ok (.iconst 1, 1) := by decide +kernel
theorem dL_law_1079 : decode cL_law 1079 = .ok (.iadd, 1) := by decide +kernel
theorem dL_law_1080 : decode cL_law 1080 = .ok (.iaload, 1) := by decide +kernel
theorem dL_law_1081 : decode cL_law 1081 = .ok (.invokevirtual 123, 3) := by decide +kernel
theorem dL_law_1084 : decode cL_law 1084 = .ok (.aload_n 2, 1) := by decide +kernel
theorem dL_law_1085 : decode cL_law 1085 = .ok (.aload_n 0, 1) := by decide +kernel
theorem dL_law_1086 : decode cL_law 1086 = .ok (.iload 4, 2) := by decide +kernel
theorem dL_law_1088 : decode cL_law 1088 = .ok (.iconst 1, 1) := by decide +kernel
theorem dL_law_1089 : decode cL_law 1089 = .ok (.iadd, 1) := by decide +kernel
theorem dL_law_1090 : decode cL_law 1090 = .ok (.iaload, 1) := by decide +kernel
theorem dL_law_1091 : decode cL_law 1091 = .ok (.invokevirtual 126, 3) := by decide +kernel
theorem dL_law_1094 : decode cL_law 1094 = .ok (.if_icmp .eq 80, 3) := by decide +kernel
theorem dL_law_1097 : decode cL_law 1097 = .ok (.iconst 0, 1) := by decide +kernel
theorem dL_law_1098 : decode cL_law 1098 = .ok (.ireturn, 1) := by decide +kernel
theorem dL_law_1099 : decode cL_law 1099 = .ok (.aload_n 1, 1) := by decide +kernel
theorem dL_law_1100 : decode cL_law 1100 = .ok (.aload_n 0, 1) := by decide +kernel
theorem dL_law_1101 : decode cL_law 1101 = .ok (.iload 4, 2) := by decide +kernel
theorem dL_law_1103 : decode cL_law 1103 = .ok (.iconst 1, 1) := by decide +kernel
theorem dL_law_1104 : decode cL_law 1104 = .ok (.iadd, 1) := by decide +kernel
theorem dL_law_1105 : decode cL_law 1105 = .ok (.iaload, 1) := by decide +kernel
theorem dL_law_1106 : decode cL_law 1106 = .ok (.invokevirtual 127, 3) := by decide +kernel
theorem dL_law_1109 : decode cL_law 1109 = .ok (.aload_n 2, 1) := by decide +kernel
theorem dL_law_1110 : decode cL_law 1110 = .ok (.aload_n 0, 1) := by decide +kernel
theorem dL_law_1111 : decode cL_law 1111 = .ok (.iload 4, 2) := by decide +kernel
theorem dL_law_1113 : decode cL_law 1113 = .ok (.iconst 1, 1) := by decide +kernel
theorem dL_law_1114 : decode cL_law 1114 = .ok (.iadd, 1) := by decide +kernel
theorem dL_law_1115 : decode cL_law 1115 = .ok (.iaload, 1) := by decide +kernel
theorem dL_law_1116 : decode cL_law 1116 = .ok (.invokevirtual 130, 3) := by decide +kernel
theorem dL_law_1119 : decode cL_law 1119 = .ok (.if_icmp .eq 55, 3) := by decide +kernel
theorem dL_law_1122 : decode cL_law 1122 = .ok (.iconst 0, 1) := by decide +kernel
theorem dL_law_1123 : decode cL_law 1123 = .ok (.ireturn, 1) := by decide +kernel
theorem dL_law_1124 : decode cL_law 1124 = .ok (.aload_n 1, 1) := by decide +kernel
theorem dL_law_1125 : decode cL_law 1125 = .ok (.aload_n 0, 1) := by decide +kernel
theorem dL_law_1126 : decode cL_law 1126 = .ok (.iload 4, 2) := by decide +kernel
theorem dL_law_1128 : decode cL_law 1128 = .ok (.iconst 1, 1) := by decide +kernel
theorem dL_law_1129 : decode cL_law 1129 = .ok (.iadd, 1) := by decide +kernel
theorem dL_law_1130 : decode cL_law 1130 = .ok (.iaload, 1) := by decide +kernel
theorem dL_law_1131 : decode cL_law 1131 = .ok (.invokevirtual 131, 3) := by decide +kernel
theorem dL_law_1134 : decode cL_law 1134 = .ok (.aload_n 2, 1) := by decide +kernel
theorem dL_law_1135 : decode cL_law 1135 = .ok (.aload_n 0, 1) := by decide +kernel
theorem dL_law_1136 : decode cL_law 1136 = .ok (.iload 4, 2) := by decide +kernel
theorem dL_law_1138 : decode cL_law 1138 = .ok (.iconst 1, 1) := by decide +kernel
theorem dL_law_1139 : decode cL_law 1139 = .ok (.iadd, 1) := by decide +kernel
theorem dL_law_1140 : decode cL_law 1140 = .ok (.iaload, 1) := by decide +kernel
theorem dL_law_1141 : decode cL_law 1141 = .ok (.invokevirtual 134, 3) := by decide +kernel
theorem dL_law_1144 : decode cL_law 1144 = .ok (.if_icmp .eq 30, 3) := by decide +kernel
theorem dL_law_1147 : decode cL_law 1147 = .ok (.iconst 0, 1) := by decide +kernel
theorem dL_law_1148 : decode cL_law 1148 = .ok (.ireturn, 1) := by decide +kernel
theorem dL_law_1149 : decode cL_law 1149 = .ok (.aload_n 1, 1) := by decide +kernel
theorem dL_law_1150 : decode cL_law 1150 = .ok (.aload_n 0, 1) := by decide +kernel
theorem dL_law_1151 : decode cL_law 1151 = .ok (.iload 4, 2) := by decide +kernel
theorem dL_law_1153 : decode cL_law 1153 = .ok (.iconst 1, 1) := by decide +kernel
theorem dL_law_1154 : decode cL_law 1154 = .ok (.iadd, 1) := by decide +kernel
theorem dL_law_1155 : decode cL_law 1155 = .ok (.iaload, 1) := by decide +kernel
theorem dL_law_1156 : decode cL_law 1156 = .ok (.invokevirtual 135, 3) := by decide +kernel
theorem dL_law_1159 : decode cL_law 1159 = .ok (.aload_n 2, 1) := by decide +kernel
theorem dL_law_1160 : decode cL_law 1160 = .ok (.aload_n 0, 1) := by decide +kernel
theorem dL_law_1161 : decode cL_law 1161 = .ok (.iload 4, 2) := by decide +kernel
theorem dL_law_1163 : decode cL_law 1163 = .ok (.iconst 1, 1) := by decide +kernel
theorem dL_law_1164 : decode cL_law 1164 = .ok (.iadd, 1) := by decide +kernel
theorem dL_law_1165 : decode cL_law 1165 = .ok (.iaload, 1) := by decide +kernel
theorem dL_law_1166 : decode cL_law 1166 = .ok (.invokevirtual 138, 3) := by decide +kernel
theorem dL_law_1169 : decode cL_law 1169 = .ok (.if_icmp .eq 5, 3) := by decide +kernel
theorem dL_law_1172 : decode cL_law 1172 = .ok (.iconst 0, 1) := by decide +kernel
theorem dL_law_1173 : decode cL_law 1173 = .ok (.ireturn, 1) := by decide +kernel
theorem dL_law_1174 : decode cL_law 1174 = .ok (.iinc 4 7, 3) := by decide +kernel
theorem dL_law_1177 : decode cL_law 1177 = .ok (.goto (-1154), 3) := by decide +kernel
theorem dL_law_1180 : decode cL_law 1180 = .ok (.iconst 1, 1) := by decide +kernel
theorem dL_law_1181 : decode cL_law 1181 = .ok (.ireturn, 1) := by decide +kernel
