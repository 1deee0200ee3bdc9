theorem dX12_work_60 : decode cX12_work 60 = .ok (.iload 4, 2) := by decide +kernel
theorem dX12_work_62 : decode cX12_work 62 = .ok (.aload_n 0, 1) := by decide +kernel
theorem dX12_work_63 : decode cX12_work 63 = .ok (.aload_n 0, 1) := by decide +kernel
theorem dX12_work_64 : decode cX12_work 64 = .ok (.iload 7, 2) := by decide +kernel
theorem dX12_work_66 : decode cX12_work 66 = .ok (.iload 8, 2) := by decide +kernel
theorem dX12_work_68 : decode cX12_work 68 = .ok (.invokevirtual 287, 3) := by decide +kernel
theorem dX12_work_71 : decode cX12_work 71 = .ok (.invokevirtual 280, 3) := by decide +kernel
theorem dX12_work_74 : decode cX12_work 74 = .ok (.lastore, 1) := by decide +kernel
theorem dX12_work_75 : decode cX12_work 75 = .ok (.iinc 4 1, 3) := by decide +kernel
theorem dX12_work_78 : decode cX12_work 78 = .ok (.goto 231, 3) := by decide +kernel
theorem dX12_work_81 : decode cX12_work 81 = .ok (.iload 7, 2) := by decide +kernel
theorem dX12_work_83 : decode cX12_work 83 = .ok (.iconst 2, 1) := by decide +kernel
theorem dX12_work_84 : decode cX12_work 84 = .ok (.if_icmp .ne 25, 3) := by decide +kernel
theorem dX12_work_87 : decode cX12_work 87 = .ok (.aload_n 0, 1) := by decide +kernel
theorem dX12_work_88 : decode cX12_work 88 = .ok (.getfield 50, 3) := by decide +kernel
theorem dX12_work_91 : decode cX12_work 91 = .ok (.iload 4, 2) := by decide +kernel
theorem dX12_work_93 : decode cX12_work 93 = .ok (.iconst 1, 1) := by decide +kernel
theorem dX12_work_94 : decode cX12_work 94 = .ok (.isub, 1) := by decide +kernel
theorem dX12_work_95 : decode cX12_work 95 = .ok (.aload_n 0, 1) := by decide +kernel
theorem dX12_work_96 : decode cX12_work 96 = .ok (.getfield 50, 3) := by decide +kernel
theorem dX12_work_99 : decode cX12_work 99 = .ok (.iload 4, 2) := by decide +kernel
theorem dX12_work_101 : decode cX12_work 101 = .ok (.iconst 1, 1) := by decide +kernel
theorem dX12_work_102 : decode cX12_work 102 = .ok (.isub, 1) := by decide +kernel
theorem dX12_work_103 : decode cX12_work 103 = .ok (.laload, 1) := by decide +kernel
theorem dX12_work_104 : decode cX12_work 104 = .ok (.lneg, 1) := by decide +kernel
theorem dX12_work_105 : decode cX12_work 105 = .ok (.lastore, 1) := by decide +kernel
theorem dX12_work_106 : decode cX12_work 106 = .ok (.goto 203, 3) := by decide +kernel
theorem dX12_work_109 : decode cX12_work 109 = .ok (.iload 7, 2) := by decide +kernel
theorem dX12_work_111 : decode cX12_work 111 = .ok (.bipush 10, 2) := by decide +kernel
theorem dX12_work_113 : decode cX12_work 113 = .ok (.if_icmp .ge 40, 3) := by decide +kernel
theorem dX12_work_116 : decode cX12_work 116 = .ok (.iinc 4 (-1), 3) := by decide +kernel
theorem dX12_work_119 : decode cX12_work 119 = .ok (.aload_n 0, 1) := by decide +kernel
theorem dX12_work_120 : decode cX12_work 120 = .ok (.getfield 50, 3) := by decide +kernel
theorem dX12_work_123 : decode cX12_work 123 = .ok (.iload 4, 2) := by decide +kernel
theorem dX12_work_125 : decode cX12_work 125 = .ok (.iconst 1, 1) := by decide +kernel
theorem dX12_work_126 : decode cX12_work 126 = .ok (.isub, 1) := by decide +kernel
theorem dX12_work_127 : decode cX12_work 127 = .ok (.aload_n 0, 1) := by decide +kernel
theorem dX12_work_128 : decode cX12_work 128 = .ok (.iload 7, 2) := by decide +kernel
theorem dX12_work_130 : decode cX12_work 130 = .ok (.aload_n 0, 1) := by decide +kernel
theorem dX12_work_131 : decode cX12_work 131 = .ok (.getfield 50, 3) := by decide +kernel
theorem dX12_work_134 : decode cX12_work 134 = .ok (.iload 4, 2) := by decide +kernel
theorem dX12_work_136 : decode cX12_work 136 = .ok (.iconst 1, 1) := by decide +kernel
theorem dX12_work_137 : decode cX12_work 137 = .ok (.isub, 1) := by decide +kernel
theorem dX12_work_138 : decode cX12_work 138 = .ok (.laload, 1) := by decide +kernel
theorem dX12_work_139 : decode cX12_work 139 = .ok (.aload_n 0, 1) := by decide +kernel
theorem dX12_work_140 : decode cX12_work 140 = .ok (.getfield 50, 3) := by decide +kernel
theorem dX12_work_143 : decode cX12_work 143 = .ok (.iload 4, 2) := by decide +kernel
theorem dX12_work_145 : decode cX12_work 145 = .ok (.laload, 1) := by decide +kernel
theorem dX12_work_146 : decode cX12_work 146 = .ok (.invokevirtual 291, 3) := by decide +kernel
theorem dX12_work_149 : decode cX12_work 149 = .ok (.lastore, 1) := by decide +kernel
theorem dX12_work_150 : decode cX12_work 150 = .ok (.goto 159, 3) := by decide +kernel
theorem dX12_work_153 : decode cX12_work 153 = .ok (.iload 7, 2) := by decide +kernel
theorem dX12_work_155 : decode cX12_work 155 = .ok (.bipush 20, 2) := by decide +kernel
theorem dX12_work_157 : decode cX12_work 157 = .ok (.if_icmp .ge 40, 3) := by decide +kernel
theorem dX12_work_160 : decode cX12_work 160 = .ok (.iinc 4 (-2), 3) := by decide +kernel
theorem dX12_work_163 : decode cX12_work 163 = .ok (.aload_n 0, 1) := by decide +kernel
theorem dX12_work_164 : decode cX12_work 164 = .ok (.getfield 54, 3) := by decide +kernel
theorem dX12_work_167 : decode cX12_work 167 = .ok (.iload 5, 2) := by decide +kernel
theorem dX12_work_169 : decode cX12_work 169 = .ok (.iload 7, 2) := by decide +kernel
theorem dX12_work_171 : decode cX12_work 171 = .ok (.aload_n 0, 1) := by decide +kernel
theorem dX12_work_172 : decode cX12_work 172 = .ok (.getfield 50, 3) := by decide +kernel
theorem dX12_work_175 : decode cX12_work 175 = .ok (.iload 4, 2) := by decide +kernel
theorem dX12_work_177 : decode cX12_work 177 = .ok (.laload, 1) := by decide +kernel
theorem dX12_work_178 : decode cX12_work 178 = .ok (.aload_n 0, 1) := by decide +kernel
theorem dX12_work_179 : decode cX12_work 179 = .ok (.getfield 50, 3) := by decide +kernel
theorem dX12_work_182 : decode cX12_work 182 = .ok (.iload 4, 2) := by decide +kernel
theorem dX12_work_184 : decode cX12_work 184 = .ok (.iconst 1, 1) := by decide +kernel
theorem dX12_work_185 : decode cX12_work 185 = .ok (.iadd, 1) := by decide +kernel
theorem dX12_work_186 : decode cX12_work 186 = .ok (.laload, 1) := by decide +kernel
theorem dX12_work_187 : decode cX12_work 187 = .ok (.invokestatic 295, 3) := by decide +kernel
theorem dX12_work_190 : decode cX12_work 190 = .ok (.bastore, 1) := by decide +kernel
theorem dX12_work_191 : decode cX12_work 191 = .ok (.iinc 5 1, 3) := by decide +kernel
theorem dX12_work_194 : decode cX12_work 194 = .ok (.goto 115, 3) := by decide +kernel
theorem dX12_work_197 : decode cX12_work 197 = .ok (.iload 7, 2) := by decide +kernel
theorem dX12_work_199 : decode cX12_work 199 = .ok (.bipush 20, 2) := by decide +kernel
theorem dX12_work_201 : decode cX12_work 201 = .ok (.if_icmp .ne 32, 3) := by decide +kernel
theorem dX12_work_204 : decode cX12_work 204 = .ok (.aload_n 0, 1) := by decide +kernel
theorem dX12_work_205 : decode cX12_work 205 = .ok (.getfield 54, 3) := by decide +kernel
theorem dX12_work_208 : decode cX12_work 208 = .ok (.iload 5, 2) := by decide +kernel
theorem dX12_work_210 : decode cX12_work 210 = .ok (.iconst 1, 1) := by decide +kernel
theorem dX12_work_211 : decode cX12_work 211 = .ok (.isub, 1) := by decide +kernel
theorem dX12_work_212 : decode cX12_work 212 = .ok (.aload_n 0, 1) := by decide +kernel
theorem dX12_work_213 : decode cX12_work 213 = .ok (.getfield 54, 3) := by decide +kernel
theorem dX12_work_216 : decode cX12_work 216 = .ok (.iload 5, 2) := by decide +kernel
theorem dX12_work_218 : decode cX12_work 218 = .ok (.iconst 1, 1) := by decide +kernel
theorem dX12_work_219 : decode cX12_work 219 = .ok (.isub, 1) := by decide +kernel
theorem dX12_work_220 : decode cX12_work 220 = .ok (.baload, 1) := by decide +kernel
theorem dX12_work_221 : decode cX12_work 221 = .ok (.ifCond .ne 7, 3) := by decide +kernel
theorem dX12_work_224 : decode cX12_work 224 = .ok (.iconst 1, 1) := by decide +kernel
theorem dX12_work_225 : decode cX12_work 225 = .ok (.goto 4, 3) := by decide +kernel
theorem dX12_work_228 : decode cX12_work 228 = .ok (.iconst 0, 1) := by decide +kernel
theorem dX12_work_229 : decode cX12_work 229 = .ok (.bastore, 1) := by decide +kernel
theorem dX12_work_230 : decode cX12_work 230 = .ok (.goto 79, 3) := by decide +kernel
theorem dX12_work_233 : decode cX12_work 233 = .ok (.iinc 5 (-1), 3) := by decide +kernel
theorem dX12_work_236 : decode cX12_work 236 = .ok (.aload_n 0, 1) := by decide +kernel
theorem dX12_work_237 : decode cX12_work 237 = .ok (.getfield 54, 3) := by decide +kernel
theorem dX12_work_240 : decode cX12_work 240 = .ok (.iload 5, 2) := by decide +kernel
theorem dX12_work_242 : decode cX12_work 242 = .ok (.iconst 1, 1) := by decide +kernel
theorem dX12_work_243 : decode cX12_work 243 = .ok (.isub, 1) := by decide +kernel
theorem dX12_work_244 : decode cX12_work 244 = .ok (.iload 7, 2) := by decide +kernel
theorem dX12_work_246 : decode cX12_work 246 = .ok (.bipush 21, 2) := by decide +kernel
theorem dX12_work_248 : decode cX12_work 248 = .ok (.if_icmp .ne 33, 3) := by decide +kernel
theorem dX12_work_251 : decode cX12_work 251 = .ok (.aload_n 0, 1) := by decide +kernel
theorem dX12_work_252 : decode cX12_work 252 = .ok (.getfield 54, 3) := by decide +kernel
theorem dX12_work_255 : decode cX12_work 255 = .ok (.iload 5, 2) := by decide +kernel
theorem dX12_work_257 : decode cX12_work 257 = .ok (.iconst 1, 1) := by decide +kernel
theorem dX12_work_258 : decode cX12_work 258 = .ok (.isub, 1) := by decide +kernel
theorem dX12_work_259 : decode cX12_work 259 = .ok (.baload, 1) := by decide +kernel
theorem dX12_work_260 : decode cX12_work 260 = .ok (.ifCond .eq 17, 3) := by decide +kernel
theorem dX12_work_263 : decode cX12_work 263 = .ok (.aload_n 0, 1) := by decide +kernel
theorem dX12_work_264 : decode cX12_work 264 = .ok (.getfield 54, 3) := by decide +kernel
theorem dX12_work_267 : decode cX12_work 267 = .ok (.iload 5, 2) := by decide +kernel
theorem dX12_work_269 : decode cX12_work 269 = .ok (.baload, 1) := by decide +kernel
theorem dX12_work_270 : decode cX12_work 270 = .ok (.ifCond .eq 7, 3) := by decide +kernel
theorem dX12_work_273 : decode cX12_work 273 = .ok (.iconst 1, 1) := by decide +kernel
theorem dX12_work_274 : decode cX12_work 274 = .ok (.goto 34, 3) := by decide +kernel
theorem dX12_work_277 : decode cX12_work 277 = .ok (.iconst 0, 1) := by decide +kernel
theorem dX12_work_278 : decode cX12_work 278 = .ok (.goto 30, 3) := by decide +kernel
theorem dX12_work_281 : decode cX12_work 281 = .ok (.aload_n 0, 1) := by decide +kernel
theorem dX12_work_282 : decode cX12_work 282 = .ok (.getfield 54, 3) := by decide +kernel
theorem dX12_work_285 : decode cX12_work 285 = .ok (.iload 5, 2) := by decide +kernel
theorem dX12_work_287 : decode cX12_work 287 = .ok (.iconst 1, 1) := by decide +kernel
theorem dX12_work_288 : decode cX12_work 288 = .ok (.isub, 1) := by decide +kernel
theorem dX12_work_289 : decode cX12_work 289 = .ok (.baload, 1) := by decide +kernel
theorem dX12_work_290 : decode cX12_work 290 = .ok (.ifCond .ne 13, 3) := by decide +kernel
theorem dX12_work_293 : decode cX12_work 293 = .ok (.aload_n 0, 1) := by decide +kernel
theorem dX12_work_294 : decode cX12_work 294 = .ok (.getfield 54, 3) := by decide +kernel
theorem dX12_work_297 : decode cX12_work 297 = .ok (.iload 5, 2) := by decide +kernel
theorem dX12_work_299 : decode cX12_work 299 = .ok (.baload, 1) := by decide +kernel
theorem dX12_work_300 : decode cX12_work 300 = .ok (.ifCond .eq 7, 3) := by decide +kernel
theorem dX12_work_303 : decode cX12_work 303 = .ok (.iconst 1, 1) := by decide +kernel
theorem dX12_work_304 : decode cX12_work 304 = .ok (.goto 4, 3) := by decide +kernel
theorem dX12_work_307 : decode cX12_work 307 = .ok (.iconst 0, 1) := by decide +kernel
theorem dX12_work_308 : decode cX12_work 308 = .ok (.bastore, 1) := by decide +kernel
theorem dX12_work_309 : decode cX12_work 309 = .ok (.iinc 6 1, 3) := by decide +kernel
theorem dX12_work_312 : decode cX12_work 312 = .ok (.goto (-303), 3) := by decide +kernel
theorem dX12_work_315 : decode cX12_work 315 = .ok (.return_, 1) := by decide +kernel
theorem dX12_think_0 : decode cX12_think 0 = .ok (.sipush 800, 3) := by decide +kernel
theorem dX12_think_3 : decode cX12_think 3 = .ok (.iload_n 1, 1) := by decide +kernel
theorem dX12_think_4 : decode cX12_think 4 = .ok (.imul, 1) := by decide +kernel
theorem dX12_think_5 : decode cX12_think 5 = .ok (.istore_n 2, 1) := by decide +kernel
theorem dX12_think_6 : decode cX12_think 6 = .ok (.iconst 0, 1) := by decide +kernel
theorem dX12_think_7 : decode cX12_think 7 = .ok (.istore_n 3, 1) := by decide +kernel
theorem dX12_think_8 : decode cX12_think 8 = .ok (.aload_n 0, 1) := by decide +kernel
theorem dX12_think_9 : decode cX12_think 9 = .ok (.iconst 0, 1) := by decide +kernel
theorem dX12_think_10 : decode cX12_think 10 = .ok (.putfield 299, 3) := by decide +kernel
theorem dX12_think_13 : decode cX12_think 13 = .ok (.aload_n 0, 1) := by decide +kernel
theorem dX12_think_14 : decode cX12_think 14 = .ok (.iconst 0, 1) := by decide +kernel
theorem dX12_think_15 : decode cX12_think 15 = .ok (.putfield 302, 3) := by decide +kernel
theorem dX12_think_18 : decode cX12_think 18 = .ok (.iconst 0, 1) := by decide +kernel
theorem dX12_think_19 : decode cX12_think 19 = .ok (.istore 4, 2) := by decide +kernel
theorem dX12_think_21 : decode cX12_think 21 = .ok (.iload 4, 2) := by decide +kernel
theorem dX12_think_23 : decode cX12_think 23 = .ok (.aload_n 0, 1) := by decide +kernel
theorem dX12_think_24 : decode cX12_think 24 = .ok (.getfield 16, 3) := by decide +kernel
theorem dX12_think_27 : decode cX12_think 27 = .ok (.iload_n 2, 1) := by decide +kernel
theorem dX12_think_28 : decode cX12_think 28 = .ok (.iaload, 1) := by decide +kernel
theorem dX12_think_29 : decode cX12_think 29 = .ok (.if_icmp .ge 208, 3) := by decide +kernel
theorem dX12_think_32 : decode cX12_think 32 = .ok (.iload_n 2, 1) := by decide +kernel
theorem dX12_think_33 : decode cX12_think 33 = .ok (.iconst 1, 1) := by decide +kernel
theorem dX12_think_34 : decode cX12_think 34 = .ok (.iadd, 1) := by decide +kernel
theorem dX12_think_35 : decode cX12_think 35 = .ok (.iconst 4, 1) := by decide +kernel
theorem dX12_think_36 : decode cX12_think 36 = .ok (.iload 4, 2) := by decide +kernel
theorem dX12_think_38 : decode cX12_think 38 = .ok (.imul, 1) := by decide +kernel
theorem dX12_think_39 : decode cX12_think 39 = .ok (.iadd, 1) := by decide +kernel
theorem dX12_think_40 : decode cX12_think 40 = .ok (.istore 5, 2) := by decide +kernel
theorem dX12_think_42 : decode cX12_think 42 = .ok (.aload_n 0, 1) := by decide +kernel
theorem dX12_think_43 : decode cX12_think 43 = .ok (.iload_n 2, 1) := by decide +kernel
theorem dX12_think_44 : decode cX12_think 44 = .ok (.bipush 80, 2) := by decide +kernel
theorem dX12_think_46 : decode cX12_think 46 = .ok (.iadd, 1) := by decide +kernel
theorem dX12_think_47 : decode cX12_think 47 = .ok (.aload_n 0, 1) := by decide +kernel
theorem dX12_think_48 : decode cX12_think 48 = .ok (.getfield 16, 3) := by decide +kernel
theorem dX12_think_51 : decode cX12_think 51 = .ok (.iload 5, 2) := by decide +kernel
theorem dX12_think_53 : decode cX12_think 53 = .ok (.iconst 2, 1) := by decide +kernel
theorem dX12_think_54 : decode cX12_think 54 = .ok (.iadd, 1) := by decide +kernel
theorem dX12_think_55 : decode cX12_think 55 = .ok (.iaload, 1) := by decide +kernel
theorem dX12_think_56 : decode cX12_think 56 = .ok (.aload_n 0, 1) := by decide +kernel
theorem dX12_think_57 : decode cX12_think 57 = .ok (.getfield 16, 3) := by decide +kernel
theorem dX12_think_60 : decode cX12_think 60 = .ok (.iload 5, 2) := by decide +kernel
theorem dX12_think_62 : decode cX12_think 62 = .ok (.iconst 3, 1) := by decide +kernel
theorem dX12_think_63 : decode cX12_think 63 = .ok (.iadd, 1) := by decide +kernel
theorem dX12_think_64 : decode cX12_think 64 = .ok (.iaload, 1) := by decide +kernel
theorem dX12_think_65 : decode cX12_think 65 = .ok (.invokevirtual 305, 3) := by decide +kernel
theorem dX12_think_68 : decode cX12_think 68 = .ok (.aload_n 0, 1) := by decide +kernel
theorem dX12_think_69 : decode cX12_think 69 = .ok (.getfield 16, 3) := by decide +kernel
theorem dX12_think_72 : decode cX12_think 72 = .ok (.iload 5, 2) := by decide +kernel
theorem dX12_think_74 : decode cX12_think 74 = .ok (.iaload, 1) := by decide +kernel
theorem dX12_think_75 : decode cX12_think 75 = .ok (.iconst 1, 1) := by decide +kernel
theorem dX12_think_76 : decode cX12_think 76 = .ok (.if_icmp .ne 24, 3) := by decide +kernel
theorem dX12_think_79 : decode cX12_think 79 = .ok (.aload_n 0, 1) := by decide +kernel
theorem dX12_think_80 : decode cX12_think 80 = .ok (.getfield 47, 3) := by decide +kernel
theorem dX12_think_83 : decode cX12_think 83 = .ok (.aload_n 0, 1) := by decide +kernel
theorem dX12_think_84 : decode cX12_think 84 = .ok (.getfield 16, 3) := by decide +kernel
theorem dX12_think_87 : decode cX12_think 87 = .ok (.iload 5, 2) := by decide +kernel
theorem dX12_think_89 : decode cX12_think 89 = .ok (.iconst 1, 1) := by decide +kernel
theorem dX12_think_90 : decode cX12_think 90 = .ok (.iadd, 1) := by decide +kernel
theorem dX12_think_91 : decode cX12_think 91 = .ok (.iaload, 1) := by decide +kernel
theorem dX12_think_92 : decode cX12_think 92 = .ok (.aload_n 0, 1) := by decide +kernel
theorem dX12_think_93 : decode cX12_think 93 = .ok (.getfield 50, 3) := by decide +kernel
theorem dX12_think_96 : decode cX12_think 96 = .ok (.iconst 0, 1) := by decide +kernel
theorem dX12_think_97 : decode cX12_think 97 = .ok (.laload, 1) := by decide +kernel
theorem dX12_think_98 : decode cX12_think 98 = .ok (.l2i, 1) := by decide +kernel
theorem dX12_think_99 : decode cX12_think 99 = .ok (.iastore, 1) := by decide +kernel
theorem dX12_think_100 : decode cX12_think 100 = .ok (.aload_n 0, 1) := by decide +kernel
theorem dX12_think_101 : decode cX12_think 101 = .ok (.getfield 16, 3) := by decide +kernel
theorem dX12_think_104 : decode cX12_think 104 = .ok (.iload 5, 2) := by decide +kernel
theorem dX12_think_106 : decode cX12_think 106 = .ok (.iaload, 1) := by decide +kernel
theorem dX12_think_107 : decode cX12_think 107 = .ok (.iconst 2, 1) := by decide +kernel
theorem dX12_think_108 : decode cX12_think 108 = .ok (.if_icmp .ne 50, 3) := by decide +kernel
theorem dX12_think_111 : decode cX12_think 111 = .ok (.aload_n 0, 1) := by decide +kernel
theorem dX12_think_112 : decode cX12_think 112 = .ok (.aload_n 0, 1) := by decide +kernel
theorem dX12_think_113 : decode cX12_think 113 = .ok (.getfield 50, 3) := by decide +kernel
theorem dX12_think_116 : decode cX12_think 116 = .ok (.iconst 0, 1) := by decide +kernel
theorem dX12_think_117 : decode cX12_think 117 = .ok (.laload, 1) := by decide +kernel
theorem dX12_think_118 : decode cX12_think 118 = .ok (.ldc2_w 308, 3) := by decide +kernel
theorem dX12_think_121 : decode cX12_think 121 = .ok (.lcmp, 1) := by decide +kernel
theorem dX12_think_122 : decode cX12_think 122 = .ok (.ifCond .ge 8, 3) := by decide +kernel
theorem dX12_think_125 : decode cX12_think 125 = .ok (.bipush (-8), 2) := by decide +kernel
theorem dX12_think_127 : decode cX12_think 127 = .ok (.goto 28, 3) := by decide +kernel
theorem dX12_think_130 : decode cX12_think 130 = .ok (.aload_n 0, 1) := by decide +kernel
theorem dX12_think_131 : decode cX12_think 131 = .ok (.getfield 50, 3) := by decide +kernel
theorem dX12_think_134 : decode cX12_think 134 = .ok (.iconst 0, 1) := by decide +kernel
theorem dX12_think_135 : decode cX12_think 135 = .ok (.laload, 1) := by decide +kernel
theorem dX12_think_136 : decode cX12_think 136 = .ok (.ldc2_w 310, 3) := by decide +kernel
theorem dX12_think_139 : decode cX12_think 139 = .ok (.lcmp, 1) := by decide +kernel
theorem dX12_think_140 : decode cX12_think 140 = .ok (.ifCond .le 8, 3) := by decide +kernel
theorem dX12_think_143 : decode cX12_think 143 = .ok (.bipush 8, 2) := by decide +kernel
theorem dX12_think_145 : decode cX12_think 145 = .ok (.goto 10, 3) := by decide +kernel
theorem dX12_think_148 : decode cX12_think 148 = .ok (.aload_n 0, 1) := by decide +kernel
theorem dX12_think_149 : decode cX12_think 149 = .ok (.getfield 50, 3) := by decide +kernel
theorem dX12_think_152 : decode cX12_think 152 = .ok (.iconst 0, 1) := by decide +kernel
theorem dX12_think_153 : decode cX12_think 153 = .ok (.laload, 1) := by decide +kernel
theorem dX12_think_154 : decode cX12_think 154 = .ok (.l2i, 1) := by decide +kernel
theorem dX12_think_155 : decode cX12_think 155 = .ok (.putfield 299, 3) := by decide +kernel
theorem dX12_think_158 : decode cX12_think 158 = .ok (.aload_n 0, 1) := by decide +kernel
theorem dX12_think_159 : decode cX12_think 159 = .ok (.getfield 16, 3) := by decide +kernel
theorem dX12_think_162 : decode cX12_think 162 = .ok (.iload 5, 2) := by decide +kernel
theorem dX12_think_164 : decode cX12_think 164 = .ok (.iaload, 1) := by decide +kernel
theorem dX12_think_165 : decode cX12_think 165 = .ok (.iconst 3, 1) := by decide +kernel
theorem dX12_think_166 : decode cX12_think 166 = .ok (.if_icmp .ne 47, 3) := by decide +kernel
theorem dX12_think_169 : decode cX12_think 169 = .ok (.aload_n 0, 1) := by decide +kernel
theorem dX12_think_170 : decode cX12_think 170 = .ok (.aload_n 0, 1) := by decide +kernel
theorem dX12_think_171 : decode cX12_think 171 = .ok (.getfield 50, 3) := by decide +kernel
theorem dX12_think_174 : decode cX12_think 174 = .ok (.iconst 0, 1) := by decide +kernel
theorem dX12_think_175 : decode cX12_think 175 = .ok (.laload, 1) := by decide +kernel
theorem dX12_think_176 : decode cX12_think 176 = .ok (.lconst 0, 1) := by decide +kernel
theorem dX12_think_177 : decode cX12_think 177 = .ok (.lcmp, 1) := by decide +kernel
theorem dX12_think_178 : decode cX12_think 178 = .ok (.ifCond .ge 7, 3) := by decide +kernel
theorem dX12_think_181 : decode cX12_think 181 = .ok (.iconst 0, 1) := by decide +kernel
theorem dX12_think_182 : decode cX12_think 182 = .ok (.goto 28, 3) := by decide +kernel
theorem dX12_think_185 : decode cX12_think 185 = .ok (.aload_n 0, 1) := by decide +kernel
theorem dX12_think_186 : decode cX12_think 186 = .ok (.getfield 50, 3) := by decide +kernel
theorem dX12_think_189 : decode cX12_think 189 = .ok (.iconst 0, 1) := by decide +kernel
theorem dX12_think_190 : decode cX12_think 190 = .ok (.laload, 1) := by decide +kernel
theorem dX12_think_191 : decode cX12_think 191 = .ok (.ldc2_w 312, 3) := by decide +kernel
theorem dX12_think_194 : decode cX12_think 194 = .ok (.lcmp, 1) := by decide +kernel
theorem dX12_think_195 : decode cX12_think 195 = .ok (.ifCond .le 8, 3) := by decide +kernel
theorem dX12_think_198 : decode cX12_think 198 = .ok (.bipush 16, 2) := by decide +kernel
theorem dX12_think_200 : decode cX12_think 200 = .ok (.goto 10, 3) := by decide +kernel
theorem dX12_think_203 : decode cX12_think 203 = .ok (.aload_n 0, 1) := by decide +kernel
theorem dX12_think_204 : decode cX12_think 204 = .ok (.getfield 50, 3) := by decide +kernel
theorem dX12_think_207 : decode cX12_think 207 = .ok (.iconst 0, 1) := by decide +kernel
theorem dX12_think_208 : decode cX12_think 208 = .ok (.laload, 1) := by decide +kernel
theorem dX12_think_209 : decode cX12_think 209 = .ok (.l2i, 1) := by decide +kernel
theorem dX12_think_210 : decode cX12_think 210 = .ok (.putfield 302, 3) := by decide +kernel
theorem dX12_think_213 : decode cX12_think 213 = .ok (.aload_n 0, 1) := by decide +kernel
theorem dX12_think_214 : decode cX12_think 214 = .ok (.getfield 16, 3) := by decide +kernel
theorem dX12_think_217 : decode cX12_think 217 = .ok (.iload 5, 2) := by decide +kernel
theorem dX12_think_219 : decode cX12_think 219 = .ok (.iaload, 1) := by decide +kernel
theorem dX12_think_220 : decode cX12_think 220 = .ok (.iconst 4, 1) := by decide +kernel
theorem dX12_think_221 : decode cX12_think 221 = .ok (.if_icmp .ne 10, 3) := by decide +kernel
theorem dX12_think_224 : decode cX12_think 224 = .ok (.aload_n 0, 1) := by decide +kernel
theorem dX12_think_225 : decode cX12_think 225 = .ok (.getfield 54, 3) := by decide +kernel
theorem dX12_think_228 : decode cX12_think 228 = .ok (.iconst 0, 1) := by decide +kernel
theorem dX12_think_229 : decode cX12_think 229 = .ok (.baload, 1) := by decide +kernel
theorem dX12_think_230 : decode cX12_think 230 = .ok (.istore_n 3, 1) := by decide +kernel
theorem dX12_think_231 : decode cX12_think 231 = .ok (.iinc 4 1, 3) := by decide +kernel
theorem dX12_think_234 : decode cX12_think 234 = .ok (.goto (-213), 3) := by decide +kernel
theorem dX12_think_237 : decode cX12_think 237 = .ok (.iload_n 3, 1) := by decide +kernel
theorem dX12_think_238 : decode cX12_think 238 = .ok (.ireturn, 1) := by decide +kernel
theorem dX12_see__0 : decode cX12_see_ 0 = .ok (.bipush 38, 2) := by decide +kernel
theorem dX12_see__2 : decode cX12_see_ 2 = .ok (.aload_n 0, 1) := by decide +kernel
theorem dX12_see__3 : decode cX12_see_ 3 = .ok (.getfield 284, 3) := by decide +kernel
theorem dX12_see__6 : decode cX12_see_ 6 = .ok (.imul, 1) := by decide +kernel
theorem dX12_see__7 : decode cX12_see_ 7 = .ok (.istore_n 1, 1) := by decide +kernel
theorem dX12_see__8 : decode cX12_see_ 8 = .ok (.aload_n 0, 1) := by decide +kernel
theorem dX12_see__9 : decode cX12_see_ 9 = .ok (.aload_n 0, 1) := by decide +kernel
theorem dX12_see__10 : decode cX12_see_ 10 = .ok (.getfield 314, 3) := by decide +kernel
theorem dX12_see__13 : decode cX12_see_ 13 = .ok (.aload_n 0, 1) := by decide +kernel
theorem dX12_see__14 : decode cX12_see_ 14 = .ok (.getfield 317, 3) := by decide +kernel
theorem dX12_see__17 : decode cX12_see_ 17 = .ok (.aload_n 0, 1) := by decide +kernel
theorem dX12_see__18 : decode cX12_see_ 18 = .ok (.getfield 284, 3) := by decide +kernel
theorem dX12_see__21 : decode cX12_see_ 21 = .ok (.invokevirtual 124, 3) := by decide +kernel
theorem dX12_see__24 : decode cX12_see_ 24 = .ok (.iconst 0, 1) := by decide +kernel
theorem dX12_see__25 : decode cX12_see_ 25 = .ok (.istore_n 2, 1) := by decide +kernel
theorem dX12_see__26 : decode cX12_see_ 26 = .ok (.iload_n 2, 1) := by decide +kernel
theorem dX12_see__27 : decode cX12_see_ 27 = .ok (.aload_n 0, 1) := by decide +kernel
theorem dX12_see__28 : decode cX12_see_ 28 = .ok (.getfield 7, 3) := by decide +kernel
theorem dX12_see__31 : decode cX12_see_ 31 = .ok (.iconst 1, 1) := by decide +kernel
theorem dX12_see__32 : decode cX12_see_ 32 = .ok (.iaload, 1) := by decide +kernel
theorem dX12_see__33 : decode cX12_see_ 33 = .ok (.if_icmp .ge 28, 3) := by decide +kernel
theorem dX12_see__36 : decode cX12_see_ 36 = .ok (.aload_n 0, 1) := by decide +kernel
theorem dX12_see__37 : decode cX12_see_ 37 = .ok (.getfield 44, 3) := by decide +kernel
theorem dX12_see__40 : decode cX12_see_ 40 = .ok (.iload_n 1, 1) := by decide +kernel
theorem dX12_see__41 : decode cX12_see_ 41 = .ok (.iconst 5, 1) := by decide +kernel
theorem dX12_see__42 : decode cX12_see_ 42 = .ok (.iadd, 1) := by decide +kernel
theorem dX12_see__43 : decode cX12_see_ 43 = .ok (.iload_n 2, 1) := by decide +kernel
theorem dX12_see__44 : decode cX12_see_ 44 = .ok (.iadd, 1) := by decide +kernel
theorem dX12_see__45 : decode cX12_see_ 45 = .ok (.aload_n 0, 1) := by decide +kernel
theorem dX12_see__46 : decode cX12_see_ 46 = .ok (.iload_n 2, 1) := by decide +kernel
theorem dX12_see__47 : decode cX12_see_ 47 = .ok (.aload_n 0, 1) := by decide +kernel
theorem dX12_see__48 : decode cX12_see_ 48 = .ok (.getfield 320, 3) := by decide +kernel
theorem dX12_see__51 : decode cX12_see_ 51 = .ok (.invokevirtual 127, 3) := by decide +kernel
theorem dX12_see__54 : decode cX12_see_ 54 = .ok (.iastore, 1) := by decide +kernel
theorem dX12_see__55 : decode cX12_see_ 55 = .ok (.iinc 2 1, 3) := by decide +kernel
theorem dX12_see__58 : decode cX12_see_ 58 = .ok (.goto (-32), 3) := by decide +kernel
theorem dX12_see__61 : decode cX12_see_ 61 = .ok (.iconst 0, 1) := by decide +kernel
theorem dX12_see__62 : decode cX12_see_ 62 = .ok (.istore_n 2, 1) := by decide +kernel
theorem dX12_see__63 : decode cX12_see_ 63 = .ok (.iload_n 2, 1) := by decide +kernel
theorem dX12_see__64 : decode cX12_see_ 64 = .ok (.aload_n 0, 1) := by decide +kernel
theorem dX12_see__65 : decode cX12_see_ 65 = .ok (.getfield 7, 3) := by decide +kernel
theorem dX12_see__68 : decode cX12_see_ 68 = .ok (.iconst 2, 1) := by decide +kernel
theorem dX12_see__69 : decode cX12_see_ 69 = .ok (.iaload, 1) := by decide +kernel
theorem dX12_see__70 : decode cX12_see_ 70 = .ok (.if_icmp .ge 129, 3) := by decide +kernel
theorem dX12_see__73 : decode cX12_see_ 73 = .ok (.sipush 660, 3) := by decide +kernel
theorem dX12_see__76 : decode cX12_see_ 76 = .ok (.iconst 3, 1) := by decide +kernel
theorem dX12_see__77 : decode cX12_see_ 77 = .ok (.iload_n 2, 1) := by decide +kernel
theorem dX12_see__78 : decode cX12_see_ 78 = .ok (.imul, 1) := by decide +kernel
theorem dX12_see__79 : decode cX12_see_ 79 = .ok (.iadd, 1) := by decide +kernel
theorem dX12_see__80 : decode cX12_see_ 80 = .ok (.istore_n 3, 1) := by decide +kernel
theorem dX12_see__81 : decode cX12_see_ 81 = .ok (.iload_n 1, 1) := by decide +kernel
theorem dX12_see__82 : decode cX12_see_ 82 = .ok (.bipush 38, 2) := by decide +kernel
theorem dX12_see__84 : decode cX12_see_ 84 = .ok (.aload_n 0, 1) := by decide +kernel
theorem dX12_see__85 : decode cX12_see_ 85 = .ok (.getfield 7, 3) := by decide +kernel
theorem dX12_see__88 : decode cX12_see_ 88 = .ok (.iload_n 3, 1) := by decide +kernel
theorem dX12_see__89 : decode cX12_see_ 89 = .ok (.iconst 2, 1) := by decide +kernel
theorem dX12_see__90 : decode cX12_see_ 90 = .ok (.iadd, 1) := by decide +kernel
theorem dX12_see__91 : decode cX12_see_ 91 = .ok (.iaload, 1) := by decide +kernel
theorem dX12_see__92 : decode cX12_see_ 92 = .ok (.imul, 1) := by decide +kernel
theorem dX12_see__93 : decode cX12_see_ 93 = .ok (.isub, 1) := by decide +kernel
theorem dX12_see__94 : decode cX12_see_ 94 = .ok (.iconst 5, 1) := by decide +kernel
theorem dX12_see__95 : decode cX12_see_ 95 = .ok (.iadd, 1) := by decide +kernel
theorem dX12_see__96 : decode cX12_see_ 96 = .ok (.istore 4, 2) := by decide +kernel
theorem dX12_see__98 : decode cX12_see_ 98 = .ok (.aload_n 0, 1) := by decide +kernel
theorem dX12_see__99 : decode cX12_see_ 99 = .ok (.getfield 44, 3) := by decide +kernel
theorem dX12_see__102 : decode cX12_see_ 102 = .ok (.iload_n 1, 1) := by decide +kernel
theorem dX12_see__103 : decode cX12_see_ 103 = .ok (.bipush 21, 2) := by decide +kernel
theorem dX12_see__105 : decode cX12_see_ 105 = .ok (.iadd, 1) := by decide +kernel
theorem dX12_see__106 : decode cX12_see_ 106 = .ok (.iload_n 2, 1) := by decide +kernel
theorem dX12_see__107 : decode cX12_see_ 107 = .ok (.iadd, 1) := by decide +kernel
theorem dX12_see__108 : decode cX12_see_ 108 = .ok (.aload_n 0, 1) := by decide +kernel
theorem dX12_see__109 : decode cX12_see_ 109 = .ok (.getfield 284, 3) := by decide +kernel
theorem dX12_see__112 : decode cX12_see_ 112 = .ok (.aload_n 0, 1) := by decide +kernel
theorem dX12_see__113 : decode cX12_see_ 113 = .ok (.getfield 7, 3) := by decide +kernel
theorem dX12_see__116 : decode cX12_see_ 116 = .ok (.iload_n 3, 1) := by decide +kernel
theorem dX12_see__117 : decode cX12_see_ 117 = .ok (.iconst 2, 1) := by decide +kernel
theorem dX12_see__118 : decode cX12_see_ 118 = .ok (.iadd, 1) := by decide +kernel
theorem dX12_see__119 : decode cX12_see_ 119 = .ok (.iaload, 1) := by decide +kernel
theorem dX12_see__120 : decode cX12_see_ 120 = .ok (.if_icmp .ge 7, 3) := by decide +kernel
theorem dX12_see__123 : decode cX12_see_ 123 = .ok (.iconst 0, 1) := by decide +kernel
theorem dX12_see__124 : decode cX12_see_ 124 = .ok (.goto 68, 3) := by decide +kernel
theorem dX12_see__127 : decode cX12_see_ 127 = .ok (.aload_n 0, 1) := by decide +kernel
theorem dX12_see__128 : decode cX12_see_ 128 = .ok (.getfield 44, 3) := by decide +kernel
theorem dX12_see__131 : decode cX12_see_ 131 = .ok (.iload 4, 2) := by decide +kernel
theorem dX12_see__133 : decode cX12_see_ 133 = .ok (.aload_n 0, 1) := by decide +kernel
theorem dX12_see__134 : decode cX12_see_ 134 = .ok (.getfield 7, 3) := by decide +kernel
theorem dX12_see__137 : decode cX12_see_ 137 = .ok (.iload_n 3, 1) := by decide +kernel
theorem dX12_see__138 : decode cX12_see_ 138 = .ok (.iaload, 1) := by decide +kernel
theorem dX12_see__139 : decode cX12_see_ 139 = .ok (.iadd, 1) := by decide +kernel
theorem dX12_see__140 : decode cX12_see_ 140 = .ok (.iaload, 1) := by decide +kernel
theorem dX12_see__141 : decode cX12_see_ 141 = .ok (.aload_n 0, 1) := by decide +kernel
theorem dX12_see__142 : decode cX12_see_ 142 = .ok (.getfield 44, 3) := by decide +kernel
theorem dX12_see__145 : decode cX12_see_ 145 = .ok (.iload_n 1, 1) := by decide +kernel
theorem dX12_see__146 : decode cX12_see_ 146 = .ok (.iconst 5, 1) := by decide +kernel
theorem dX12_see__147 : decode cX12_see_ 147 = .ok (.iadd, 1) := by decide +kernel
theorem dX12_see__148 : decode cX12_see_ 148 = .ok (.aload_n 0, 1) := by decide +kernel
theorem dX12_see__149 : decode cX12_see_ 149 = .ok (.getfield 7, 3) := by decide +kernel
theorem dX12_see__152 : decode cX12_see_ 152 = .ok (.iload_n 3, 1) := by decide +kernel
theorem dX12_see__153 : decode cX12_see_ 153 = .ok (.iconst 1, 1) := by decide +kernel
theorem dX12_see__154 : decode cX12_see_ 154 = .ok (.iadd, 1) := by decide +kernel
theorem dX12_see__155 : decode cX12_see_ 155 = .ok (.iaload, 1) := by decide +kernel
theorem dX12_see__156 : decode cX12_see_ 156 = .ok (.iadd, 1) := by decide +kernel
theorem dX12_see__157 : decode cX12_see_ 157 = .ok (.iaload, 1) := by decide +kernel
theorem dX12_see__158 : decode cX12_see_ 158 = .ok (.imul, 1) := by decide +kernel
theorem dX12_see__159 : decode cX12_see_ 159 = .ok (.aload_n 0, 1) := by decide +kernel
theorem dX12_see__160 : decode cX12_see_ 160 = .ok (.getfield 44, 3) := by decide +kernel
theorem dX12_see__163 : decode cX12_see_ 163 = .ok (.iload_n 1, 1) := by decide +kernel
theorem dX12_see__164 : decode cX12_see_ 164 = .ok (.iconst 5, 1) := by decide +kernel
theorem dX12_see__165 : decode cX12_see_ 165 = .ok (.iadd, 1) := by decide +kernel
theorem dX12_see__166 : decode cX12_see_ 166 = .ok (.aload_n 0, 1) := by decide +kernel
theorem dX12_see__167 : decode cX12_see_ 167 = .ok (.getfield 7, 3) := by decide +kernel
theorem dX12_see__170 : decode cX12_see_ 170 = .ok (.iload_n 3, 1) := by decide +kernel
theorem dX12_see__171 : decode cX12_see_ 171 = .ok (.iaload, 1) := by decide +kernel
theorem dX12_see__172 : decode cX12_see_ 172 = .ok (.iadd, 1) := by decide +kernel
theorem dX12_see__173 : decode cX12_see_ 173 = .ok (.iaload, 1) := by decide +kernel
theorem dX12_see__174 : decode cX12_see_ 174 = .ok (.aload_n 0, 1) := by decide +kernel
theorem dX12_see__175 : decode cX12_see_ 175 = .ok (.getfield 44, 3) := by decide +kernel
theorem dX12_see__178 : decode cX12_see_ 178 = .ok (.iload 4, 2) := by decide +kernel
theorem dX12_see__180 : decode cX12_see_ 180 = .ok (.aload_n 0, 1) := by decide +kernel
theorem dX12_see__181 : decode cX12_see_ 181 = .ok (.getfield 7, 3) := by decide +kernel
theorem dX12_see__184 : decode cX12_see_ 184 = .ok (.iload_n 3, 1) := by decide +kernel
theorem dX12_see__185 : decode cX12_see_ 185 = .ok (.iconst 1, 1) := by decide +kernel
theorem dX12_see__186 : decode cX12_see_ 186 = .ok (.iadd, 1) := by decide +kernel
theorem dX12_see__187 : decode cX12_see_ 187 = .ok (.iaload, 1) := by decide +kernel
theorem dX12_see__188 : decode cX12_see_ 188 = .ok (.iadd, 1) := by decide +kernel
theorem dX12_see__189 : decode cX12_see_ 189 = .ok (.iaload, 1) := by decide +kernel
theorem dX12_see__190 : decode cX12_see_ 190 = .ok (.imul, 1) := by decide +kernel
theorem dX12_see__191 : decode cX12_see_ 191 = .ok (.isub, 1) := by decide +kernel
theorem dX12_see__192 : decode cX12_see_ 192 = .ok (.iastore, 1) := by decide +kernel
theorem dX12_see__193 : decode cX12_see_ 193 = .ok (.iinc 2 1, 3) := by decide +kernel
theorem dX12_see__196 : decode cX12_see_ 196 = .ok (.goto (-133), 3) := by decide +kernel
theorem dX12_see__199 : decode cX12_see_ 199 = .ok (.return_, 1) := by decide +kernel
theorem dX12_isStart_0 : decode cX12_isStart 0 = .ok (.aload_n 0, 1) := by decide +kernel
theorem dX12_isStart_1 : decode cX12_isStart 1 = .ok (.iload_n 1, 1) := by decide +kernel
theorem dX12_isStart_2 : decode cX12_isStart 2 = .ok (.iload_n 2, 1) := by decide +kernel
theorem dX12_isStart_3 : decode cX12_isStart 3 = .ok (.invokevirtual 107, 3) := by decide +kernel
theorem dX12_isStart_6 : decode cX12_isStart 6 = .ok (.ifCond .eq 29, 3) := by decide +kernel
theorem dX12_isStart_9 : decode cX12_isStart 9 = .ok (.aload_n 0, 1) := by decide +kernel
theorem dX12_isStart_10 : decode cX12_isStart 10 = .ok (.iload_n 2, 1) := by decide +kernel
theorem dX12_isStart_11 : decode cX12_isStart 11 = .ok (.bipush 16, 2) := by decide +kernel
theorem dX12_isStart_13 : decode cX12_isStart 13 = .ok (.idiv, 1) := by decide +kernel
theorem dX12_isStart_14 : decode cX12_isStart 14 = .ok (.aload_n 0, 1) := by decide +kernel
theorem dX12_isStart_15 : decode cX12_isStart 15 = .ok (.getfield 61, 3) := by decide +kernel
theorem dX12_isStart_18 : decode cX12_isStart 18 = .ok (.imul, 1) := by decide +kernel
theorem dX12_isStart_19 : decode cX12_isStart 19 = .ok (.iload_n 1, 1) := by decide +kernel
theorem dX12_isStart_20 : decode cX12_isStart 20 = .ok (.bipush 16, 2) := by decide +kernel
theorem dX12_isStart_22 : decode cX12_isStart 22 = .ok (.idiv, 1) := by decide +kernel
theorem dX12_isStart_23 : decode cX12_isStart 23 = .ok (.iadd, 1) := by decide +kernel
theorem dX12_isStart_24 : decode cX12_isStart 24 = .ok (.iconst 0, 1) := by decide +kernel
theorem dX12_isStart_25 : decode cX12_isStart 25 = .ok (.invokevirtual 86, 3) := by decide +kernel
theorem dX12_isStart_28 : decode cX12_isStart 28 = .ok (.ifCond .ne 7, 3) := by decide +kernel
theorem dX12_isStart_31 : decode cX12_isStart 31 = .ok (.iconst 1, 1) := by decide +kernel
theorem dX12_isStart_32 : decode cX12_isStart 32 = .ok (.goto 4, 3) := by decide +kernel
theorem dX12_isStart_35 : decode cX12_isStart 35 = .ok (.iconst 0, 1) := by decide +kernel
theorem dX12_isStart_36 : decode cX12_isStart 36 = .ok (.ireturn, 1) := by decide +kernel
theorem dX12_run_0 : decode cX12_run 0 = .ok (.aload_n 0, 1) := by decide +kernel
theorem dX12_run_1 : decode cX12_run 1 = .ok (.iconst 0, 1) := by decide +kernel
theorem dX12_run_2 : decode cX12_run 2 = .ok (.putfield 323, 3) := by decide +kernel
theorem dX12_run_5 : decode cX12_run 5 = .ok (.aload_n 0, 1) := by decide +kernel
theorem dX12_run_6 : decode cX12_run 6 = .ok (.iload_n 2, 1) := by decide +kernel
theorem dX12_run_7 : decode cX12_run 7 = .ok (.putfield 314, 3) := by decide +kernel
theorem dX12_run_10 : decode cX12_run 10 = .ok (.aload_n 0, 1) := by decide +kernel
theorem dX12_run_11 : decode cX12_run 11 = .ok (.iload_n 3, 1) := by decide +kernel
theorem dX12_run_12 : decode cX12_run 12 = .ok (.putfield 317, 3) := by decide +kernel
theorem dX12_run_15 : decode cX12_run 15 = .ok (.aload_n 0, 1) := by decide +kernel
theorem dX12_run_16 : decode cX12_run 16 = .ok (.iload 4, 2) := by decide +kernel
theorem dX12_run_18 : decode cX12_run 18 = .ok (.putfield 320, 3) := by decide +kernel
theorem dX12_run_21 : decode cX12_run 21 = .ok (.aload_n 0, 1) := by decide +kernel
theorem dX12_run_22 : decode cX12_run 22 = .ok (.iconst 0, 1) := by decide +kernel
theorem dX12_run_23 : decode cX12_run 23 = .ok (.putfield 326, 3) := by decide +kernel
theorem dX12_run_26 : decode cX12_run 26 = .ok (.aload_n 0, 1) := by decide +kernel
theorem dX12_run_27 : decode cX12_run 27 = .ok (.iconst 0, 1) := by decide +kernel
theorem dX12_run_28 : decode cX12_run 28 = .ok (.putfield 329, 3) := by decide +kernel
theorem dX12_run_31 : decode cX12_run 31 = .ok (.aload_n 0, 1) := by decide +kernel
theorem dX12_run_32 : decode cX12_run 32 = .ok (.iconst 0, 1) := by decide +kernel
theorem dX12_run_33 : decode cX12_run 33 = .ok (.putfield 277, 3) := by decide +kernel
theorem dX12_run_36 : decode cX12_run 36 = .ok (.aload_n 0, 1) := by decide +kernel
theorem dX12_run_37 : decode cX12_run 37 = .ok (.getfield 323, 3) := by decide +kernel
theorem dX12_run_40 : decode cX12_run 40 = .ok (.iload 5, 2) := by decide +kernel
theorem dX12_run_42 : decode cX12_run 42 = .ok (.if_icmp .ge 257, 3) := by decide +kernel
theorem dX12_run_45 : decode cX12_run 45 = .ok (.aload_n 0, 1) := by decide +kernel
theorem dX12_run_46 : decode cX12_run 46 = .ok (.getfield 326, 3) := by decide +kernel
theorem dX12_run_49 : decode cX12_run 49 = .ok (.ifCond .ne 250, 3) := by decide +kernel
theorem dX12_run_52 : decode cX12_run 52 = .ok (.aload_n 0, 1) := by decide +kernel
theorem dX12_run_53 : decode cX12_run 53 = .ok (.getfield 329, 3) := by decide +kernel
theorem dX12_run_56 : decode cX12_run 56 = .ok (.ifCond .ne 243, 3) := by decide +kernel
theorem dX12_run_59 : decode cX12_run 59 = .ok (.aload_n 0, 1) := by decide +kernel
theorem dX12_run_60 : decode cX12_run 60 = .ok (.aload_n 0, 1) := by decide +kernel
theorem dX12_run_61 : decode cX12_run 61 = .ok (.getfield 323, 3) := by decide +kernel
theorem dX12_run_64 : decode cX12_run 64 = .ok (.putfield 284, 3) := by decide +kernel
theorem dX12_run_67 : decode cX12_run 67 = .ok (.aload_n 0, 1) := by decide +kernel
theorem dX12_run_68 : decode cX12_run 68 = .ok (.invokevirtual 332, 3) := by decide +kernel
theorem dX12_run_71 : decode cX12_run 71 = .ok (.aload_n 0, 1) := by decide +kernel
theorem dX12_run_72 : decode cX12_run 72 = .ok (.aload_n 0, 1) := by decide +kernel
theorem dX12_run_73 : decode cX12_run 73 = .ok (.iload_n 1, 1) := by decide +kernel
theorem dX12_run_74 : decode cX12_run 74 = .ok (.invokevirtual 334, 3) := by decide +kernel
theorem dX12_run_77 : decode cX12_run 77 = .ok (.putfield 329, 3) := by decide +kernel
theorem dX12_run_80 : decode cX12_run 80 = .ok (.aload_n 0, 1) := by decide +kernel
theorem dX12_run_81 : decode cX12_run 81 = .ok (.getfield 329, 3) := by decide +kernel
theorem dX12_run_84 : decode cX12_run 84 = .ok (.ifCond .eq 4, 3) := by decide +kernel
theorem dX12_run_87 : decode cX12_run 87 = .ok (.return_, 1) := by decide +kernel
theorem dX12_run_88 : decode cX12_run 88 = .ok (.bipush 38, 2) := by decide +kernel
theorem dX12_run_90 : decode cX12_run 90 = .ok (.aload_n 0, 1) := by decide +kernel
theorem dX12_run_91 : decode cX12_run 91 = .ok (.getfield 284, 3) := by decide +kernel
theorem dX12_run_94 : decode cX12_run 94 = .ok (.imul, 1) := by decide +kernel
theorem dX12_run_95 : decode cX12_run 95 = .ok (.istore 6, 2) := by decide +kernel
theorem dX12_run_97 : decode cX12_run 97 = .ok (.aload_n 0, 1) := by decide +kernel
theorem dX12_run_98 : decode cX12_run 98 = .ok (.getfield 44, 3) := by decide +kernel
theorem dX12_run_101 : decode cX12_run 101 = .ok (.iload 6, 2) := by decide +kernel
theorem dX12_run_103 : decode cX12_run 103 = .ok (.aload_n 0, 1) := by decide +kernel
theorem dX12_run_104 : decode cX12_run 104 = .ok (.getfield 299, 3) := by decide +kernel
theorem dX12_run_107 : decode cX12_run 107 = .ok (.iastore, 1) := by decide +kernel
theorem dX12_run_108 : decode cX12_run 108 = .ok (.aload_n 0, 1) := by decide +kernel
theorem dX12_run_109 : decode cX12_run 109 = .ok (.getfield 44, 3) := by decide +kernel
theorem dX12_run_112 : decode cX12_run 112 = .ok (.iload 6, 2) := by decide +kernel
theorem dX12_run_114 : decode cX12_run 114 = .ok (.iconst 1, 1) := by decide +kernel
theorem dX12_run_115 : decode cX12_run 115 = .ok (.iadd, 1) := by decide +kernel
theorem dX12_run_116 : decode cX12_run 116 = .ok (.aload_n 0, 1) := by decide +kernel
theorem dX12_run_117 : decode cX12_run 117 = .ok (.getfield 302, 3) := by decide +kernel
theorem dX12_run_120 : decode cX12_run 120 = .ok (.iastore, 1) := by decide +kernel
theorem dX12_run_121 : decode cX12_run 121 = .ok (.aload_n 0, 1) := by decide +kernel
theorem dX12_run_122 : decode cX12_run 122 = .ok (.getfield 44, 3) := by decide +kernel
theorem dX12_run_125 : decode cX12_run 125 = .ok (.iload 6, 2) := by decide +kernel
theorem dX12_run_127 : decode cX12_run 127 = .ok (.iconst 2, 1) := by decide +kernel
theorem dX12_run_128 : decode cX12_run 128 = .ok (.iadd, 1) := by decide +kernel
theorem dX12_run_129 : decode cX12_run 129 = .ok (.aload_n 0, 1) := by decide +kernel
theorem dX12_run_130 : decode cX12_run 130 = .ok (.getfield 314, 3) := by decide +kernel
theorem dX12_run_133 : decode cX12_run 133 = .ok (.iastore, 1) := by decide +kernel
theorem dX12_run_134 : decode cX12_run 134 = .ok (.aload_n 0, 1) := by decide +kernel
theorem dX12_run_135 : decode cX12_run 135 = .ok (.getfield 44, 3) := by decide +kernel
theorem dX12_run_138 : decode cX12_run 138 = .ok (.iload 6, 2) := by decide +kernel
theorem dX12_run_140 : decode cX12_run 140 = .ok (.iconst 3, 1) := by decide +kernel
theorem dX12_run_141 : decode cX12_run 141 = .ok (.iadd, 1) := by decide +kernel
theorem dX12_run_142 : decode cX12_run 142 = .ok (.aload_n 0, 1) := by decide +kernel
theorem dX12_run_143 : decode cX12_run 143 = .ok (.getfield 317, 3) := by decide +kernel
theorem dX12_run_146 : decode cX12_run 146 = .ok (.iastore, 1) := by decide +kernel
theorem dX12_run_147 : decode cX12_run 147 = .ok (.aload_n 0, 1) := by decide +kernel
theorem dX12_run_148 : decode cX12_run 148 = .ok (.getfield 44, 3) := by decide +kernel
theorem dX12_run_151 : decode cX12_run 151 = .ok (.iload 6, 2) := by decide +kernel
theorem dX12_run_153 : decode cX12_run 153 = .ok (.iconst 4, 1) := by decide +kernel
theorem dX12_run_154 : decode cX12_run 154 = .ok (.iadd, 1) := by decide +kernel
theorem dX12_run_155 : decode cX12_run 155 = .ok (.aload_n 0, 1) := by decide +kernel
theorem dX12_run_156 : decode cX12_run 156 = .ok (.getfield 320, 3) := by decide +kernel
theorem dX12_run_159 : decode cX12_run 159 = .ok (.iastore, 1) := by decide +kernel
theorem dX12_run_160 : decode cX12_run 160 = .ok (.aload_n 0, 1) := by decide +kernel
theorem dX12_run_161 : decode cX12_run 161 = .ok (.aload_n 0, 1) := by decide +kernel
theorem dX12_run_162 : decode cX12_run 162 = .ok (.getfield 320, 3) := by decide +kernel
theorem dX12_run_165 : decode cX12_run 165 = .ok (.aload_n 0, 1) := by decide +kernel
theorem dX12_run_166 : decode cX12_run 166 = .ok (.getfield 299, 3) := by decide +kernel
theorem dX12_run_169 : decode cX12_run 169 = .ok (.iadd, 1) := by decide +kernel
theorem dX12_run_170 : decode cX12_run 170 = .ok (.bipush 64, 2) := by decide +kernel
theorem dX12_run_172 : decode cX12_run 172 = .ok (.iadd, 1) := by decide +kernel
theorem dX12_run_173 : decode cX12_run 173 = .ok (.bipush 64, 2) := by decide +kernel
theorem dX12_run_175 : decode cX12_run 175 = .ok (.irem, 1) := by decide +kernel
theorem dX12_run_176 : decode cX12_run 176 = .ok (.putfield 320, 3) := by decide +kernel
theorem dX12_run_179 : decode cX12_run 179 = .ok (.aload_n 0, 1) := by decide +kernel
theorem dX12_run_180 : decode cX12_run 180 = .ok (.dup, 1) := by decide +kernel
theorem dX12_run_181 : decode cX12_run 181 = .ok (.getfield 314, 3) := by decide +kernel
theorem dX12_run_184 : decode cX12_run 184 = .ok (.aload_n 0, 1) := by decide +kernel
theorem dX12_run_185 : decode cX12_run 185 = .ok (.getfield 302, 3) := by decide +kernel
theorem dX12_run_188 : decode cX12_run 188 = .ok (.aload_n 0, 1) := by decide +kernel
theorem dX12_run_189 : decode cX12_run 189 = .ok (.getfield 320, 3) := by decide +kernel
theorem dX12_run_192 : decode cX12_run 192 = .ok (.invokestatic 89, 3) := by decide +kernel
theorem dX12_run_195 : decode cX12_run 195 = .ok (.imul, 1) := by decide +kernel
theorem dX12_run_196 : decode cX12_run 196 = .ok (.bipush 16, 2) := by decide +kernel
theorem dX12_run_198 : decode cX12_run 198 = .ok (.invokestatic 93, 3) := by decide +kernel
theorem dX12_run_201 : decode cX12_run 201 = .ok (.iadd, 1) := by decide +kernel
theorem dX12_run_202 : decode cX12_run 202 = .ok (.putfield 314, 3) := by decide +kernel
theorem dX12_run_205 : decode cX12_run 205 = .ok (.aload_n 0, 1) := by decide +kernel
theorem dX12_run_206 : decode cX12_run 206 = .ok (.dup, 1) := by decide +kernel
theorem dX12_run_207 : decode cX12_run 207 = .ok (.getfield 317, 3) := by decide +kernel
theorem dX12_run_210 : decode cX12_run 210 = .ok (.aload_n 0, 1) := by decide +kernel
theorem dX12_run_211 : decode cX12_run 211 = .ok (.getfield 302, 3) := by decide +kernel
theorem dX12_run_214 : decode cX12_run 214 = .ok (.aload_n 0, 1) := by decide +kernel
theorem dX12_run_215 : decode cX12_run 215 = .ok (.getfield 320, 3) := by decide +kernel
theorem dX12_run_218 : decode cX12_run 218 = .ok (.invokestatic 96, 3) := by decide +kernel
theorem dX12_run_221 : decode cX12_run 221 = .ok (.imul, 1) := by decide +kernel
theorem dX12_run_222 : decode cX12_run 222 = .ok (.bipush 16, 2) := by decide +kernel
theorem dX12_run_224 : decode cX12_run 224 = .ok (.invokestatic 93, 3) := by decide +kernel
theorem dX12_run_227 : decode cX12_run 227 = .ok (.iadd, 1) := by decide +kernel
theorem dX12_run_228 : decode cX12_run 228 = .ok (.putfield 317, 3) := by decide +kernel
theorem dX12_run_231 : decode cX12_run 231 = .ok (.aload_n 0, 1) := by decide +kernel
theorem dX12_run_232 : decode cX12_run 232 = .ok (.dup, 1) := by decide +kernel
theorem dX12_run_233 : decode cX12_run 233 = .ok (.getfield 323, 3) := by decide +kernel
theorem dX12_run_236 : decode cX12_run 236 = .ok (.iconst 1, 1) := by decide +kernel
theorem dX12_run_237 : decode cX12_run 237 = .ok (.iadd, 1) := by decide +kernel
theorem dX12_run_238 : decode cX12_run 238 = .ok (.putfield 323, 3) := by decide +kernel
theorem dX12_run_241 : decode cX12_run 241 = .ok (.aload_n 0, 1) := by decide +kernel
theorem dX12_run_242 : decode cX12_run 242 = .ok (.aload_n 0, 1) := by decide +kernel
theorem dX12_run_243 : decode cX12_run 243 = .ok (.aload_n 0, 1) := by decide +kernel
theorem dX12_run_244 : decode cX12_run 244 = .ok (.getfield 314, 3) := by decide +kernel
theorem dX12_run_247 : decode cX12_run 247 = .ok (.aload_n 0, 1) := by decide +kernel
theorem dX12_run_248 : decode cX12_run 248 = .ok (.getfield 317, 3) := by decide +kernel
theorem dX12_run_251 : decode cX12_run 251 = .ok (.invokevirtual 107, 3) := by decide +kernel
theorem dX12_run_254 : decode cX12_run 254 = .ok (.ifCond .eq 34, 3) := by decide +kernel
theorem dX12_run_257 : decode cX12_run 257 = .ok (.aload_n 0, 1) := by decide +kernel
theorem dX12_run_258 : decode cX12_run 258 = .ok (.aload_n 0, 1) := by decide +kernel
theorem dX12_run_259 : decode cX12_run 259 = .ok (.getfield 317, 3) := by decide +kernel
theorem dX12_run_262 : decode cX12_run 262 = .ok (.bipush 16, 2) := by decide +kernel
theorem dX12_run_264 : decode cX12_run 264 = .ok (.idiv, 1) := by decide +kernel
theorem dX12_run_265 : decode cX12_run 265 = .ok (.aload_n 0, 1) := by decide +kernel
theorem dX12_run_266 : decode cX12_run 266 = .ok (.getfield 61, 3) := by decide +kernel
theorem dX12_run_269 : decode cX12_run 269 = .ok (.imul, 1) := by decide +kernel
theorem dX12_run_270 : decode cX12_run 270 = .ok (.aload_n 0, 1) := by decide +kernel
theorem dX12_run_271 : decode cX12_run 271 = .ok (.getfield 314, 3) := by decide +kernel
theorem dX12_run_274 : decode cX12_run 274 = .ok (.bipush 16, 2) := by decide +kernel
theorem dX12_run_276 : decode cX12_run 276 = .ok (.idiv, 1) := by decide +kernel
theorem dX12_run_277 : decode cX12_run 277 = .ok (.iadd, 1) := by decide +kernel
theorem dX12_run_278 : decode cX12_run 278 = .ok (.aload_n 0, 1) := by decide +kernel
theorem dX12_run_279 : decode cX12_run 279 = .ok (.getfield 323, 3) := by decide +kernel
theorem dX12_run_282 : decode cX12_run 282 = .ok (.invokevirtual 86, 3) := by decide +kernel
theorem dX12_run_285 : decode cX12_run 285 = .ok (.ifCond .le 7, 3) := by decide +kernel
theorem dX12_run_288 : decode cX12_run 288 = .ok (.iconst 1, 1) := by decide +kernel
theorem dX12_run_289 : decode cX12_run 289 = .ok (.goto 4, 3) := by decide +kernel
theorem dX12_run_292 : decode cX12_run 292 = .ok (.iconst 0, 1) := by decide +kernel
theorem dX12_run_293 : decode cX12_run 293 = .ok (.putfield 326, 3) := by decide +kernel
theorem dX12_run_296 : decode cX12_run 296 = .ok (.goto (-260), 3) := by decide +kernel
theorem dX12_run_299 : decode cX12_run 299 = .ok (.return_, 1) := by decide +kernel
theorem dX12_isRule_0 : decode cX12_isRule 0 = .ok (.iload_n 1, 1) := by decide +kernel
theorem dX12_isRule_1 : decode cX12_isRule 1 = .ok (.iconst 0, 1) := by decide +kernel
theorem dX12_isRule_2 : decode cX12_isRule 2 = .ok (.aload_n 0, 1) := by decide +kernel
theorem dX12_isRule_3 : decode cX12_isRule 3 = .ok (.getfield 7, 3) := by decide +kernel
theorem dX12_isRule_6 : decode cX12_isRule 6 = .ok (.iconst 3, 1) := by decide +kernel
theorem dX12_isRule_7 : decode cX12_isRule 7 = .ok (.iaload, 1) := by decide +kernel
theorem dX12_isRule_8 : decode cX12_isRule 8 = .ok (.iconst 1, 1) := by decide +kernel
theorem dX12_isRule_9 : decode cX12_isRule 9 = .ok (.isub, 1) := by decide +kernel
theorem dX12_isRule_10 : decode cX12_isRule 10 = .ok (.invokestatic 71, 3) := by decide +kernel
theorem dX12_isRule_13 : decode cX12_isRule 13 = .ok (.ireturn, 1) := by decide +kernel
theorem dX12_fly_0 : decode cX12_fly 0 = .ok (.aload_n 0, 1) := by decide +kernel
theorem dX12_fly_1 : decode cX12_fly 1 = .ok (.iload_n 1, 1) := by decide +kernel
theorem dX12_fly_2 : decode cX12_fly 2 = .ok (.invokevirtual 337, 3) := by decide +kernel
theorem dX12_fly_5 : decode cX12_fly 5 = .ok (.ifCond .eq 47, 3) := by decide +kernel
theorem dX12_fly_8 : decode cX12_fly 8 = .ok (.aload_n 0, 1) := by decide +kernel
theorem dX12_fly_9 : decode cX12_fly 9 = .ok (.iload_n 2, 1) := by decide +kernel
theorem dX12_fly_10 : decode cX12_fly 10 = .ok (.iload_n 3, 1) := by decide +kernel
theorem dX12_fly_11 : decode cX12_fly 11 = .ok (.invokevirtual 340, 3) := by decide +kernel
theorem dX12_fly_14 : decode cX12_fly 14 = .ok (.ifCond .eq 38, 3) := by decide +kernel
theorem dX12_fly_17 : decode cX12_fly 17 = .ok (.iload 4, 2) := by decide +kernel
theorem dX12_fly_19 : decode cX12_fly 19 = .ok (.invokestatic 111, 3) := by decide +kernel
theorem dX12_fly_22 : decode cX12_fly 22 = .ok (.ifCond .eq 30, 3) := by decide +kernel
theorem dX12_fly_25 : decode cX12_fly 25 = .ok (.iload 5, 2) := by decide +kernel
theorem dX12_fly_27 : decode cX12_fly 27 = .ok (.iconst 1, 1) := by decide +kernel
theorem dX12_fly_28 : decode cX12_fly 28 = .ok (.bipush 60, 2) := by decide +kernel
theorem dX12_fly_30 : decode cX12_fly 30 = .ok (.invokestatic 71, 3) := by decide +kernel
theorem dX12_fly_33 : decode cX12_fly 33 = .ok (.ifCond .eq 19, 3) := by decide +kernel
theorem dX12_fly_36 : decode cX12_fly 36 = .ok (.iload 6, 2) := by decide +kernel
theorem dX12_fly_38 : decode cX12_fly 38 = .ok (.ifCond .eq 16, 3) := by decide +kernel
theorem dX12_fly_41 : decode cX12_fly 41 = .ok (.iload 6, 2) := by decide +kernel
theorem dX12_fly_43 : decode cX12_fly 43 = .ok (.iconst 4, 1) := by decide +kernel
theorem dX12_fly_44 : decode cX12_fly 44 = .ok (.bipush 20, 2) := by decide +kernel
theorem dX12_fly_46 : decode cX12_fly 46 = .ok (.invokestatic 71, 3) := by decide +kernel
theorem dX12_fly_49 : decode cX12_fly 49 = .ok (.ifCond .ne 5, 3) := by decide +kernel
theorem dX12_fly_52 : decode cX12_fly 52 = .ok (.iconst (-1), 1) := by decide +kernel
theorem dX12_fly_53 : decode cX12_fly 53 = .ok (.ireturn, 1) := by decide +kernel
theorem dX12_fly_54 : decode cX12_fly 54 = .ok (.aload_n 0, 1) := by decide +kernel
theorem dX12_fly_55 : decode cX12_fly 55 = .ok (.iload 6, 2) := by decide +kernel
theorem dX12_fly_57 : decode cX12_fly 57 = .ok (.ifCond .ne 9, 3) := by decide +kernel
theorem dX12_fly_60 : decode cX12_fly 60 = .ok (.ldc2_w 343, 3) := by decide +kernel
theorem dX12_fly_63 : decode cX12_fly 63 = .ok (.goto 11, 3) := by decide +kernel
theorem dX12_fly_66 : decode cX12_fly 66 = .ok (.lconst 1, 1) := by decide +kernel
theorem dX12_fly_67 : decode cX12_fly 67 = .ok (.iload 6, 2) := by decide +kernel
theorem dX12_fly_69 : decode cX12_fly 69 = .ok (.iconst 1, 1) := by decide +kernel
theorem dX12_fly_70 : decode cX12_fly 70 = .ok (.isub, 1) := by decide +kernel
theorem dX12_fly_71 : decode cX12_fly 71 = .ok (.lshl, 1) := by decide +kernel
theorem dX12_fly_72 : decode cX12_fly 72 = .ok (.lconst 1, 1) := by decide +kernel
theorem dX12_fly_73 : decode cX12_fly 73 = .ok (.lsub, 1) := by decide +kernel
theorem dX12_fly_74 : decode cX12_fly 74 = .ok (.putfield 274, 3) := by decide +kernel
theorem dX12_fly_77 : decode cX12_fly 77 = .ok (.aload_n 0, 1) := by decide +kernel
theorem dX12_fly_78 : decode cX12_fly 78 = .ok (.iload_n 1, 1) := by decide +kernel
theorem dX12_fly_79 : decode cX12_fly 79 = .ok (.iload_n 2, 1) := by decide +kernel
theorem dX12_fly_80 : decode cX12_fly 80 = .ok (.iload_n 3, 1) := by decide +kernel
theorem dX12_fly_81 : decode cX12_fly 81 = .ok (.iload 4, 2) := by decide +kernel
theorem dX12_fly_83 : decode cX12_fly 83 = .ok (.iload 5, 2) := by decide +kernel
theorem dX12_fly_85 : decode cX12_fly 85 = .ok (.invokevirtual 345, 3) := by decide +kernel
theorem dX12_fly_88 : decode cX12_fly 88 = .ok (.aload_n 0, 1) := by decide +kernel
theorem dX12_fly_89 : decode cX12_fly 89 = .ok (.getfield 7, 3) := by decide +kernel
theorem dX12_fly_92 : decode cX12_fly 92 = .ok (.sipush 880, 3) := by decide +kernel
theorem dX12_fly_95 : decode cX12_fly 95 = .ok (.aload_n 0, 1) := by decide +kernel
theorem dX12_fly_96 : decode cX12_fly 96 = .ok (.getfield 323, 3) := by decide +kernel
theorem dX12_fly_99 : decode cX12_fly 99 = .ok (.iastore, 1) := by decide +kernel
theorem dX12_fly_100 : decode cX12_fly 100 = .ok (.aload_n 0, 1) := by decide +kernel
theorem dX12_fly_101 : decode cX12_fly 101 = .ok (.getfield 7, 3) := by decide +kernel
theorem dX12_fly_104 : decode cX12_fly 104 = .ok (.sipush 881, 3) := by decide +kernel
theorem dX12_fly_107 : decode cX12_fly 107 = .ok (.aload_n 0, 1) := by decide +kernel
theorem dX12_fly_108 : decode cX12_fly 108 = .ok (.getfield 314, 3) := by decide +kernel
theorem dX12_fly_111 : decode cX12_fly 111 = .ok (.iastore, 1) := by decide +kernel
theorem dX12_fly_112 : decode cX12_fly 112 = .ok (.aload_n 0, 1) := by decide +kernel
theorem dX12_fly_113 : decode cX12_fly 113 = .ok (.getfield 7, 3) := by decide +kernel
theorem dX12_fly_116 : decode cX12_fly 116 = .ok (.sipush 882, 3) := by decide +kernel
theorem dX12_fly_119 : decode cX12_fly 119 = .ok (.aload_n 0, 1) := by decide +kernel
theorem dX12_fly_120 : decode cX12_fly 120 = .ok (.getfield 317, 3) := by decide +kernel
theorem dX12_fly_123 : decode cX12_fly 123 = .ok (.iastore, 1) := by decide +kernel
theorem dX12_fly_124 : decode cX12_fly 124 = .ok (.aload_n 0, 1) := by decide +kernel
theorem dX12_fly_125 : decode cX12_fly 125 = .ok (.getfield 7, 3) := by decide +kernel
theorem dX12_fly_128 : decode cX12_fly 128 = .ok (.sipush 883, 3) := by decide +kernel
theorem dX12_fly_131 : decode cX12_fly 131 = .ok (.aload_n 0, 1) := by decide +kernel
theorem dX12_fly_132 : decode cX12_fly 132 = .ok (.getfield 320, 3) := by decide +kernel
theorem dX12_fly_135 : decode cX12_fly 135 = .ok (.iastore, 1) := by decide +kernel
theorem dX12_fly_136 : decode cX12_fly 136 = .ok (.aload_n 0, 1) := by decide +kernel
theorem dX12_fly_137 : decode cX12_fly 137 = .ok (.getfield 7, 3) := by decide +kernel
theorem dX12_fly_140 : decode cX12_fly 140 = .ok (.sipush 884, 3) := by decide +kernel
theorem dX12_fly_143 : decode cX12_fly 143 = .ok (.aload_n 0, 1) := by decide +kernel
theorem dX12_fly_144 : decode cX12_fly 144 = .ok (.getfield 326, 3) := by decide +kernel
theorem dX12_fly_147 : decode cX12_fly 147 = .ok (.ifCond .eq 7, 3) := by decide +kernel
theorem dX12_fly_150 : decode cX12_fly 150 = .ok (.iconst 1, 1) := by decide +kernel
theorem dX12_fly_151 : decode cX12_fly 151 = .ok (.goto 4, 3) := by decide +kernel
theorem dX12_fly_154 : decode cX12_fly 154 = .ok (.iconst 0, 1) := by decide +kernel
theorem dX12_fly_155 : decode cX12_fly 155 = .ok (.iastore, 1) := by decide +kernel
theorem dX12_fly_156 : decode cX12_fly 156 = .ok (.aload_n 0, 1) := by decide +kernel
theorem dX12_fly_157 : decode cX12_fly 157 = .ok (.getfield 7, 3) := by decide +kernel
theorem dX12_fly_160 : decode cX12_fly 160 = .ok (.sipush 885, 3) := by decide +kernel
theorem dX12_fly_163 : decode cX12_fly 163 = .ok (.aload_n 0, 1) := by decide +kernel
theorem dX12_fly_164 : decode cX12_fly 164 = .ok (.getfield 329, 3) := by decide +kernel
theorem dX12_fly_167 : decode cX12_fly 167 = .ok (.ifCond .eq 7, 3) := by decide +kernel
theorem dX12_fly_170 : decode cX12_fly 170 = .ok (.iconst 1, 1) := by decide +kernel
theorem dX12_fly_171 : decode cX12_fly 171 = .ok (.goto 4, 3) := by decide +kernel
theorem dX12_fly_174 : decode cX12_fly 174 = .ok (.iconst 0, 1) := by decide +kernel
theorem dX12_fly_175 : decode cX12_fly 175 = .ok (.iastore, 1) := by decide +kernel
theorem dX12_fly_176 : decode cX12_fly 176 = .ok (.aload_n 0, 1) := by decide +kernel
theorem dX12_fly_177 : decode cX12_fly 177 = .ok (.getfield 7, 3) := by decide +kernel
theorem dX12_fly_180 : decode cX12_fly 180 = .ok (.sipush 886, 3) := by decide +kernel
