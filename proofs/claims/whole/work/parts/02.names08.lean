theorem dX12_run_262 : decode cX12_run 262 = .ok (.bipush 16, 2) := by decide +kernel
theorem dX12_run_264 : decode cX12_run 264 = .ok (.idiv, 1) := by decide +kernel
theorem dX12_run_265 : decode cX12_run 265 = .ok (.aload_n 0, 1) := by decide +kernel
theorem dX12_run_266 : decode cX12_run 266 = .ok (.getfield 61, 3) := by decide +kernel
theorem dX12_run_269 : decode cX12_run 269 = .ok (.imul, 1) := by decide +kernel
theorem dX12_run_270 : decode cX12_run 270 = .ok (.aload_n 0, 1) := by decide +kernel
theorem dX12_run_271 : decode cX12_run 271 = .ok (.getfield 314, 3) := by decide +kernel
theorem dX12_run_274 : decode cX12_run 274 = .ok (.bipush 16, 2) := by decide +kernel
theorem dX12_run_276 : decode cX12_run 276 = .ok (.idiv, 1) := by decide +kernel
theorem dX12_run_277 : decode cX12_run 277 = .ok (.iadd, 1) := by decide +kernel
theorem dX12_run_278 : decode cX12_run 278 = .ok (.aload_n 0, 1) := by decide +kernel
theorem dX12_run_279 : decode cX12_run 279 = .ok (.getfield 323, 3) := by decide +kernel
theorem dX12_run_282 : decode cX12_run 282 = .ok (.invokevirtual 86, 3) := by decide +kernel
theorem dX12_run_285 : decode cX12_run 285 = .ok (.ifCond .le 7, 3) := by decide +kernel
theorem dX12_run_288 : decode cX12_run 288 = .ok (.iconst 1, 1) := by decide +kernel
theorem dX12_run_289 : decode cX12_run 289 = .ok (.goto 4, 3) := by decide +kernel
theorem dX12_run_292 : decode cX12_run 292 = .ok (.iconst 0, 1) := by decide +kernel
theorem dX12_run_293 : decode cX12_run 293 = .ok (.putfield 326, 3) := by decide +kernel
theorem dX12_run_296 : decode cX12_run 296 = .ok (.goto (-260), 3) := by decide +kernel
theorem dX12_run_299 : decode cX12_run 299 = .ok (.return_, 1) := by decide +kernel
set_option maxRecDepth 20000 in
theorem ggX12_isRule_X12_isIn : GoodIn wsX12_isRule wsX12_isIn := goodIn_r _ [5] (by decide +kernel) (by decide +kernel)
set_option maxRecDepth 20000 in
theorem gX12_isRule_X12_isIn : GoodIn wsX12_isRule (va_wsS RX12 71 yX12_isIn wsX12_isIn) := goodIn_app (goodIn_of _ (by decide +kernel)) ggX12_isRule_X12_isIn
theorem dX12_isRule_0 : decode cX12_isRule 0 = .ok (.iload_n 1, 1) := by decide +kernel
theorem dX12_isRule_1 : decode cX12_isRule 1 = .ok (.iconst 0, 1) := by decide +kernel
theorem dX12_isRule_2 : decode cX12_isRule 2 = .ok (.aload_n 0, 1) := by decide +kernel
theorem dX12_isRule_3 : decode cX12_isRule 3 = .ok (.getfield 7, 3) := by decide +kernel
theorem dX12_isRule_6 : decode cX12_isRule 6 = .ok (.iconst 3, 1) := by decide +kernel
theorem dX12_isRule_7 : decode cX12_isRule 7 = .ok (.iaload, 1) := by decide +kernel
theorem dX12_isRule_8 : decode cX12_isRule 8 = .ok (.iconst 1, 1) := by decide +kernel
theorem dX12_isRule_9 : decode cX12_isRule 9 = .ok (.isub, 1) := by decide +kernel
theorem dX12_isRule_10 : decode cX12_isRule 10 = .ok (.invokestatic 71, 3) := by decide +kernel
theorem dX12_isRule_13 : decode cX12_isRule 13 = .ok (.ireturn, 1) := by decide +kernel
set_option maxRecDepth 20000 in
theorem ggX12_fly_X12_isRule : GoodIn wsX12_fly wsX12_isRule := goodIn_r _ [16, 3, 17, 18, 15, 19, 117, 118, 119, 120, 121, 122, 123, 124, 125, 126, 127, 128, 129, 130, 131, 132, 133, 134, 135, 136, 137, 138, 139, 140, 141, 142, 143, 144, 145, 146, 147, 148, 149, 150, 151, 152, 153, 154, 155, 156, 157, 158, 159] (by decide +kernel) (by decide +kernel)
set_option maxRecDepth 20000 in
theorem gX12_fly_X12_isRule : GoodIn wsX12_fly (wsV RX12 337 RX12 yX12_isRule wsX12_isRule) := goodIn_app (goodIn_of _ (by decide +kernel)) ggX12_fly_X12_isRule
set_option maxRecDepth 20000 in
theorem ggX12_fly_X12_isStart : GoodIn wsX12_fly wsX12_isStart := goodIn_r _ [23, 24, 25, 26, 27, 15, 28, 29, 17, 18, 19, 30, 31, 32, 33, 3, 34, 35, 36, 37, 117, 118, 119, 120, 121, 122, 123, 124, 125, 126, 127, 128, 129, 130, 131, 132, 133, 134, 135, 136, 137, 138, 139, 140, 141, 142, 143, 144, 145, 146, 147, 148, 149, 150, 151, 152, 153, 154, 155, 156, 157, 158, 159] (by decide +kernel) (by decide +kernel)
set_option maxRecDepth 20000 in
theorem gX12_fly_X12_isStart : GoodIn wsX12_fly (wsV RX12 340 RX12 yX12_isStart wsX12_isStart) := goodIn_app (goodIn_of _ (by decide +kernel)) ggX12_fly_X12_isStart
set_option maxRecDepth 20000 in
theorem ggX12_fly_X12_isSide : GoodIn wsX12_fly wsX12_isSide := goodIn_r _ [40, 17, 18, 15, 19] (by decide +kernel) (by decide +kernel)
set_option maxRecDepth 20000 in
theorem gX12_fly_X12_isSide : GoodIn wsX12_fly (va_wsS RX12 111 yX12_isSide wsX12_isSide) := goodIn_app (goodIn_of _ (by decide +kernel)) ggX12_fly_X12_isSide
set_option maxRecDepth 20000 in
theorem ggX12_fly_X12_isIn : GoodIn wsX12_fly wsX12_isIn := goodIn_r _ [19] (by decide +kernel) (by decide +kernel)
set_option maxRecDepth 20000 in
theorem gX12_fly_X12_isIn : GoodIn wsX12_fly (va_wsS RX12 71 yX12_isIn wsX12_isIn) := goodIn_app (goodIn_of _ (by decide +kernel)) ggX12_fly_X12_isIn
set_option maxRecDepth 20000 in
theorem ggX12_fly_X12_run : GoodIn wsX12_fly wsX12_run := goodIn_r _ [44, 4, 5, 6, 7, 8, 9, 10, 45, 11, 46, 47, 24, 48, 49, 50, 15, 51, 3, 52, 53, 54, 55, 56, 57, 58, 59, 29, 60, 34, 35, 36, 37, 17, 18, 19, 61, 62, 63, 64, 65, 66, 67, 68, 69, 70, 71, 72, 73, 74, 75, 76, 77, 78, 79, 80, 81, 82, 83, 84, 85, 86, 87, 88, 89, 90, 91, 92, 93, 94, 95, 96, 97, 98, 99, 100, 101, 102, 103, 104, 105, 106, 107, 108, 109, 2, 110, 111, 112, 113, 114, 115, 116, 25, 26, 27, 28, 30, 31, 32, 33, 117, 118, 119, 120, 121, 122, 123, 124, 125, 126, 127, 128, 129, 130, 131, 132, 133, 134, 135, 136, 137, 138, 139, 140, 141, 142, 143, 144, 145, 146, 147, 148, 149, 150, 151, 152, 153, 154, 155, 156, 157, 158, 159] (by decide +kernel) (by decide +kernel)
set_option maxRecDepth 20000 in
theorem gX12_fly_X12_run : GoodIn wsX12_fly (wsV RX12 345 RX12 yX12_run wsX12_run) := goodIn_app (goodIn_of _ (by decide +kernel)) ggX12_fly_X12_run
theorem dX12_fly_0 : decode cX12_fly 0 = .ok (.aload_n 0, 1) := by decide +kernel
theorem dX12_fly_1 : decode cX12_fly 1 = .ok (.iload_n 1, 1) := by decide +kernel
theorem dX12_fly_2 : decode cX12_fly 2 = .ok (.invokevirtual 337, 3) := by decide +kernel
theorem dX12_fly_5 : decode cX12_fly 5 = .ok (.ifCond .eq 47, 3) := by decide +kernel
theorem dX12_fly_8 : decode cX12_fly 8 = .ok (.aload_n 0, 1) := by decide +kernel
theorem dX12_fly_9 : decode cX12_fly 9 = .ok (.iload_n 2, 1) := by decide +kernel
theorem dX12_fly_10 : decode cX12_fly 10 = .ok (.iload_n 3, 1) := by decide +kernel
theorem dX12_fly_11 : decode cX12_fly 11 = .ok (.invokevirtual 340, 3) := by decide +kernel
theorem dX12_fly_14 : decode cX12_fly 14 = .ok (.ifCond .eq 38, 3) := by decide +kernel
theorem dX12_fly_17 : decode cX12_fly 17 = .ok (.iload 4, 2) := by decide +kernel
theorem dX12_fly_19 : decode cX12_fly 19 = .ok (.invokestatic 111, 3) := by decide +kernel
theorem dX12_fly_22 : decode cX12_fly 22 = .ok (.ifCond .eq 30, 3) := by decide +kernel
theorem dX12_fly_25 : decode cX12_fly 25 = .ok (.iload 5, 2) := by decide +kernel
theorem dX12_fly_27 : decode cX12_fly 27 = .ok (.iconst 1, 1) := by decide +kernel
theorem dX12_fly_28 : decode cX12_fly 28 = .ok (.bipush 60, 2) := by decide +kernel
theorem dX12_fly_30 : decode cX12_fly 30 = .ok (.invokestatic 71, 3) := by decide +kernel
theorem dX12_fly_33 : decode cX12_fly 33 = .ok (.ifCond .eq 19, 3) := by decide +kernel
theorem dX12_fly_36 : decode cX12_fly 36 = .ok (.iload 6, 2) := by decide +kernel
theorem dX12_fly_38 : decode cX12_fly 38 = .ok (.ifCond .eq 16, 3) := by decide +kernel
theorem dX12_fly_41 : decode cX12_fly 41 = .ok (.iload 6, 2) := by decide +kernel
theorem dX12_fly_43 : decode cX12_fly 43 = .ok (.iconst 4, 1) := by decide +kernel
theorem dX12_fly_44 : decode cX12_fly 44 = .ok (.bipush 20, 2) := by decide +kernel
theorem dX12_fly_46 : decode cX12_fly 46 = .ok (.invokestatic 71, 3) := by decide +kernel
theorem dX12_fly_49 : decode cX12_fly 49 = .ok (.ifCond .ne 5, 3) := by decide +kernel
theorem dX12_fly_52 : decode cX12_fly 52 = .ok (.iconst (-1), 1) := by decide +kernel
theorem dX12_fly_53 : decode cX12_fly 53 = .ok (.ireturn, 1) := by decide +kernel
theorem dX12_fly_54 : decode cX12_fly 54 = .ok (.aload_n 0, 1) := by decide +kernel
theorem dX12_fly_55 : decode cX12_fly 55 = .ok (.iload 6, 2) := by decide +kernel
theorem dX12_fly_57 : decode cX12_fly 57 = .ok (.ifCond .ne 9, 3) := by decide +kernel
theorem dX12_fly_60 : decode cX12_fly 60 = .ok (.ldc2_w 343, 3) := by decide +kernel
theorem dX12_fly_63 : decode cX12_fly 63 = .ok (.goto 11, 3) := by decide +kernel
theorem dX12_fly_66 : decode cX12_fly 66 = .ok (.lconst 1, 1) := by decide +kernel
theorem dX12_fly_67 : decode cX12_fly 67 = .ok (.iload 6, 2) := by decide +kernel
theorem dX12_fly_69 : decode cX12_fly 69 = .ok (.iconst 1, 1) := by decide +kernel
theorem dX12_fly_70 : decode cX12_fly 70 = .ok (.isub, 1) := by decide +kernel
theorem dX12_fly_71 : decode cX12_fly 71 = .ok (.lshl, 1) := by decide +kernel
theorem dX12_fly_72 : decode cX12_fly 72 = .ok (.lconst 1, 1) := by decide +kernel
theorem dX12_fly_73 : decode cX12_fly 73 = .ok (.lsub, 1) := by decide +kernel
theorem dX12_fly_74 : decode cX12_fly 74 = .ok (.putfield 274, 3) := by decide +kernel
theorem dX12_fly_77 : decode cX12_fly 77 = .ok (.aload_n 0, 1) := by decide +kernel
theorem dX12_fly_78 : decode cX12_fly 78 = .ok (.iload_n 1, 1) := by decide +kernel
theorem dX12_fly_79 : decode cX12_fly 79 = .ok (.iload_n 2, 1) := by decide +kernel
theorem dX12_fly_80 : decode cX12_fly 80 = .ok (.iload_n 3, 1) := by decide +kernel
theorem dX12_fly_81 : decode cX12_fly 81 = .ok (.iload 4, 2) := by decide +kernel
theorem dX12_fly_83 : decode cX12_fly 83 = .ok (.iload 5, 2) := by decide +kernel
theorem dX12_fly_85 : decode cX12_fly 85 = .ok (.invokevirtual 345, 3) := by decide +kernel
theorem dX12_fly_88 : decode cX12_fly 88 = .ok (.aload_n 0, 1) := by decide +kernel
theorem dX12_fly_89 : decode cX12_fly 89 = .ok (.getfield 7, 3) := by decide +kernel
theorem dX12_fly_92 : decode cX12_fly 92 = .ok (.sipush 880, 3) := by decide +kernel
theorem dX12_fly_95 : decode cX12_fly 95 = .ok (.aload_n 0, 1) := by decide +kernel
theorem dX12_fly_96 : decode cX12_fly 96 = .ok (.getfield 323, 3) := by decide +kernel
theorem dX12_fly_99 : decode cX12_fly 99 = .ok (.iastore, 1) := by decide +kernel
theorem dX12_fly_100 : decode cX12_fly 100 = .ok (.aload_n 0, 1) := by decide +kernel
theorem dX12_fly_101 : decode cX12_fly 101 = .ok (.getfield 7, 3) := by decide +kernel
theorem dX12_fly_104 : decode cX12_fly 104 = .ok (.sipush 881, 3) := by decide +kernel
theorem dX12_fly_107 : decode cX12_fly 107 = .ok (.aload_n 0, 1) := by decide +kernel
theorem dX12_fly_108 : decode cX12_fly 108 = .ok (.getfield 314, 3) := by decide +kernel
theorem dX12_fly_111 : decode cX12_fly 111 = .ok (.iastore, 1) := by decide +kernel
theorem dX12_fly_112 : decode cX12_fly 112 = .ok (.aload_n 0, 1) := by decide +kernel
theorem dX12_fly_113 : decode cX12_fly 113 = .ok (.getfield 7, 3) := by decide +kernel
theorem dX12_fly_116 : decode cX12_fly 116 = .ok (.sipush 882, 3) := by decide +kernel
theorem dX12_fly_119 : decode cX12_fly 119 = .ok (.aload_n 0, 1) := by decide +kernel
theorem dX12_fly_120 : decode cX12_fly 120 = .ok (.getfield 317, 3) := by decide +kernel
theorem dX12_fly_123 : decode cX12_fly 123 = .ok (.iastore, 1) := by decide +kernel
theorem dX12_fly_124 : decode cX12_fly 124 = .ok (.aload_n 0, 1) := by decide +kernel
theorem dX12_fly_125 : decode cX12_fly 125 = .ok (.getfield 7, 3) := by decide +kernel
theorem dX12_fly_128 : decode cX12_fly 128 = .ok (.sipush 883, 3) := by decide +kernel
theorem dX12_fly_131 : decode cX12_fly 131 = .ok (.aload_n 0, 1) := by decide +kernel
theorem dX12_fly_132 : decode cX12_fly 132 = .ok (.getfield 320, 3) := by decide +kernel
theorem dX12_fly_135 : decode cX12_fly 135 = .ok (.iastore, 1) := by decide +kernel
theorem dX12_fly_136 : decode cX12_fly 136 = .ok (.aload_n 0, 1) := by decide +kernel
theorem dX12_fly_137 : decode cX12_fly 137 = .ok (.getfield 7, 3) := by decide +kernel
theorem dX12_fly_140 : decode cX12_fly 140 = .ok (.sipush 884, 3) := by decide +kernel
theorem dX12_fly_143 : decode cX12_fly 143 = .ok (.aload_n 0, 1) := by decide +kernel
theorem dX12_fly_144 : decode cX12_fly 144 = .ok (.getfield 326, 3) := by decide +kernel
theorem dX12_fly_147 : decode cX12_fly 147 = .ok (.ifCond .eq 7, 3) := by decide +kernel
theorem dX12_fly_150 : decode cX12_fly 150 = .ok (.iconst 1, 1) := by decide +kernel
theorem dX12_fly_151 : decode cX12_fly 151 = .ok (.goto 4, 3) := by decide +kernel
theorem dX12_fly_154 : decode cX12_fly 154 = .ok (.iconst 0, 1) := by decide +kernel
theorem dX12_fly_155 : decode cX12_fly 155 = .ok (.iastore, 1) := by decide +kernel
theorem dX12_fly_156 : decode cX12_fly 156 = .ok (.aload_n 0, 1) := by decide +kernel
theorem dX12_fly_157 : decode cX12_fly 157 = .ok (.getfield 7, 3) := by decide +kernel
theorem dX12_fly_160 : decode cX12_fly 160 = .ok (.sipush 885, 3) := by decide +kernel
theorem dX12_fly_163 : decode cX12_fly 163 = .ok (.aload_n 0, 1) := by decide +kernel
theorem dX12_fly_164 : decode cX12_fly 164 = .ok (.getfield 329, 3) := by decide +kernel
theorem dX12_fly_167 : decode cX12_fly 167 = .ok (.ifCond .eq 7, 3) := by decide +kernel
theorem dX12_fly_170 : decode cX12_fly 170 = .ok (.iconst 1, 1) := by decide +kernel
theorem dX12_fly_171 : decode cX12_fly 171 = .ok (.goto 4, 3) := by decide +kernel
theorem dX12_fly_174 : decode cX12_fly 174 = .ok (.iconst 0, 1) := by decide +kernel
theorem dX12_fly_175 : decode cX12_fly 175 = .ok (.iastore, 1) := by decide +kernel
theorem dX12_fly_176 : decode cX12_fly 176 = .ok (.aload_n 0, 1) := by decide +kernel
theorem dX12_fly_177 : decode cX12_fly 177 = .ok (.getfield 7, 3) := by decide +kernel
theorem dX12_fly_180 : decode cX12_fly 180 = .ok (.sipush 886, 3) := by decide +kernel
theorem dX12_fly_183 : decode cX12_fly 183 = .ok (.aload_n 0, 1) := by decide +kernel
theorem dX12_fly_184 : decode cX12_fly 184 = .ok (.getfield 277, 3) := by decide +kernel
theorem dX12_fly_187 : decode cX12_fly 187 = .ok (.iastore, 1) := by decide +kernel
theorem dX12_fly_188 : decode cX12_fly 188 = .ok (.aload_n 0, 1) := by decide +kernel
theorem dX12_fly_189 : decode cX12_fly 189 = .ok (.getfield 7, 3) := by decide +kernel
theorem dX12_fly_192 : decode cX12_fly 192 = .ok (.sipush 887, 3) := by decide +kernel
theorem dX12_fly_195 : decode cX12_fly 195 = .ok (.aload_n 0, 1) := by decide +kernel
theorem dX12_fly_196 : decode cX12_fly 196 = .ok (.getfield 7, 3) := by decide +kernel
theorem dX12_fly_199 : decode cX12_fly 199 = .ok (.iconst 1, 1) := by decide +kernel
theorem dX12_fly_200 : decode cX12_fly 200 = .ok (.iaload, 1) := by decide +kernel
theorem dX12_fly_201 : decode cX12_fly 201 = .ok (.iastore, 1) := by decide +kernel
theorem dX12_fly_202 : decode cX12_fly 202 = .ok (.aload_n 0, 1) := by decide +kernel
theorem dX12_fly_203 : decode cX12_fly 203 = .ok (.getfield 7, 3) := by decide +kernel
theorem dX12_fly_206 : decode cX12_fly 206 = .ok (.sipush 888, 3) := by decide +kernel
theorem dX12_fly_209 : decode cX12_fly 209 = .ok (.aload_n 0, 1) := by decide +kernel
theorem dX12_fly_210 : decode cX12_fly 210 = .ok (.getfield 7, 3) := by decide +kernel
theorem dX12_fly_213 : decode cX12_fly 213 = .ok (.iconst 2, 1) := by decide +kernel
theorem dX12_fly_214 : decode cX12_fly 214 = .ok (.iaload, 1) := by decide +kernel
theorem dX12_fly_215 : decode cX12_fly 215 = .ok (.iastore, 1) := by decide +kernel
theorem dX12_fly_216 : decode cX12_fly 216 = .ok (.iconst 0, 1) := by decide +kernel
theorem dX12_fly_217 : decode cX12_fly 217 = .ok (.istore 7, 2) := by decide +kernel
theorem dX12_fly_219 : decode cX12_fly 219 = .ok (.iload 7, 2) := by decide +kernel
theorem dX12_fly_221 : decode cX12_fly 221 = .ok (.bipush 38, 2) := by decide +kernel
theorem dX12_fly_223 : decode cX12_fly 223 = .ok (.aload_n 0, 1) := by decide +kernel
theorem dX12_fly_224 : decode cX12_fly 224 = .ok (.getfield 323, 3) := by decide +kernel
theorem dX12_fly_227 : decode cX12_fly 227 = .ok (.imul, 1) := by decide +kernel
theorem dX12_fly_228 : decode cX12_fly 228 = .ok (.if_icmp .ge 27, 3) := by decide +kernel
theorem dX12_fly_231 : decode cX12_fly 231 = .ok (.aload_n 0, 1) := by decide +kernel
theorem dX12_fly_232 : decode cX12_fly 232 = .ok (.getfield 7, 3) := by decide +kernel
theorem dX12_fly_235 : decode cX12_fly 235 = .ok (.sipush 890, 3) := by decide +kernel
theorem dX12_fly_238 : decode cX12_fly 238 = .ok (.iload 7, 2) := by decide +kernel
theorem dX12_fly_240 : decode cX12_fly 240 = .ok (.iadd, 1) := by decide +kernel
theorem dX12_fly_241 : decode cX12_fly 241 = .ok (.aload_n 0, 1) := by decide +kernel
theorem dX12_fly_242 : decode cX12_fly 242 = .ok (.getfield 44, 3) := by decide +kernel
theorem dX12_fly_245 : decode cX12_fly 245 = .ok (.iload 7, 2) := by decide +kernel
theorem dX12_fly_247 : decode cX12_fly 247 = .ok (.iaload, 1) := by decide +kernel
theorem dX12_fly_248 : decode cX12_fly 248 = .ok (.iastore, 1) := by decide +kernel
theorem dX12_fly_249 : decode cX12_fly 249 = .ok (.iinc 7 1, 3) := by decide +kernel
theorem dX12_fly_252 : decode cX12_fly 252 = .ok (.goto (-33), 3) := by decide +kernel
theorem dX12_fly_255 : decode cX12_fly 255 = .ok (.aload_n 0, 1) := by decide +kernel
theorem dX12_fly_256 : decode cX12_fly 256 = .ok (.getfield 323, 3) := by decide +kernel
theorem dX12_fly_259 : decode cX12_fly 259 = .ok (.ireturn, 1) := by decide +kernel
set_option maxRecDepth 20000 in
theorem ggX12_flown_X12_isIn : GoodIn wsX12_flown wsX12_isIn := goodIn_r _ [5] (by decide +kernel) (by decide +kernel)
set_option maxRecDepth 20000 in
theorem gX12_flown_X12_isIn : GoodIn wsX12_flown (va_wsS RX12 71 yX12_isIn wsX12_isIn) := goodIn_app (goodIn_of _ (by decide +kernel)) ggX12_flown_X12_isIn
theorem dX12_flown_0 : decode cX12_flown 0 = .ok (.aload_n 0, 1) := by decide +kernel
theorem dX12_flown_1 : decode cX12_flown 1 = .ok (.getfield 7, 3) := by decide +kernel
theorem dX12_flown_4 : decode cX12_flown 4 = .ok (.sipush 880, 3) := by decide +kernel
theorem dX12_flown_7 : decode cX12_flown 7 = .ok (.iaload, 1) := by decide +kernel
theorem dX12_flown_8 : decode cX12_flown 8 = .ok (.ifCond .lt 25, 3) := by decide +kernel
theorem dX12_flown_11 : decode cX12_flown 11 = .ok (.iload_n 1, 1) := by decide +kernel
theorem dX12_flown_12 : decode cX12_flown 12 = .ok (.iconst 0, 1) := by decide +kernel
theorem dX12_flown_13 : decode cX12_flown 13 = .ok (.iconst 5, 1) := by decide +kernel
theorem dX12_flown_14 : decode cX12_flown 14 = .ok (.invokestatic 71, 3) := by decide +kernel
theorem dX12_flown_17 : decode cX12_flown 17 = .ok (.ifCond .eq 16, 3) := by decide +kernel
theorem dX12_flown_20 : decode cX12_flown 20 = .ok (.aload_n 0, 1) := by decide +kernel
theorem dX12_flown_21 : decode cX12_flown 21 = .ok (.getfield 7, 3) := by decide +kernel
theorem dX12_flown_24 : decode cX12_flown 24 = .ok (.sipush 881, 3) := by decide +kernel
theorem dX12_flown_27 : decode cX12_flown 27 = .ok (.iload_n 1, 1) := by decide +kernel
theorem dX12_flown_28 : decode cX12_flown 28 = .ok (.iadd, 1) := by decide +kernel
theorem dX12_flown_29 : decode cX12_flown 29 = .ok (.iaload, 1) := by decide +kernel
theorem dX12_flown_30 : decode cX12_flown 30 = .ok (.goto 4, 3) := by decide +kernel
theorem dX12_flown_33 : decode cX12_flown 33 = .ok (.iconst (-1), 1) := by decide +kernel
theorem dX12_flown_34 : decode cX12_flown 34 = .ok (.ireturn, 1) := by decide +kernel
set_option maxRecDepth 20000 in
theorem ggX12_tick_X12_isIn : GoodIn wsX12_tick wsX12_isIn := goodIn_r _ [6] (by decide +kernel) (by decide +kernel)
set_option maxRecDepth 20000 in
theorem gX12_tick_X12_isIn : GoodIn wsX12_tick (va_wsS RX12 71 yX12_isIn wsX12_isIn) := goodIn_app (goodIn_of _ (by decide +kernel)) ggX12_tick_X12_isIn
theorem dX12_tick_0 : decode cX12_tick 0 = .ok (.iload_n 1, 1) := by decide +kernel
theorem dX12_tick_1 : decode cX12_tick 1 = .ok (.iconst 0, 1) := by decide +kernel
theorem dX12_tick_2 : decode cX12_tick 2 = .ok (.aload_n 0, 1) := by decide +kernel
theorem dX12_tick_3 : decode cX12_tick 3 = .ok (.getfield 7, 3) := by decide +kernel
theorem dX12_tick_6 : decode cX12_tick 6 = .ok (.sipush 880, 3) := by decide +kernel
theorem dX12_tick_9 : decode cX12_tick 9 = .ok (.iaload, 1) := by decide +kernel
theorem dX12_tick_10 : decode cX12_tick 10 = .ok (.iconst 1, 1) := by decide +kernel
theorem dX12_tick_11 : decode cX12_tick 11 = .ok (.isub, 1) := by decide +kernel
theorem dX12_tick_12 : decode cX12_tick 12 = .ok (.invokestatic 71, 3) := by decide +kernel
theorem dX12_tick_15 : decode cX12_tick 15 = .ok (.ifCond .ne 7, 3) := by decide +kernel
theorem dX12_tick_18 : decode cX12_tick 18 = .ok (.ldc_w 349, 3) := by decide +kernel
theorem dX12_tick_21 : decode cX12_tick 21 = .ok (.ireturn, 1) := by decide +kernel
theorem dX12_tick_22 : decode cX12_tick 22 = .ok (.sipush 890, 3) := by decide +kernel
theorem dX12_tick_25 : decode cX12_tick 25 = .ok (.bipush 38, 2) := by decide +kernel
theorem dX12_tick_27 : decode cX12_tick 27 = .ok (.iload_n 1, 1) := by decide +kernel
theorem dX12_tick_28 : decode cX12_tick 28 = .ok (.imul, 1) := by decide +kernel
theorem dX12_tick_29 : decode cX12_tick 29 = .ok (.iadd, 1) := by decide +kernel
theorem dX12_tick_30 : decode cX12_tick 30 = .ok (.istore_n 3, 1) := by decide +kernel
theorem dX12_tick_31 : decode cX12_tick 31 = .ok (.iload_n 2, 1) := by decide +kernel
theorem dX12_tick_32 : decode cX12_tick 32 = .ok (.iconst 0, 1) := by decide +kernel
theorem dX12_tick_33 : decode cX12_tick 33 = .ok (.iconst 4, 1) := by decide +kernel
theorem dX12_tick_34 : decode cX12_tick 34 = .ok (.invokestatic 71, 3) := by decide +kernel
theorem dX12_tick_37 : decode cX12_tick 37 = .ok (.ifCond .eq 12, 3) := by decide +kernel
theorem dX12_tick_40 : decode cX12_tick 40 = .ok (.aload_n 0, 1) := by decide +kernel
theorem dX12_tick_41 : decode cX12_tick 41 = .ok (.getfield 7, 3) := by decide +kernel
theorem dX12_tick_44 : decode cX12_tick 44 = .ok (.iload_n 3, 1) := by decide +kernel
theorem dX12_tick_45 : decode cX12_tick 45 = .ok (.iload_n 2, 1) := by decide +kernel
theorem dX12_tick_46 : decode cX12_tick 46 = .ok (.iadd, 1) := by decide +kernel
theorem dX12_tick_47 : decode cX12_tick 47 = .ok (.iaload, 1) := by decide +kernel
theorem dX12_tick_48 : decode cX12_tick 48 = .ok (.ireturn, 1) := by decide +kernel
theorem dX12_tick_49 : decode cX12_tick 49 = .ok (.iload_n 2, 1) := by decide +kernel
theorem dX12_tick_50 : decode cX12_tick 50 = .ok (.bipush 100, 2) := by decide +kernel
theorem dX12_tick_52 : decode cX12_tick 52 = .ok (.if_icmp .lt 32, 3) := by decide +kernel
theorem dX12_tick_55 : decode cX12_tick 55 = .ok (.iload_n 2, 1) := by decide +kernel
theorem dX12_tick_56 : decode cX12_tick 56 = .ok (.bipush 100, 2) := by decide +kernel
theorem dX12_tick_58 : decode cX12_tick 58 = .ok (.aload_n 0, 1) := by decide +kernel
theorem dX12_tick_59 : decode cX12_tick 59 = .ok (.getfield 7, 3) := by decide +kernel
theorem dX12_tick_62 : decode cX12_tick 62 = .ok (.sipush 887, 3) := by decide +kernel
theorem dX12_tick_65 : decode cX12_tick 65 = .ok (.iaload, 1) := by decide +kernel
theorem dX12_tick_66 : decode cX12_tick 66 = .ok (.iadd, 1) := by decide +kernel
theorem dX12_tick_67 : decode cX12_tick 67 = .ok (.if_icmp .ge 17, 3) := by decide +kernel
theorem dX12_tick_70 : decode cX12_tick 70 = .ok (.aload_n 0, 1) := by decide +kernel
theorem dX12_tick_71 : decode cX12_tick 71 = .ok (.getfield 7, 3) := by decide +kernel
theorem dX12_tick_74 : decode cX12_tick 74 = .ok (.iload_n 3, 1) := by decide +kernel
theorem dX12_tick_75 : decode cX12_tick 75 = .ok (.iconst 5, 1) := by decide +kernel
theorem dX12_tick_76 : decode cX12_tick 76 = .ok (.iadd, 1) := by decide +kernel
theorem dX12_tick_77 : decode cX12_tick 77 = .ok (.iload_n 2, 1) := by decide +kernel
theorem dX12_tick_78 : decode cX12_tick 78 = .ok (.iadd, 1) := by decide +kernel
theorem dX12_tick_79 : decode cX12_tick 79 = .ok (.bipush 100, 2) := by decide +kernel
theorem dX12_tick_81 : decode cX12_tick 81 = .ok (.isub, 1) := by decide +kernel
theorem dX12_tick_82 : decode cX12_tick 82 = .ok (.iaload, 1) := by decide +kernel
theorem dX12_tick_83 : decode cX12_tick 83 = .ok (.ireturn, 1) := by decide +kernel
theorem dX12_tick_84 : decode cX12_tick 84 = .ok (.iload_n 2, 1) := by decide +kernel
theorem dX12_tick_85 : decode cX12_tick 85 = .ok (.sipush 200, 3) := by decide +kernel
theorem dX12_tick_88 : decode cX12_tick 88 = .ok (.if_icmp .lt 37, 3) := by decide +kernel
theorem dX12_tick_91 : decode cX12_tick 91 = .ok (.iload_n 2, 1) := by decide +kernel
theorem dX12_tick_92 : decode cX12_tick 92 = .ok (.sipush 200, 3) := by decide +kernel
theorem dX12_tick_95 : decode cX12_tick 95 = .ok (.aload_n 0, 1) := by decide +kernel
theorem dX12_tick_96 : decode cX12_tick 96 = .ok (.getfield 7, 3) := by decide +kernel
theorem dX12_tick_99 : decode cX12_tick 99 = .ok (.sipush 888, 3) := by decide +kernel
theorem dX12_tick_102 : decode cX12_tick 102 = .ok (.iaload, 1) := by decide +kernel
theorem dX12_tick_103 : decode cX12_tick 103 = .ok (.iadd, 1) := by decide +kernel
theorem dX12_tick_104 : decode cX12_tick 104 = .ok (.if_icmp .ge 21, 3) := by decide +kernel
theorem dX12_tick_107 : decode cX12_tick 107 = .ok (.aload_n 0, 1) := by decide +kernel
theorem dX12_tick_108 : decode cX12_tick 108 = .ok (.getfield 7, 3) := by decide +kernel
theorem dX12_tick_111 : decode cX12_tick 111 = .ok (.iload_n 3, 1) := by decide +kernel
theorem dX12_tick_112 : decode cX12_tick 112 = .ok (.bipush 21, 2) := by decide +kernel
theorem dX12_tick_114 : decode cX12_tick 114 = .ok (.iadd, 1) := by decide +kernel
theorem dX12_tick_115 : decode cX12_tick 115 = .ok (.iload_n 2, 1) := by decide +kernel
theorem dX12_tick_116 : decode cX12_tick 116 = .ok (.iadd, 1) := by decide +kernel
theorem dX12_tick_117 : decode cX12_tick 117 = .ok (.sipush 200, 3) := by decide +kernel
theorem dX12_tick_120 : decode cX12_tick 120 = .ok (.isub, 1) := by decide +kernel
theorem dX12_tick_121 : decode cX12_tick 121 = .ok (.iaload, 1) := by decide +kernel
theorem dX12_tick_122 : decode cX12_tick 122 = .ok (.goto 6, 3) := by decide +kernel
theorem dX12_tick_125 : decode cX12_tick 125 = .ok (.ldc_w 349, 3) := by decide +kernel
theorem dX12_tick_128 : decode cX12_tick 128 = .ok (.ireturn, 1) := by decide +kernel
set_option maxRecDepth 20000 in
theorem ggX12_safe_X12_isRule : GoodIn wsX12_safe wsX12_isRule := goodIn_r _ [8, 9, 10, 11, 7, 12, 117, 118, 119, 120, 121, 122, 123, 124, 125, 126, 127, 128, 129, 130, 131, 132, 133, 134, 135, 136, 137, 138, 139, 140, 141, 142, 143, 144, 145, 146, 147, 148, 149, 150, 151, 152, 153, 154, 155, 156, 157, 158, 159] (by decide +kernel) (by decide +kernel)
set_option maxRecDepth 20000 in
theorem gX12_safe_X12_isRule : GoodIn wsX12_safe (wsV RX12 337 RX12 yX12_isRule wsX12_isRule) := goodIn_app (goodIn_of _ (by decide +kernel)) ggX12_safe_X12_isRule
set_option maxRecDepth 20000 in
theorem ggX12_safe_X12_isPlace : GoodIn wsX12_safe wsX12_isPlace := goodIn_r _ [16, 17, 18, 10, 11, 7, 12, 117, 118, 119, 120, 121, 122, 123, 124, 125, 126, 127, 128, 129, 130, 131, 132, 133, 134, 135, 136, 137, 138, 139, 140, 141, 142, 143, 144, 145, 146, 147, 148, 149, 150, 151, 152, 153, 154, 155, 156, 157, 158, 159] (by decide +kernel) (by decide +kernel)
set_option maxRecDepth 20000 in
theorem gX12_safe_X12_isPlace : GoodIn wsX12_safe (wsV RX12 107 RX12 yX12_isPlace wsX12_isPlace) := goodIn_app (goodIn_of _ (by decide +kernel)) ggX12_safe_X12_isPlace
set_option maxRecDepth 20000 in
theorem ggX12_safe_X12_isSide : GoodIn wsX12_safe wsX12_isSide := goodIn_r _ [21, 10, 11, 7, 12] (by decide +kernel) (by decide +kernel)
set_option maxRecDepth 20000 in
theorem gX12_safe_X12_isSide : GoodIn wsX12_safe (va_wsS RX12 111 yX12_isSide wsX12_isSide) := goodIn_app (goodIn_of _ (by decide +kernel)) ggX12_safe_X12_isSide
set_option maxRecDepth 20000 in
theorem ggX12_safe_X12_isIn : GoodIn wsX12_safe wsX12_isIn := goodIn_r _ [12] (by decide +kernel) (by decide +kernel)
set_option maxRecDepth 20000 in
theorem gX12_safe_X12_isIn : GoodIn wsX12_safe (va_wsS RX12 71 yX12_isIn wsX12_isIn) := goodIn_app (goodIn_of _ (by decide +kernel)) ggX12_safe_X12_isIn
set_option maxRecDepth 20000 in
theorem ggX12_safe_X12_isStart : GoodIn wsX12_safe wsX12_isStart := goodIn_r _ [25, 17, 13, 14, 15, 7, 16, 18, 10, 11, 12, 26, 27, 28, 29, 9, 30, 31, 32, 33, 117, 118, 119, 120, 121, 122, 123, 124, 125, 126, 127, 128, 129, 130, 131, 132, 133, 134, 135, 136, 137, 138, 139, 140, 141, 142, 143, 144, 145, 146, 147, 148, 149, 150, 151, 152, 153, 154, 155, 156, 157, 158, 159] (by decide +kernel) (by decide +kernel)
set_option maxRecDepth 20000 in
theorem gX12_safe_X12_isStart : GoodIn wsX12_safe (wsV RX12 340 RX12 yX12_isStart wsX12_isStart) := goodIn_app (goodIn_of _ (by decide +kernel)) ggX12_safe_X12_isStart
set_option maxRecDepth 20000 in
theorem ggX12_safe_X12_run : GoodIn wsX12_safe wsX12_run := goodIn_r _ [37, 38, 39, 40, 41, 3, 42, 43, 44, 45, 46, 47, 17, 48, 49, 50, 7, 51, 9, 52, 53, 54, 55, 56, 57, 58, 59, 18, 60, 30, 31, 32, 33, 10, 11, 12, 61, 62, 63, 64, 65, 66, 67, 68, 69, 70, 71, 72, 73, 74, 75, 76, 77, 78, 79, 80, 81, 82, 83, 84, 85, 86, 87, 88, 89, 90, 91, 92, 93, 94, 95, 96, 97, 98, 99, 100, 101, 102, 103, 104, 105, 106, 107, 108, 109, 2, 110, 111, 112, 113, 114, 115, 116, 13, 14, 15, 16, 26, 27, 28, 29, 117, 118, 119, 120, 121, 122, 123, 124, 125, 126, 127, 128, 129, 130, 131, 132, 133, 134, 135, 136, 137, 138, 139, 140, 141, 142, 143, 144, 145, 146, 147, 148, 149, 150, 151, 152, 153, 154, 155, 156, 157, 158, 159] (by decide +kernel) (by decide +kernel)
set_option maxRecDepth 20000 in
theorem gX12_safe_X12_run : GoodIn wsX12_safe (wsV RX12 345 RX12 yX12_run wsX12_run) := goodIn_app (goodIn_of _ (by decide +kernel)) ggX12_safe_X12_run
theorem dX12_safe_0 : decode cX12_safe 0 = .ok (.aload_n 0, 1) := by decide +kernel
theorem dX12_safe_1 : decode cX12_safe 1 = .ok (.iload_n 1, 1) := by decide +kernel
theorem dX12_safe_2 : decode cX12_safe 2 = .ok (.invokevirtual 337, 3) := by decide +kernel
theorem dX12_safe_5 : decode cX12_safe 5 = .ok (.ifCond .eq 72, 3) := by decide +kernel
theorem dX12_safe_8 : decode cX12_safe 8 = .ok (.aload_n 0, 1) := by decide +kernel
theorem dX12_safe_9 : decode cX12_safe 9 = .ok (.iload_n 2, 1) := by decide +kernel
theorem dX12_safe_10 : decode cX12_safe 10 = .ok (.iload 4, 2) := by decide +kernel
theorem dX12_safe_12 : decode cX12_safe 12 = .ok (.invokevirtual 107, 3) := by decide +kernel
theorem dX12_safe_15 : decode cX12_safe 15 = .ok (.ifCond .eq 62, 3) := by decide +kernel
theorem dX12_safe_18 : decode cX12_safe 18 = .ok (.aload_n 0, 1) := by decide +kernel
theorem dX12_safe_19 : decode cX12_safe 19 = .ok (.iload_n 3, 1) := by decide +kernel
theorem dX12_safe_20 : decode cX12_safe 20 = .ok (.iload 4, 2) := by decide +kernel
theorem dX12_safe_22 : decode cX12_safe 22 = .ok (.invokevirtual 107, 3) := by decide +kernel
theorem dX12_safe_25 : decode cX12_safe 25 = .ok (.ifCond .eq 52, 3) := by decide +kernel
theorem dX12_safe_28 : decode cX12_safe 28 = .ok (.iload_n 2, 1) := by decide +kernel
theorem dX12_safe_29 : decode cX12_safe 29 = .ok (.iload_n 3, 1) := by decide +kernel
theorem dX12_safe_30 : decode cX12_safe 30 = .ok (.if_icmp .gt 47, 3) := by decide +kernel
theorem dX12_safe_33 : decode cX12_safe 33 = .ok (.iload 5, 2) := by decide +kernel
theorem dX12_safe_35 : decode cX12_safe 35 = .ok (.invokestatic 111, 3) := by decide +kernel
theorem dX12_safe_38 : decode cX12_safe 38 = .ok (.ifCond .eq 39, 3) := by decide +kernel
theorem dX12_safe_41 : decode cX12_safe 41 = .ok (.iload 6, 2) := by decide +kernel
theorem dX12_safe_43 : decode cX12_safe 43 = .ok (.invokestatic 111, 3) := by decide +kernel
theorem dX12_safe_46 : decode cX12_safe 46 = .ok (.ifCond .eq 31, 3) := by decide +kernel
theorem dX12_safe_49 : decode cX12_safe 49 = .ok (.iload 5, 2) := by decide +kernel
theorem dX12_safe_51 : decode cX12_safe 51 = .ok (.iload 6, 2) := by decide +kernel
theorem dX12_safe_53 : decode cX12_safe 53 = .ok (.if_icmp .gt 24, 3) := by decide +kernel
theorem dX12_safe_56 : decode cX12_safe 56 = .ok (.iload 7, 2) := by decide +kernel
theorem dX12_safe_58 : decode cX12_safe 58 = .ok (.iconst 1, 1) := by decide +kernel
theorem dX12_safe_59 : decode cX12_safe 59 = .ok (.bipush 60, 2) := by decide +kernel
theorem dX12_safe_61 : decode cX12_safe 61 = .ok (.invokestatic 71, 3) := by decide +kernel
theorem dX12_safe_64 : decode cX12_safe 64 = .ok (.ifCond .eq 13, 3) := by decide +kernel
theorem dX12_safe_67 : decode cX12_safe 67 = .ok (.iload 8, 2) := by decide +kernel
theorem dX12_safe_69 : decode cX12_safe 69 = .ok (.iconst 0, 1) := by decide +kernel
theorem dX12_safe_70 : decode cX12_safe 70 = .ok (.iconst 1, 1) := by decide +kernel
theorem dX12_safe_71 : decode cX12_safe 71 = .ok (.invokestatic 71, 3) := by decide +kernel
theorem dX12_safe_74 : decode cX12_safe 74 = .ok (.ifCond .ne 5, 3) := by decide +kernel
theorem dX12_safe_77 : decode cX12_safe 77 = .ok (.iconst (-1), 1) := by decide +kernel
theorem dX12_safe_78 : decode cX12_safe 78 = .ok (.ireturn, 1) := by decide +kernel
theorem dX12_safe_79 : decode cX12_safe 79 = .ok (.iload_n 3, 1) := by decide +kernel
theorem dX12_safe_80 : decode cX12_safe 80 = .ok (.iload_n 2, 1) := by decide +kernel
theorem dX12_safe_81 : decode cX12_safe 81 = .ok (.isub, 1) := by decide +kernel
theorem dX12_safe_82 : decode cX12_safe 82 = .ok (.bipush 16, 2) := by decide +kernel
theorem dX12_safe_84 : decode cX12_safe 84 = .ok (.idiv, 1) := by decide +kernel
theorem dX12_safe_85 : decode cX12_safe 85 = .ok (.iconst 1, 1) := by decide +kernel
theorem dX12_safe_86 : decode cX12_safe 86 = .ok (.iadd, 1) := by decide +kernel
theorem dX12_safe_87 : decode cX12_safe 87 = .ok (.iload 6, 2) := by decide +kernel
theorem dX12_safe_89 : decode cX12_safe 89 = .ok (.iload 5, 2) := by decide +kernel
theorem dX12_safe_91 : decode cX12_safe 91 = .ok (.isub, 1) := by decide +kernel
theorem dX12_safe_92 : decode cX12_safe 92 = .ok (.iconst 1, 1) := by decide +kernel
theorem dX12_safe_93 : decode cX12_safe 93 = .ok (.iadd, 1) := by decide +kernel
theorem dX12_safe_94 : decode cX12_safe 94 = .ok (.imul, 1) := by decide +kernel
theorem dX12_safe_95 : decode cX12_safe 95 = .ok (.bipush 64, 2) := by decide +kernel
theorem dX12_safe_97 : decode cX12_safe 97 = .ok (.if_icmp .le 5, 3) := by decide +kernel
theorem dX12_safe_100 : decode cX12_safe 100 = .ok (.iconst (-1), 1) := by decide +kernel
theorem dX12_safe_101 : decode cX12_safe 101 = .ok (.ireturn, 1) := by decide +kernel
theorem dX12_safe_102 : decode cX12_safe 102 = .ok (.aload_n 0, 1) := by decide +kernel
theorem dX12_safe_103 : decode cX12_safe 103 = .ok (.ldc2_w 343, 3) := by decide +kernel
theorem dX12_safe_106 : decode cX12_safe 106 = .ok (.putfield 274, 3) := by decide +kernel
theorem dX12_safe_109 : decode cX12_safe 109 = .ok (.iload_n 2, 1) := by decide +kernel
theorem dX12_safe_110 : decode cX12_safe 110 = .ok (.istore 9, 2) := by decide +kernel
theorem dX12_safe_112 : decode cX12_safe 112 = .ok (.iload 9, 2) := by decide +kernel
theorem dX12_safe_114 : decode cX12_safe 114 = .ok (.iload_n 3, 1) := by decide +kernel
theorem dX12_safe_115 : decode cX12_safe 115 = .ok (.if_icmp .gt 70, 3) := by decide +kernel
theorem dX12_safe_118 : decode cX12_safe 118 = .ok (.iload 5, 2) := by decide +kernel
theorem dX12_safe_120 : decode cX12_safe 120 = .ok (.istore 10, 2) := by decide +kernel
theorem dX12_safe_122 : decode cX12_safe 122 = .ok (.iload 10, 2) := by decide +kernel
theorem dX12_safe_124 : decode cX12_safe 124 = .ok (.iload 6, 2) := by decide +kernel
theorem dX12_safe_126 : decode cX12_safe 126 = .ok (.if_icmp .gt 53, 3) := by decide +kernel
theorem dX12_safe_129 : decode cX12_safe 129 = .ok (.aload_n 0, 1) := by decide +kernel
theorem dX12_safe_130 : decode cX12_safe 130 = .ok (.iload 9, 2) := by decide +kernel
theorem dX12_safe_132 : decode cX12_safe 132 = .ok (.iload 4, 2) := by decide +kernel
theorem dX12_safe_134 : decode cX12_safe 134 = .ok (.invokevirtual 340, 3) := by decide +kernel
theorem dX12_safe_137 : decode cX12_safe 137 = .ok (.ifCond .eq 42, 3) := by decide +kernel
theorem dX12_safe_140 : decode cX12_safe 140 = .ok (.aload_n 0, 1) := by decide +kernel
theorem dX12_safe_141 : decode cX12_safe 141 = .ok (.iload_n 1, 1) := by decide +kernel
theorem dX12_safe_142 : decode cX12_safe 142 = .ok (.iload 9, 2) := by decide +kernel
theorem dX12_safe_144 : decode cX12_safe 144 = .ok (.iload 4, 2) := by decide +kernel
theorem dX12_safe_146 : decode cX12_safe 146 = .ok (.iload 10, 2) := by decide +kernel
theorem dX12_safe_148 : decode cX12_safe 148 = .ok (.iload 7, 2) := by decide +kernel
theorem dX12_safe_150 : decode cX12_safe 150 = .ok (.invokevirtual 345, 3) := by decide +kernel
theorem dX12_safe_153 : decode cX12_safe 153 = .ok (.aload_n 0, 1) := by decide +kernel
theorem dX12_safe_154 : decode cX12_safe 154 = .ok (.getfield 326, 3) := by decide +kernel
theorem dX12_safe_157 : decode cX12_safe 157 = .ok (.ifCond .eq 16, 3) := by decide +kernel
theorem dX12_safe_160 : decode cX12_safe 160 = .ok (.iload 8, 2) := by decide +kernel
theorem dX12_safe_162 : decode cX12_safe 162 = .ok (.ifCond .ne 8, 3) := by decide +kernel
theorem dX12_safe_165 : decode cX12_safe 165 = .ok (.iload 9, 2) := by decide +kernel
theorem dX12_safe_167 : decode cX12_safe 167 = .ok (.goto 5, 3) := by decide +kernel
theorem dX12_safe_170 : decode cX12_safe 170 = .ok (.iload 10, 2) := by decide +kernel
theorem dX12_safe_172 : decode cX12_safe 172 = .ok (.ireturn, 1) := by decide +kernel
theorem dX12_safe_173 : decode cX12_safe 173 = .ok (.iinc 10 1, 3) := by decide +kernel
theorem dX12_safe_176 : decode cX12_safe 176 = .ok (.goto (-54), 3) := by decide +kernel
theorem dX12_safe_179 : decode cX12_safe 179 = .ok (.iinc 9 16, 3) := by decide +kernel
theorem dX12_safe_182 : decode cX12_safe 182 = .ok (.goto (-70), 3) := by decide +kernel
theorem dX12_safe_185 : decode cX12_safe 185 = .ok (.iconst (-1), 1) := by decide +kernel
theorem dX12_safe_186 : decode cX12_safe 186 = .ok (.ireturn, 1) := by decide +kernel
set_option maxRecDepth 20000 in
theorem ggX12_read_X12_isPlace : GoodIn wsX12_read wsX12_isPlace := goodIn_r _ [6, 7, 8, 9, 10, 5, 11, 15, 16, 17, 18, 19, 20, 21, 22, 23, 24, 25, 26, 27, 28, 29, 30, 31, 32, 33, 34, 35, 36, 37, 38, 39, 40, 41, 42, 43, 44, 45, 46, 47, 48, 49, 50, 51, 52, 53, 54, 55, 56, 57] (by decide +kernel) (by decide +kernel)
set_option maxRecDepth 20000 in
theorem gX12_read_X12_isPlace : GoodIn wsX12_read (wsV RX12 107 RX12 yX12_isPlace wsX12_isPlace) := goodIn_app (goodIn_of _ (by decide +kernel)) ggX12_read_X12_isPlace
set_option maxRecDepth 20000 in
theorem ggX12_read_X12_isSide : GoodIn wsX12_read wsX12_isSide := goodIn_r _ [14, 9, 10, 5, 11] (by decide +kernel) (by decide +kernel)
set_option maxRecDepth 20000 in
theorem gX12_read_X12_isSide : GoodIn wsX12_read (va_wsS RX12 111 yX12_isSide wsX12_isSide) := goodIn_app (goodIn_of _ (by decide +kernel)) ggX12_read_X12_isSide
theorem dX12_read_0 : decode cX12_read 0 = .ok (.aload_n 0, 1) := by decide +kernel
theorem dX12_read_1 : decode cX12_read 1 = .ok (.iload_n 1, 1) := by decide +kernel
theorem dX12_read_2 : decode cX12_read 2 = .ok (.iload_n 2, 1) := by decide +kernel
theorem dX12_read_3 : decode cX12_read 3 = .ok (.invokevirtual 107, 3) := by decide +kernel
theorem dX12_read_6 : decode cX12_read 6 = .ok (.ifCond .eq 21, 3) := by decide +kernel
theorem dX12_read_9 : decode cX12_read 9 = .ok (.iload_n 3, 1) := by decide +kernel
theorem dX12_read_10 : decode cX12_read 10 = .ok (.invokestatic 111, 3) := by decide +kernel
theorem dX12_read_13 : decode cX12_read 13 = .ok (.ifCond .eq 14, 3) := by decide +kernel
theorem dX12_read_16 : decode cX12_read 16 = .ok (.aload_n 0, 1) := by decide +kernel
theorem dX12_read_17 : decode cX12_read 17 = .ok (.getfield 7, 3) := by decide +kernel
theorem dX12_read_20 : decode cX12_read 20 = .ok (.iconst 4, 1) := by decide +kernel
theorem dX12_read_21 : decode cX12_read 21 = .ok (.iaload, 1) := by decide +kernel
theorem dX12_read_22 : decode cX12_read 22 = .ok (.bipush 6, 2) := by decide +kernel
theorem dX12_read_24 : decode cX12_read 24 = .ok (.if_icmp .ne 5, 3) := by decide +kernel
theorem dX12_read_27 : decode cX12_read 27 = .ok (.iconst (-1), 1) := by decide +kernel
theorem dX12_read_28 : decode cX12_read 28 = .ok (.ireturn, 1) := by decide +kernel
theorem dX12_read_29 : decode cX12_read 29 = .ok (.sipush 720, 3) := by decide +kernel
theorem dX12_read_32 : decode cX12_read 32 = .ok (.bipush 24, 2) := by decide +kernel
theorem dX12_read_34 : decode cX12_read 34 = .ok (.aload_n 0, 1) := by decide +kernel
theorem dX12_read_35 : decode cX12_read 35 = .ok (.getfield 7, 3) := by decide +kernel
theorem dX12_read_38 : decode cX12_read 38 = .ok (.iconst 4, 1) := by decide +kernel
theorem dX12_read_39 : decode cX12_read 39 = .ok (.iaload, 1) := by decide +kernel
theorem dX12_read_40 : decode cX12_read 40 = .ok (.imul, 1) := by decide +kernel
theorem dX12_read_41 : decode cX12_read 41 = .ok (.iadd, 1) := by decide +kernel
theorem dX12_read_42 : decode cX12_read 42 = .ok (.istore 4, 2) := by decide +kernel
theorem dX12_read_44 : decode cX12_read 44 = .ok (.aload_n 0, 1) := by decide +kernel
theorem dX12_read_45 : decode cX12_read 45 = .ok (.getfield 7, 3) := by decide +kernel
theorem dX12_read_48 : decode cX12_read 48 = .ok (.iload 4, 2) := by decide +kernel
theorem dX12_read_50 : decode cX12_read 50 = .ok (.iload_n 1, 1) := by decide +kernel
theorem dX12_read_51 : decode cX12_read 51 = .ok (.iastore, 1) := by decide +kernel
theorem dX12_read_52 : decode cX12_read 52 = .ok (.aload_n 0, 1) := by decide +kernel
theorem dX12_read_53 : decode cX12_read 53 = .ok (.getfield 7, 3) := by decide +kernel
theorem dX12_read_56 : decode cX12_read 56 = .ok (.iload 4, 2) := by decide +kernel
theorem dX12_read_58 : decode cX12_read 58 = .ok (.iconst 1, 1) := by decide +kernel
theorem dX12_read_59 : decode cX12_read 59 = .ok (.iadd, 1) := by decide +kernel
theorem dX12_read_60 : decode cX12_read 60 = .ok (.iload_n 2, 1) := by decide +kernel
theorem dX12_read_61 : decode cX12_read 61 = .ok (.iastore, 1) := by decide +kernel
theorem dX12_read_62 : decode cX12_read 62 = .ok (.aload_n 0, 1) := by decide +kernel
theorem dX12_read_63 : decode cX12_read 63 = .ok (.getfield 7, 3) := by decide +kernel
theorem dX12_read_66 : decode cX12_read 66 = .ok (.iload 4, 2) := by decide +kernel
theorem dX12_read_68 : decode cX12_read 68 = .ok (.iconst 2, 1) := by decide +kernel
theorem dX12_read_69 : decode cX12_read 69 = .ok (.iadd, 1) := by decide +kernel
theorem dX12_read_70 : decode cX12_read 70 = .ok (.iload_n 3, 1) := by decide +kernel
theorem dX12_read_71 : decode cX12_read 71 = .ok (.iastore, 1) := by decide +kernel
theorem dX12_read_72 : decode cX12_read 72 = .ok (.aload_n 0, 1) := by decide +kernel
theorem dX12_read_73 : decode cX12_read 73 = .ok (.getfield 7, 3) := by decide +kernel
theorem dX12_read_76 : decode cX12_read 76 = .ok (.iload 4, 2) := by decide +kernel
theorem dX12_read_78 : decode cX12_read 78 = .ok (.iconst 3, 1) := by decide +kernel
theorem dX12_read_79 : decode cX12_read 79 = .ok (.iadd, 1) := by decide +kernel
theorem dX12_read_80 : decode cX12_read 80 = .ok (.iconst 0, 1) := by decide +kernel
theorem dX12_read_81 : decode cX12_read 81 = .ok (.iastore, 1) := by decide +kernel
theorem dX12_read_82 : decode cX12_read 82 = .ok (.aload_n 0, 1) := by decide +kernel
theorem dX12_read_83 : decode cX12_read 83 = .ok (.getfield 7, 3) := by decide +kernel
theorem dX12_read_86 : decode cX12_read 86 = .ok (.iconst 4, 1) := by decide +kernel
theorem dX12_read_87 : decode cX12_read 87 = .ok (.dup2, 1) := by decide +kernel
theorem dX12_read_88 : decode cX12_read 88 = .ok (.iaload, 1) := by decide +kernel
theorem dX12_read_89 : decode cX12_read 89 = .ok (.iconst 1, 1) := by decide +kernel
theorem dX12_read_90 : decode cX12_read 90 = .ok (.iadd, 1) := by decide +kernel
theorem dX12_read_91 : decode cX12_read 91 = .ok (.iastore, 1) := by decide +kernel
theorem dX12_read_92 : decode cX12_read 92 = .ok (.aload_n 0, 1) := by decide +kernel
theorem dX12_read_93 : decode cX12_read 93 = .ok (.getfield 7, 3) := by decide +kernel
theorem dX12_read_96 : decode cX12_read 96 = .ok (.iconst 4, 1) := by decide +kernel
theorem dX12_read_97 : decode cX12_read 97 = .ok (.iaload, 1) := by decide +kernel
theorem dX12_read_98 : decode cX12_read 98 = .ok (.iconst 1, 1) := by decide +kernel
theorem dX12_read_99 : decode cX12_read 99 = .ok (.isub, 1) := by decide +kernel
theorem dX12_read_100 : decode cX12_read 100 = .ok (.ireturn, 1) := by decide +kernel
set_option maxRecDepth 20000 in
theorem ggX12_turned_X12_isIn : GoodIn wsX12_turned wsX12_isIn := goodIn_r _ [5] (by decide +kernel) (by decide +kernel)
set_option maxRecDepth 20000 in
theorem gX12_turned_X12_isIn : GoodIn wsX12_turned (va_wsS RX12 71 yX12_isIn wsX12_isIn) := goodIn_app (goodIn_of _ (by decide +kernel)) ggX12_turned_X12_isIn
theorem dX12_turned_0 : decode cX12_turned 0 = .ok (.iload_n 1, 1) := by decide +kernel
theorem dX12_turned_1 : decode cX12_turned 1 = .ok (.iconst 0, 1) := by decide +kernel
theorem dX12_turned_2 : decode cX12_turned 2 = .ok (.aload_n 0, 1) := by decide +kernel
theorem dX12_turned_3 : decode cX12_turned 3 = .ok (.getfield 7, 3) := by decide +kernel
theorem dX12_turned_6 : decode cX12_turned 6 = .ok (.iconst 4, 1) := by decide +kernel
theorem dX12_turned_7 : decode cX12_turned 7 = .ok (.iaload, 1) := by decide +kernel
theorem dX12_turned_8 : decode cX12_turned 8 = .ok (.iconst 1, 1) := by decide +kernel
theorem dX12_turned_9 : decode cX12_turned 9 = .ok (.isub, 1) := by decide +kernel
theorem dX12_turned_10 : decode cX12_turned 10 = .ok (.invokestatic 71, 3) := by decide +kernel
theorem dX12_turned_13 : decode cX12_turned 13 = .ok (.ifCond .eq 14, 3) := by decide +kernel
theorem dX12_turned_16 : decode cX12_turned 16 = .ok (.iload_n 2, 1) := by decide +kernel
theorem dX12_turned_17 : decode cX12_turned 17 = .ok (.bipush (-8), 2) := by decide +kernel
theorem dX12_turned_19 : decode cX12_turned 19 = .ok (.bipush 8, 2) := by decide +kernel
theorem dX12_turned_21 : decode cX12_turned 21 = .ok (.invokestatic 71, 3) := by decide +kernel
theorem dX12_turned_24 : decode cX12_turned 24 = .ok (.ifCond .ne 5, 3) := by decide +kernel
theorem dX12_turned_27 : decode cX12_turned 27 = .ok (.iconst (-1), 1) := by decide +kernel
theorem dX12_turned_28 : decode cX12_turned 28 = .ok (.ireturn, 1) := by decide +kernel
theorem dX12_turned_29 : decode cX12_turned 29 = .ok (.sipush 720, 3) := by decide +kernel
theorem dX12_turned_32 : decode cX12_turned 32 = .ok (.bipush 24, 2) := by decide +kernel
theorem dX12_turned_34 : decode cX12_turned 34 = .ok (.iload_n 1, 1) := by decide +kernel
theorem dX12_turned_35 : decode cX12_turned 35 = .ok (.imul, 1) := by decide +kernel
theorem dX12_turned_36 : decode cX12_turned 36 = .ok (.iadd, 1) := by decide +kernel
theorem dX12_turned_37 : decode cX12_turned 37 = .ok (.istore_n 3, 1) := by decide +kernel
theorem dX12_turned_38 : decode cX12_turned 38 = .ok (.aload_n 0, 1) := by decide +kernel
theorem dX12_turned_39 : decode cX12_turned 39 = .ok (.getfield 7, 3) := by decide +kernel
theorem dX12_turned_42 : decode cX12_turned 42 = .ok (.iload_n 3, 1) := by decide +kernel
theorem dX12_turned_43 : decode cX12_turned 43 = .ok (.iconst 3, 1) := by decide +kernel
theorem dX12_turned_44 : decode cX12_turned 44 = .ok (.iadd, 1) := by decide +kernel
theorem dX12_turned_45 : decode cX12_turned 45 = .ok (.iaload, 1) := by decide +kernel
theorem dX12_turned_46 : decode cX12_turned 46 = .ok (.bipush 20, 2) := by decide +kernel
theorem dX12_turned_48 : decode cX12_turned 48 = .ok (.if_icmp .ne 5, 3) := by decide +kernel
theorem dX12_turned_51 : decode cX12_turned 51 = .ok (.iconst (-1), 1) := by decide +kernel
theorem dX12_turned_52 : decode cX12_turned 52 = .ok (.ireturn, 1) := by decide +kernel
theorem dX12_turned_53 : decode cX12_turned 53 = .ok (.aload_n 0, 1) := by decide +kernel
theorem dX12_turned_54 : decode cX12_turned 54 = .ok (.getfield 7, 3) := by decide +kernel
theorem dX12_turned_57 : decode cX12_turned 57 = .ok (.iload_n 3, 1) := by decide +kernel
theorem dX12_turned_58 : decode cX12_turned 58 = .ok (.iconst 4, 1) := by decide +kernel
theorem dX12_turned_59 : decode cX12_turned 59 = .ok (.iadd, 1) := by decide +kernel
theorem dX12_turned_60 : decode cX12_turned 60 = .ok (.aload_n 0, 1) := by decide +kernel
theorem dX12_turned_61 : decode cX12_turned 61 = .ok (.getfield 7, 3) := by decide +kernel
theorem dX12_turned_64 : decode cX12_turned 64 = .ok (.iload_n 3, 1) := by decide +kernel
theorem dX12_turned_65 : decode cX12_turned 65 = .ok (.iconst 3, 1) := by decide +kernel
theorem dX12_turned_66 : decode cX12_turned 66 = .ok (.iadd, 1) := by decide +kernel
theorem dX12_turned_67 : decode cX12_turned 67 = .ok (.iaload, 1) := by decide +kernel
theorem dX12_turned_68 : decode cX12_turned 68 = .ok (.iadd, 1) := by decide +kernel
theorem dX12_turned_69 : decode cX12_turned 69 = .ok (.iload_n 2, 1) := by decide +kernel
theorem dX12_turned_70 : decode cX12_turned 70 = .ok (.iastore, 1) := by decide +kernel
theorem dX12_turned_71 : decode cX12_turned 71 = .ok (.aload_n 0, 1) := by decide +kernel
theorem dX12_turned_72 : decode cX12_turned 72 = .ok (.getfield 7, 3) := by decide +kernel
theorem dX12_turned_75 : decode cX12_turned 75 = .ok (.iload_n 3, 1) := by decide +kernel
theorem dX12_turned_76 : decode cX12_turned 76 = .ok (.iconst 3, 1) := by decide +kernel
theorem dX12_turned_77 : decode cX12_turned 77 = .ok (.iadd, 1) := by decide +kernel
theorem dX12_turned_78 : decode cX12_turned 78 = .ok (.dup2, 1) := by decide +kernel
theorem dX12_turned_79 : decode cX12_turned 79 = .ok (.iaload, 1) := by decide +kernel
theorem dX12_turned_80 : decode cX12_turned 80 = .ok (.iconst 1, 1) := by decide +kernel
theorem dX12_turned_81 : decode cX12_turned 81 = .ok (.iadd, 1) := by decide +kernel
theorem dX12_turned_82 : decode cX12_turned 82 = .ok (.iastore, 1) := by decide +kernel
theorem dX12_turned_83 : decode cX12_turned 83 = .ok (.aload_n 0, 1) := by decide +kernel
theorem dX12_turned_84 : decode cX12_turned 84 = .ok (.getfield 7, 3) := by decide +kernel
theorem dX12_turned_87 : decode cX12_turned 87 = .ok (.iload_n 3, 1) := by decide +kernel
theorem dX12_turned_88 : decode cX12_turned 88 = .ok (.iconst 3, 1) := by decide +kernel
theorem dX12_turned_89 : decode cX12_turned 89 = .ok (.iadd, 1) := by decide +kernel
theorem dX12_turned_90 : decode cX12_turned 90 = .ok (.iaload, 1) := by decide +kernel
theorem dX12_turned_91 : decode cX12_turned 91 = .ok (.ireturn, 1) := by decide +kernel
set_option maxRecDepth 20000 in
theorem ggX12_isKept_X12_isStart : GoodIn wsX12_isKept wsX12_isStart := goodIn_r _ [10, 11, 12, 13, 14, 9, 15, 16, 17, 18, 19, 20, 21, 22, 23, 3, 24, 25, 26, 27, 110, 111, 112, 113, 114, 115, 116, 117, 118, 119, 120, 121, 122, 123, 124, 125, 126, 127, 128, 129, 130, 131, 132, 133, 134, 135, 136, 137, 138, 139, 140, 141, 142, 143, 144, 145, 146, 147, 148, 149, 150, 151, 152] (by decide +kernel) (by decide +kernel)
set_option maxRecDepth 20000 in
theorem gX12_isKept_X12_isStart : GoodIn wsX12_isKept (wsV RX12 340 RX12 yX12_isStart wsX12_isStart) := goodIn_app (goodIn_of _ (by decide +kernel)) ggX12_isKept_X12_isStart
set_option maxRecDepth 20000 in
theorem ggX12_isKept_X12_run : GoodIn wsX12_isKept wsX12_run := goodIn_r _ [31, 4, 32, 33, 34, 35, 36, 37, 38, 5, 39, 40, 11, 41, 42, 43, 9, 44, 3, 45, 46, 47, 48, 49, 50, 51, 52, 16, 53, 24, 25, 26, 27, 17, 18, 19, 54, 55, 56, 57, 58, 59, 60, 61, 62, 63, 64, 65, 66, 67, 68, 69, 70, 71, 72, 73, 74, 75, 76, 77, 78, 79, 80, 81, 82, 83, 84, 85, 86, 87, 88, 89, 90, 91, 92, 93, 94, 95, 96, 97, 98, 99, 100, 101, 102, 2, 103, 104, 105, 106, 107, 108, 109, 12, 13, 14, 15, 20, 21, 22, 23, 110, 111, 112, 113, 114, 115, 116, 117, 118, 119, 120, 121, 122, 123, 124, 125, 126, 127, 128, 129, 130, 131, 132, 133, 134, 135, 136, 137, 138, 139, 140, 141, 142, 143, 144, 145, 146, 147, 148, 149, 150, 151, 152] (by decide +kernel) (by decide +kernel)
set_option maxRecDepth 20000 in
theorem gX12_isKept_X12_run : GoodIn wsX12_isKept (wsV RX12 345 RX12 yX12_run wsX12_run) := goodIn_app (goodIn_of _ (by decide +kernel)) ggX12_isKept_X12_run
theorem dX12_isKept_0 : decode cX12_isKept 0 = .ok (.aload_n 0, 1) := by decide +kernel
theorem dX12_isKept_1 : decode cX12_isKept 1 = .ok (.ldc2_w 343, 3) := by decide +kernel
theorem dX12_isKept_4 : decode cX12_isKept 4 = .ok (.putfield 274, 3) := by decide +kernel
theorem dX12_isKept_7 : decode cX12_isKept 7 = .ok (.iconst 0, 1) := by decide +kernel
theorem dX12_isKept_8 : decode cX12_isKept 8 = .ok (.istore_n 2, 1) := by decide +kernel
theorem dX12_isKept_9 : decode cX12_isKept 9 = .ok (.iload_n 2, 1) := by decide +kernel
theorem dX12_isKept_10 : decode cX12_isKept 10 = .ok (.aload_n 0, 1) := by decide +kernel
theorem dX12_isKept_11 : decode cX12_isKept 11 = .ok (.getfield 7, 3) := by decide +kernel
theorem dX12_isKept_14 : decode cX12_isKept 14 = .ok (.iconst 4, 1) := by decide +kernel
theorem dX12_isKept_15 : decode cX12_isKept 15 = .ok (.iaload, 1) := by decide +kernel
theorem dX12_isKept_16 : decode cX12_isKept 16 = .ok (.if_icmp .ge 137, 3) := by decide +kernel
theorem dX12_isKept_19 : decode cX12_isKept 19 = .ok (.sipush 720, 3) := by decide +kernel
theorem dX12_isKept_22 : decode cX12_isKept 22 = .ok (.bipush 24, 2) := by decide +kernel
theorem dX12_isKept_24 : decode cX12_isKept 24 = .ok (.iload_n 2, 1) := by decide +kernel
theorem dX12_isKept_25 : decode cX12_isKept 25 = .ok (.imul, 1) := by decide +kernel
theorem dX12_isKept_26 : decode cX12_isKept 26 = .ok (.iadd, 1) := by decide +kernel
theorem dX12_isKept_27 : decode cX12_isKept 27 = .ok (.istore_n 3, 1) := by decide +kernel
theorem dX12_isKept_28 : decode cX12_isKept 28 = .ok (.aload_n 0, 1) := by decide +kernel
theorem dX12_isKept_29 : decode cX12_isKept 29 = .ok (.aload_n 0, 1) := by decide +kernel
theorem dX12_isKept_30 : decode cX12_isKept 30 = .ok (.getfield 7, 3) := by decide +kernel
theorem dX12_isKept_33 : decode cX12_isKept 33 = .ok (.iload_n 3, 1) := by decide +kernel
theorem dX12_isKept_34 : decode cX12_isKept 34 = .ok (.iaload, 1) := by decide +kernel
theorem dX12_isKept_35 : decode cX12_isKept 35 = .ok (.aload_n 0, 1) := by decide +kernel
theorem dX12_isKept_36 : decode cX12_isKept 36 = .ok (.getfield 7, 3) := by decide +kernel
theorem dX12_isKept_39 : decode cX12_isKept 39 = .ok (.iload_n 3, 1) := by decide +kernel
theorem dX12_isKept_40 : decode cX12_isKept 40 = .ok (.iconst 1, 1) := by decide +kernel
theorem dX12_isKept_41 : decode cX12_isKept 41 = .ok (.iadd, 1) := by decide +kernel
theorem dX12_isKept_42 : decode cX12_isKept 42 = .ok (.iaload, 1) := by decide +kernel
theorem dX12_isKept_43 : decode cX12_isKept 43 = .ok (.invokevirtual 340, 3) := by decide +kernel
theorem dX12_isKept_46 : decode cX12_isKept 46 = .ok (.ifCond .ne 5, 3) := by decide +kernel
theorem dX12_isKept_49 : decode cX12_isKept 49 = .ok (.iconst 0, 1) := by decide +kernel
theorem dX12_isKept_50 : decode cX12_isKept 50 = .ok (.ireturn, 1) := by decide +kernel
theorem dX12_isKept_51 : decode cX12_isKept 51 = .ok (.aload_n 0, 1) := by decide +kernel
theorem dX12_isKept_52 : decode cX12_isKept 52 = .ok (.iload_n 1, 1) := by decide +kernel
theorem dX12_isKept_53 : decode cX12_isKept 53 = .ok (.aload_n 0, 1) := by decide +kernel
theorem dX12_isKept_54 : decode cX12_isKept 54 = .ok (.getfield 7, 3) := by decide +kernel
theorem dX12_isKept_57 : decode cX12_isKept 57 = .ok (.iload_n 3, 1) := by decide +kernel
theorem dX12_isKept_58 : decode cX12_isKept 58 = .ok (.iaload, 1) := by decide +kernel
theorem dX12_isKept_59 : decode cX12_isKept 59 = .ok (.aload_n 0, 1) := by decide +kernel
theorem dX12_isKept_60 : decode cX12_isKept 60 = .ok (.getfield 7, 3) := by decide +kernel
theorem dX12_isKept_63 : decode cX12_isKept 63 = .ok (.iload_n 3, 1) := by decide +kernel
theorem dX12_isKept_64 : decode cX12_isKept 64 = .ok (.iconst 1, 1) := by decide +kernel
theorem dX12_isKept_65 : decode cX12_isKept 65 = .ok (.iadd, 1) := by decide +kernel
theorem dX12_isKept_66 : decode cX12_isKept 66 = .ok (.iaload, 1) := by decide +kernel
theorem dX12_isKept_67 : decode cX12_isKept 67 = .ok (.aload_n 0, 1) := by decide +kernel
theorem dX12_isKept_68 : decode cX12_isKept 68 = .ok (.getfield 7, 3) := by decide +kernel
theorem dX12_isKept_71 : decode cX12_isKept 71 = .ok (.iload_n 3, 1) := by decide +kernel
theorem dX12_isKept_72 : decode cX12_isKept 72 = .ok (.iconst 2, 1) := by decide +kernel
theorem dX12_isKept_73 : decode cX12_isKept 73 = .ok (.iadd, 1) := by decide +kernel
theorem dX12_isKept_74 : decode cX12_isKept 74 = .ok (.iaload, 1) := by decide +kernel
theorem dX12_isKept_75 : decode cX12_isKept 75 = .ok (.aload_n 0, 1) := by decide +kernel
theorem dX12_isKept_76 : decode cX12_isKept 76 = .ok (.getfield 7, 3) := by decide +kernel
theorem dX12_isKept_79 : decode cX12_isKept 79 = .ok (.iload_n 3, 1) := by decide +kernel
theorem dX12_isKept_80 : decode cX12_isKept 80 = .ok (.iconst 3, 1) := by decide +kernel
theorem dX12_isKept_81 : decode cX12_isKept 81 = .ok (.iadd, 1) := by decide +kernel
theorem dX12_isKept_82 : decode cX12_isKept 82 = .ok (.iaload, 1) := by decide +kernel
theorem dX12_isKept_83 : decode cX12_isKept 83 = .ok (.invokevirtual 345, 3) := by decide +kernel
theorem dX12_isKept_86 : decode cX12_isKept 86 = .ok (.aload_n 0, 1) := by decide +kernel
theorem dX12_isKept_87 : decode cX12_isKept 87 = .ok (.getfield 323, 3) := by decide +kernel
theorem dX12_isKept_90 : decode cX12_isKept 90 = .ok (.aload_n 0, 1) := by decide +kernel
theorem dX12_isKept_91 : decode cX12_isKept 91 = .ok (.getfield 7, 3) := by decide +kernel
theorem dX12_isKept_94 : decode cX12_isKept 94 = .ok (.iload_n 3, 1) := by decide +kernel
theorem dX12_isKept_95 : decode cX12_isKept 95 = .ok (.iconst 3, 1) := by decide +kernel
theorem dX12_isKept_96 : decode cX12_isKept 96 = .ok (.iadd, 1) := by decide +kernel
theorem dX12_isKept_97 : decode cX12_isKept 97 = .ok (.iaload, 1) := by decide +kernel
theorem dX12_isKept_98 : decode cX12_isKept 98 = .ok (.if_icmp .ge 5, 3) := by decide +kernel
theorem dX12_isKept_101 : decode cX12_isKept 101 = .ok (.iconst 0, 1) := by decide +kernel
theorem dX12_isKept_102 : decode cX12_isKept 102 = .ok (.ireturn, 1) := by decide +kernel
theorem dX12_isKept_103 : decode cX12_isKept 103 = .ok (.iconst 0, 1) := by decide +kernel
theorem dX12_isKept_104 : decode cX12_isKept 104 = .ok (.istore 4, 2) := by decide +kernel
theorem dX12_isKept_106 : decode cX12_isKept 106 = .ok (.iload 4, 2) := by decide +kernel
theorem dX12_isKept_108 : decode cX12_isKept 108 = .ok (.aload_n 0, 1) := by decide +kernel
theorem dX12_isKept_109 : decode cX12_isKept 109 = .ok (.getfield 323, 3) := by decide +kernel
theorem dX12_isKept_112 : decode cX12_isKept 112 = .ok (.if_icmp .ge 35, 3) := by decide +kernel
theorem dX12_isKept_115 : decode cX12_isKept 115 = .ok (.aload_n 0, 1) := by decide +kernel
theorem dX12_isKept_116 : decode cX12_isKept 116 = .ok (.getfield 44, 3) := by decide +kernel
theorem dX12_isKept_119 : decode cX12_isKept 119 = .ok (.bipush 38, 2) := by decide +kernel
theorem dX12_isKept_121 : decode cX12_isKept 121 = .ok (.iload 4, 2) := by decide +kernel
theorem dX12_isKept_123 : decode cX12_isKept 123 = .ok (.imul, 1) := by decide +kernel
theorem dX12_isKept_124 : decode cX12_isKept 124 = .ok (.iaload, 1) := by decide +kernel
theorem dX12_isKept_125 : decode cX12_isKept 125 = .ok (.aload_n 0, 1) := by decide +kernel
theorem dX12_isKept_126 : decode cX12_isKept 126 = .ok (.getfield 7, 3) := by decide +kernel
theorem dX12_isKept_129 : decode cX12_isKept 129 = .ok (.iload_n 3, 1) := by decide +kernel
theorem dX12_isKept_130 : decode cX12_isKept 130 = .ok (.iconst 4, 1) := by decide +kernel
theorem dX12_isKept_131 : decode cX12_isKept 131 = .ok (.iadd, 1) := by decide +kernel
theorem dX12_isKept_132 : decode cX12_isKept 132 = .ok (.iload 4, 2) := by decide +kernel
theorem dX12_isKept_134 : decode cX12_isKept 134 = .ok (.iadd, 1) := by decide +kernel
theorem dX12_isKept_135 : decode cX12_isKept 135 = .ok (.iaload, 1) := by decide +kernel
theorem dX12_isKept_136 : decode cX12_isKept 136 = .ok (.if_icmp .eq 5, 3) := by decide +kernel
theorem dX12_isKept_139 : decode cX12_isKept 139 = .ok (.iconst 0, 1) := by decide +kernel
theorem dX12_isKept_140 : decode cX12_isKept 140 = .ok (.ireturn, 1) := by decide +kernel
theorem dX12_isKept_141 : decode cX12_isKept 141 = .ok (.iinc 4 1, 3) := by decide +kernel
theorem dX12_isKept_144 : decode cX12_isKept 144 = .ok (.goto (-38), 3) := by decide +kernel
theorem dX12_isKept_147 : decode cX12_isKept 147 = .ok (.iinc 2 1, 3) := by decide +kernel
theorem dX12_isKept_150 : decode cX12_isKept 150 = .ok (.goto (-141), 3) := by decide +kernel
theorem dX12_isKept_153 : decode cX12_isKept 153 = .ok (.iconst 1, 1) := by decide +kernel
theorem dX12_isKept_154 : decode cX12_isKept 154 = .ok (.ireturn, 1) := by decide +kernel
set_option maxRecDepth 20000 in
theorem ggX12_kept_X12_isRule : GoodIn wsX12_kept wsX12_isRule := goodIn_r _ [6, 1, 7, 8, 5, 9, 118, 119, 120, 121, 122, 123, 124, 125, 126, 127, 128, 129, 130, 131, 132, 133, 134, 135, 136, 137, 138, 139, 140, 141, 142, 143, 144, 145, 146, 147, 148, 149, 150, 151, 152, 153, 154, 155, 156, 157, 158, 159, 160] (by decide +kernel) (by decide +kernel)
set_option maxRecDepth 20000 in
theorem gX12_kept_X12_isRule : GoodIn wsX12_kept (wsV RX12 337 RX12 yX12_isRule wsX12_isRule) := goodIn_app (goodIn_of _ (by decide +kernel)) ggX12_kept_X12_isRule
set_option maxRecDepth 20000 in
theorem ggX12_kept_X12_isKept : GoodIn wsX12_kept wsX12_isKept := goodIn_r _ [13, 14, 15, 1, 16, 17, 18, 19, 20, 5, 21, 22, 23, 24, 25, 26, 27, 7, 8, 9, 28, 29, 30, 31, 32, 33, 34, 35, 36, 37, 38, 39, 40, 41, 42, 43, 44, 45, 46, 47, 48, 49, 50, 51, 52, 53, 54, 55, 56, 57, 58, 59, 60, 61, 62, 63, 64, 65, 66, 67, 68, 69, 70, 71, 72, 73, 74, 75, 76, 77, 78, 79, 80, 81, 82, 83, 84, 85, 86, 87, 88, 89, 90, 91, 92, 93, 94, 95, 96, 97, 98, 99, 100, 101, 102, 103, 104, 105, 106, 107, 108, 109, 110, 111, 112, 113, 114, 115, 116, 117, 118, 119, 120, 121, 122, 123, 124, 125, 126, 127, 128, 129, 130, 131, 132, 133, 134, 135, 136, 137, 138, 139, 140, 141, 142, 143, 144, 145, 146, 147, 148, 149, 150, 151, 152, 153, 154, 155, 156, 157, 158, 159, 160] (by decide +kernel) (by decide +kernel)
set_option maxRecDepth 20000 in
theorem gX12_kept_X12_isKept : GoodIn wsX12_kept (wsV RX12 350 RX12 yX12_isKept wsX12_isKept) := goodIn_app (goodIn_of _ (by decide +kernel)) ggX12_kept_X12_isKept
theorem dX12_kept_0 : decode cX12_kept 0 = .ok (.iload_n 1, 1) := by decide +kernel
theorem dX12_kept_1 : decode cX12_kept 1 = .ok (.iconst (-1), 1) := by decide +kernel
theorem dX12_kept_2 : decode cX12_kept 2 = .ok (.if_icmp .eq 29, 3) := by decide +kernel
theorem dX12_kept_5 : decode cX12_kept 5 = .ok (.aload_n 0, 1) := by decide +kernel
theorem dX12_kept_6 : decode cX12_kept 6 = .ok (.iload_n 1, 1) := by decide +kernel
theorem dX12_kept_7 : decode cX12_kept 7 = .ok (.invokevirtual 337, 3) := by decide +kernel
theorem dX12_kept_10 : decode cX12_kept 10 = .ok (.ifCond .eq 19, 3) := by decide +kernel
theorem dX12_kept_13 : decode cX12_kept 13 = .ok (.aload_n 0, 1) := by decide +kernel
theorem dX12_kept_14 : decode cX12_kept 14 = .ok (.iload_n 1, 1) := by decide +kernel
theorem dX12_kept_15 : decode cX12_kept 15 = .ok (.invokevirtual 350, 3) := by decide +kernel
theorem dX12_kept_18 : decode cX12_kept 18 = .ok (.ifCond .eq 7, 3) := by decide +kernel
theorem dX12_kept_21 : decode cX12_kept 21 = .ok (.iconst 1, 1) := by decide +kernel
theorem dX12_kept_22 : decode cX12_kept 22 = .ok (.goto 8, 3) := by decide +kernel
theorem dX12_kept_25 : decode cX12_kept 25 = .ok (.iconst 0, 1) := by decide +kernel
theorem dX12_kept_26 : decode cX12_kept 26 = .ok (.goto 4, 3) := by decide +kernel
theorem dX12_kept_29 : decode cX12_kept 29 = .ok (.iconst (-1), 1) := by decide +kernel
theorem dX12_kept_30 : decode cX12_kept 30 = .ok (.ireturn, 1) := by decide +kernel
theorem dX12_kept_31 : decode cX12_kept 31 = .ok (.iconst 0, 1) := by decide +kernel
theorem dX12_kept_32 : decode cX12_kept 32 = .ok (.istore_n 2, 1) := by decide +kernel
theorem dX12_kept_33 : decode cX12_kept 33 = .ok (.iconst 0, 1) := by decide +kernel
theorem dX12_kept_34 : decode cX12_kept 34 = .ok (.istore_n 3, 1) := by decide +kernel
theorem dX12_kept_35 : decode cX12_kept 35 = .ok (.iload_n 3, 1) := by decide +kernel
theorem dX12_kept_36 : decode cX12_kept 36 = .ok (.aload_n 0, 1) := by decide +kernel
theorem dX12_kept_37 : decode cX12_kept 37 = .ok (.getfield 7, 3) := by decide +kernel
theorem dX12_kept_40 : decode cX12_kept 40 = .ok (.iconst 3, 1) := by decide +kernel
theorem dX12_kept_41 : decode cX12_kept 41 = .ok (.iaload, 1) := by decide +kernel
theorem dX12_kept_42 : decode cX12_kept 42 = .ok (.if_icmp .ge 25, 3) := by decide +kernel
theorem dX12_kept_45 : decode cX12_kept 45 = .ok (.iload_n 2, 1) := by decide +kernel
theorem dX12_kept_46 : decode cX12_kept 46 = .ok (.aload_n 0, 1) := by decide +kernel
theorem dX12_kept_47 : decode cX12_kept 47 = .ok (.iload_n 3, 1) := by decide +kernel
theorem dX12_kept_48 : decode cX12_kept 48 = .ok (.invokevirtual 350, 3) := by decide +kernel
theorem dX12_kept_51 : decode cX12_kept 51 = .ok (.ifCond .eq 7, 3) := by decide +kernel
theorem dX12_kept_54 : decode cX12_kept 54 = .ok (.iconst 1, 1) := by decide +kernel
theorem dX12_kept_55 : decode cX12_kept 55 = .ok (.goto 4, 3) := by decide +kernel
theorem dX12_kept_58 : decode cX12_kept 58 = .ok (.iconst 0, 1) := by decide +kernel
theorem dX12_kept_59 : decode cX12_kept 59 = .ok (.iadd, 1) := by decide +kernel
theorem dX12_kept_60 : decode cX12_kept 60 = .ok (.istore_n 2, 1) := by decide +kernel
theorem dX12_kept_61 : decode cX12_kept 61 = .ok (.iinc 3 1, 3) := by decide +kernel
theorem dX12_kept_64 : decode cX12_kept 64 = .ok (.goto (-29), 3) := by decide +kernel
theorem dX12_kept_67 : decode cX12_kept 67 = .ok (.iload_n 2, 1) := by decide +kernel
theorem dX12_kept_68 : decode cX12_kept 68 = .ok (.ireturn, 1) := by decide +kernel
set_option maxRecDepth 20000 in
theorem ggX12_unlike_X12_run : GoodIn wsX12_unlike wsX12_run := goodIn_r _ [9, 10, 11, 12, 13, 14, 3, 15, 16, 4, 17, 18, 19, 20, 21, 22, 8, 23, 1, 24, 25, 26, 27, 28, 29, 30, 31, 32, 33, 34, 35, 36, 37, 38, 39, 40, 41, 42, 43, 44, 45, 46, 47, 48, 49, 50, 51, 52, 53, 54, 55, 56, 57, 58, 59, 60, 61, 62, 63, 64, 65, 66, 67, 68, 69, 70, 71, 72, 73, 74, 75, 76, 77, 78, 79, 80, 81, 82, 83, 84, 85, 86, 87, 88, 89, 90, 91, 92, 93, 94, 95, 96, 97, 98, 99, 100, 101, 102, 103, 104, 105, 106, 107, 108, 109, 110, 111, 112, 113, 114, 115, 116, 117, 118, 119, 120, 121, 122, 123, 124, 125, 126, 127, 128, 129, 130, 131, 132, 133, 134, 135, 136, 137, 138, 139, 140, 141, 142, 143, 144, 145, 146, 147, 148] (by decide +kernel) (by decide +kernel)
set_option maxRecDepth 20000 in
theorem gX12_unlike_X12_run : GoodIn wsX12_unlike (wsV RX12 345 RX12 yX12_run wsX12_run) := goodIn_app (goodIn_of _ (by decide +kernel)) ggX12_unlike_X12_run
theorem dX12_unlike_0 : decode cX12_unlike 0 = .ok (.iconst 0, 1) := by decide +kernel
theorem dX12_unlike_1 : decode cX12_unlike 1 = .ok (.istore 4, 2) := by decide +kernel
theorem dX12_unlike_3 : decode cX12_unlike 3 = .ok (.iconst 0, 1) := by decide +kernel
theorem dX12_unlike_4 : decode cX12_unlike 4 = .ok (.istore 5, 2) := by decide +kernel
theorem dX12_unlike_6 : decode cX12_unlike 6 = .ok (.iconst 0, 1) := by decide +kernel
theorem dX12_unlike_7 : decode cX12_unlike 7 = .ok (.istore 6, 2) := by decide +kernel
theorem dX12_unlike_9 : decode cX12_unlike 9 = .ok (.iload 6, 2) := by decide +kernel
theorem dX12_unlike_11 : decode cX12_unlike 11 = .ok (.aload_n 0, 1) := by decide +kernel
theorem dX12_unlike_12 : decode cX12_unlike 12 = .ok (.getfield 7, 3) := by decide +kernel
theorem dX12_unlike_15 : decode cX12_unlike 15 = .ok (.iconst 3, 1) := by decide +kernel
theorem dX12_unlike_16 : decode cX12_unlike 16 = .ok (.iaload, 1) := by decide +kernel
theorem dX12_unlike_17 : decode cX12_unlike 17 = .ok (.if_icmp .ge 79, 3) := by decide +kernel
theorem dX12_unlike_20 : decode cX12_unlike 20 = .ok (.aload_n 0, 1) := by decide +kernel
theorem dX12_unlike_21 : decode cX12_unlike 21 = .ok (.getfield 58, 3) := by decide +kernel
theorem dX12_unlike_24 : decode cX12_unlike 24 = .ok (.iload 6, 2) := by decide +kernel
theorem dX12_unlike_26 : decode cX12_unlike 26 = .ok (.baload, 1) := by decide +kernel
theorem dX12_unlike_27 : decode cX12_unlike 27 = .ok (.ifCond .ne 6, 3) := by decide +kernel
theorem dX12_unlike_30 : decode cX12_unlike 30 = .ok (.goto 60, 3) := by decide +kernel
theorem dX12_unlike_33 : decode cX12_unlike 33 = .ok (.aload_n 0, 1) := by decide +kernel
theorem dX12_unlike_34 : decode cX12_unlike 34 = .ok (.iload 6, 2) := by decide +kernel
theorem dX12_unlike_36 : decode cX12_unlike 36 = .ok (.iload_n 1, 1) := by decide +kernel
theorem dX12_unlike_37 : decode cX12_unlike 37 = .ok (.iload_n 2, 1) := by decide +kernel
theorem dX12_unlike_38 : decode cX12_unlike 38 = .ok (.iload_n 3, 1) := by decide +kernel
theorem dX12_unlike_39 : decode cX12_unlike 39 = .ok (.iconst 1, 1) := by decide +kernel
theorem dX12_unlike_40 : decode cX12_unlike 40 = .ok (.invokevirtual 345, 3) := by decide +kernel
theorem dX12_unlike_43 : decode cX12_unlike 43 = .ok (.aload_n 0, 1) := by decide +kernel
theorem dX12_unlike_44 : decode cX12_unlike 44 = .ok (.getfield 329, 3) := by decide +kernel
theorem dX12_unlike_47 : decode cX12_unlike 47 = .ok (.ifCond .eq 7, 3) := by decide +kernel
theorem dX12_unlike_50 : decode cX12_unlike 50 = .ok (.iconst 0, 1) := by decide +kernel
theorem dX12_unlike_51 : decode cX12_unlike 51 = .ok (.goto 9, 3) := by decide +kernel
theorem dX12_unlike_54 : decode cX12_unlike 54 = .ok (.aload_n 0, 1) := by decide +kernel
theorem dX12_unlike_55 : decode cX12_unlike 55 = .ok (.getfield 44, 3) := by decide +kernel
theorem dX12_unlike_58 : decode cX12_unlike 58 = .ok (.iconst 0, 1) := by decide +kernel
theorem dX12_unlike_59 : decode cX12_unlike 59 = .ok (.iaload, 1) := by decide +kernel
theorem dX12_unlike_60 : decode cX12_unlike 60 = .ok (.istore 7, 2) := by decide +kernel
theorem dX12_unlike_62 : decode cX12_unlike 62 = .ok (.iload 4, 2) := by decide +kernel
theorem dX12_unlike_64 : decode cX12_unlike 64 = .ok (.iload 7, 2) := by decide +kernel
theorem dX12_unlike_66 : decode cX12_unlike 66 = .ok (.bipush 8, 2) := by decide +kernel
theorem dX12_unlike_68 : decode cX12_unlike 68 = .ok (.iadd, 1) := by decide +kernel
theorem dX12_unlike_69 : decode cX12_unlike 69 = .ok (.ishr, 1) := by decide +kernel
theorem dX12_unlike_70 : decode cX12_unlike 70 = .ok (.iconst 1, 1) := by decide +kernel
theorem dX12_unlike_71 : decode cX12_unlike 71 = .ok (.iand, 1) := by decide +kernel
theorem dX12_unlike_72 : decode cX12_unlike 72 = .ok (.ifCond .ne 6, 3) := by decide +kernel
theorem dX12_unlike_75 : decode cX12_unlike 75 = .ok (.iinc 5 1, 3) := by decide +kernel
theorem dX12_unlike_78 : decode cX12_unlike 78 = .ok (.iload 4, 2) := by decide +kernel
theorem dX12_unlike_80 : decode cX12_unlike 80 = .ok (.iconst 1, 1) := by decide +kernel
theorem dX12_unlike_81 : decode cX12_unlike 81 = .ok (.iload 7, 2) := by decide +kernel
theorem dX12_unlike_83 : decode cX12_unlike 83 = .ok (.bipush 8, 2) := by decide +kernel
theorem dX12_unlike_85 : decode cX12_unlike 85 = .ok (.iadd, 1) := by decide +kernel
theorem dX12_unlike_86 : decode cX12_unlike 86 = .ok (.ishl, 1) := by decide +kernel
theorem dX12_unlike_87 : decode cX12_unlike 87 = .ok (.ior, 1) := by decide +kernel
theorem dX12_unlike_88 : decode cX12_unlike 88 = .ok (.istore 4, 2) := by decide +kernel
theorem dX12_unlike_90 : decode cX12_unlike 90 = .ok (.iinc 6 1, 3) := by decide +kernel
theorem dX12_unlike_93 : decode cX12_unlike 93 = .ok (.goto (-84), 3) := by decide +kernel
theorem dX12_unlike_96 : decode cX12_unlike 96 = .ok (.iload 5, 2) := by decide +kernel
theorem dX12_unlike_98 : decode cX12_unlike 98 = .ok (.ireturn, 1) := by decide +kernel
set_option maxRecDepth 20000 in
theorem ggX12_parts_X12_isIn : GoodIn wsX12_parts wsX12_isIn := goodIn_r _ [10] (by decide +kernel) (by decide +kernel)
set_option maxRecDepth 20000 in
theorem gX12_parts_X12_isIn : GoodIn wsX12_parts (va_wsS RX12 71 yX12_isIn wsX12_isIn) := goodIn_app (goodIn_of _ (by decide +kernel)) ggX12_parts_X12_isIn
set_option maxRecDepth 20000 in
theorem ggX12_parts_X12_isKept : GoodIn wsX12_parts wsX12_isKept := goodIn_r _ [14, 4, 5, 2, 15, 16, 17, 18, 19, 9, 20, 6, 21, 22, 23, 24, 1, 7, 8, 10, 25, 26, 27, 28, 29, 30, 31, 32, 33, 34, 35, 36, 37, 38, 39, 40, 41, 42, 43, 44, 45, 46, 47, 48, 49, 50, 51, 52, 53, 54, 55, 56, 57, 58, 59, 60, 61, 62, 63, 64, 65, 66, 67, 68, 69, 70, 71, 72, 73, 74, 75, 76, 77, 78, 79, 80, 81, 82, 83, 84, 85, 86, 87, 88, 89, 90, 91, 92, 93, 94, 95, 96, 97, 98, 99, 100, 101, 102, 103, 104, 105, 106, 107, 108, 109, 110, 111, 112, 113, 114, 119, 120, 121, 122, 123, 124, 125, 126, 127, 128, 129, 130, 131, 132, 133, 134, 135, 136, 137, 138, 139, 140, 141, 142, 143, 144, 145, 146, 147, 148, 149, 150, 151, 152, 153, 154, 155, 156, 157, 158, 159, 160, 161] (by decide +kernel) (by decide +kernel)
set_option maxRecDepth 20000 in
theorem gX12_parts_X12_isKept : GoodIn wsX12_parts (wsV RX12 350 RX12 yX12_isKept wsX12_isKept) := goodIn_app (goodIn_of _ (by decide +kernel)) ggX12_parts_X12_isKept
set_option maxRecDepth 20000 in
theorem ggX12_parts_X12_isStart : GoodIn wsX12_parts wsX12_isStart := goodIn_r _ [20, 6, 21, 22, 23, 9, 24, 1, 7, 8, 10, 25, 26, 27, 28, 2, 29, 30, 31, 32, 119, 120, 121, 122, 123, 124, 125, 126, 127, 128, 129, 130, 131, 132, 133, 134, 135, 136, 137, 138, 139, 140, 141, 142, 143, 144, 145, 146, 147, 148, 149, 150, 151, 152, 153, 154, 155, 156, 157, 158, 159, 160, 161] (by decide +kernel) (by decide +kernel)
set_option maxRecDepth 20000 in
theorem gX12_parts_X12_isStart : GoodIn wsX12_parts (wsV RX12 340 RX12 yX12_isStart wsX12_isStart) := goodIn_app (goodIn_of _ (by decide +kernel)) ggX12_parts_X12_isStart
set_option maxRecDepth 20000 in
theorem ggX12_parts_X12_unlike : GoodIn wsX12_parts wsX12_unlike := goodIn_r _ [118, 2, 3, 41, 16, 33, 34, 35, 9, 36, 15, 37, 38, 39, 40, 42, 43, 44, 45, 6, 46, 47, 48, 49, 50, 51, 52, 53, 54, 55, 56, 57, 1, 58, 29, 30, 31, 32, 7, 8, 10, 59, 60, 61, 62, 63, 64, 65, 66, 67, 68, 69, 70, 71, 72, 73, 74, 75, 76, 77, 78, 79, 80, 81, 82, 83, 84, 85, 86, 87, 88, 89, 90, 91, 92, 93, 94, 95, 96, 97, 98, 99, 100, 101, 102, 103, 104, 105, 106, 107, 5, 108, 109, 110, 111, 112, 113, 114, 21, 22, 23, 24, 25, 26, 27, 28, 119, 120, 121, 122, 123, 124, 125, 126, 127, 128, 129, 130, 131, 132, 133, 134, 135, 136, 137, 138, 139, 140, 141, 142, 143, 144, 145, 146, 147, 148, 149, 150, 151, 152, 153, 154, 155, 156, 157, 158, 159, 160, 161] (by decide +kernel) (by decide +kernel)
set_option maxRecDepth 20000 in
theorem gX12_parts_X12_unlike : GoodIn wsX12_parts (wsV RX12 353 RX12 yX12_unlike wsX12_unlike) := goodIn_app (goodIn_of _ (by decide +kernel)) ggX12_parts_X12_unlike
theorem dX12_parts_0 : decode cX12_parts 0 = .ok (.iload_n 1, 1) := by decide +kernel
theorem dX12_parts_1 : decode cX12_parts 1 = .ok (.iconst 0, 1) := by decide +kernel
theorem dX12_parts_2 : decode cX12_parts 2 = .ok (.aload_n 0, 1) := by decide +kernel
theorem dX12_parts_3 : decode cX12_parts 3 = .ok (.getfield 64, 3) := by decide +kernel
theorem dX12_parts_6 : decode cX12_parts 6 = .ok (.iconst 1, 1) := by decide +kernel
theorem dX12_parts_7 : decode cX12_parts 7 = .ok (.isub, 1) := by decide +kernel
theorem dX12_parts_8 : decode cX12_parts 8 = .ok (.invokestatic 71, 3) := by decide +kernel
theorem dX12_parts_11 : decode cX12_parts 11 = .ok (.ifCond .eq 12, 3) := by decide +kernel
theorem dX12_parts_14 : decode cX12_parts 14 = .ok (.iload_n 2, 1) := by decide +kernel
theorem dX12_parts_15 : decode cX12_parts 15 = .ok (.iconst 0, 1) := by decide +kernel
theorem dX12_parts_16 : decode cX12_parts 16 = .ok (.iconst 2, 1) := by decide +kernel
theorem dX12_parts_17 : decode cX12_parts 17 = .ok (.invokestatic 71, 3) := by decide +kernel
theorem dX12_parts_20 : decode cX12_parts 20 = .ok (.ifCond .ne 5, 3) := by decide +kernel
theorem dX12_parts_23 : decode cX12_parts 23 = .ok (.iconst (-1), 1) := by decide +kernel
theorem dX12_parts_24 : decode cX12_parts 24 = .ok (.ireturn, 1) := by decide +kernel
theorem dX12_parts_25 : decode cX12_parts 25 = .ok (.iconst 0, 1) := by decide +kernel
theorem dX12_parts_26 : decode cX12_parts 26 = .ok (.istore_n 3, 1) := by decide +kernel
theorem dX12_parts_27 : decode cX12_parts 27 = .ok (.iload_n 3, 1) := by decide +kernel
theorem dX12_parts_28 : decode cX12_parts 28 = .ok (.aload_n 0, 1) := by decide +kernel
theorem dX12_parts_29 : decode cX12_parts 29 = .ok (.getfield 7, 3) := by decide +kernel
theorem dX12_parts_32 : decode cX12_parts 32 = .ok (.iconst 3, 1) := by decide +kernel
theorem dX12_parts_33 : decode cX12_parts 33 = .ok (.iaload, 1) := by decide +kernel
theorem dX12_parts_34 : decode cX12_parts 34 = .ok (.if_icmp .ge 20, 3) := by decide +kernel
theorem dX12_parts_37 : decode cX12_parts 37 = .ok (.aload_n 0, 1) := by decide +kernel
theorem dX12_parts_38 : decode cX12_parts 38 = .ok (.getfield 58, 3) := by decide +kernel
theorem dX12_parts_41 : decode cX12_parts 41 = .ok (.iload_n 3, 1) := by decide +kernel
theorem dX12_parts_42 : decode cX12_parts 42 = .ok (.aload_n 0, 1) := by decide +kernel
theorem dX12_parts_43 : decode cX12_parts 43 = .ok (.iload_n 3, 1) := by decide +kernel
theorem dX12_parts_44 : decode cX12_parts 44 = .ok (.invokevirtual 350, 3) := by decide +kernel
theorem dX12_parts_47 : decode cX12_parts 47 = .ok (.bastore, 1) := by decide +kernel
theorem dX12_parts_48 : decode cX12_parts 48 = .ok (.iinc 3 1, 3) := by decide +kernel
theorem dX12_parts_51 : decode cX12_parts 51 = .ok (.goto (-24), 3) := by decide +kernel
theorem dX12_parts_54 : decode cX12_parts 54 = .ok (.aload_n 0, 1) := by decide +kernel
theorem dX12_parts_55 : decode cX12_parts 55 = .ok (.ldc2_w 343, 3) := by decide +kernel
theorem dX12_parts_58 : decode cX12_parts 58 = .ok (.putfield 274, 3) := by decide +kernel
theorem dX12_parts_61 : decode cX12_parts 61 = .ok (.iconst 1, 1) := by decide +kernel
theorem dX12_parts_62 : decode cX12_parts 62 = .ok (.istore_n 3, 1) := by decide +kernel
theorem dX12_parts_63 : decode cX12_parts 63 = .ok (.iconst (-1), 1) := by decide +kernel
theorem dX12_parts_64 : decode cX12_parts 64 = .ok (.istore 4, 2) := by decide +kernel
theorem dX12_parts_66 : decode cX12_parts 66 = .ok (.iconst (-1), 1) := by decide +kernel
theorem dX12_parts_67 : decode cX12_parts 67 = .ok (.istore 5, 2) := by decide +kernel
theorem dX12_parts_69 : decode cX12_parts 69 = .ok (.iconst 0, 1) := by decide +kernel
theorem dX12_parts_70 : decode cX12_parts 70 = .ok (.istore 6, 2) := by decide +kernel
theorem dX12_parts_72 : decode cX12_parts 72 = .ok (.iload 6, 2) := by decide +kernel
theorem dX12_parts_74 : decode cX12_parts 74 = .ok (.aload_n 0, 1) := by decide +kernel
theorem dX12_parts_75 : decode cX12_parts 75 = .ok (.getfield 61, 3) := by decide +kernel
theorem dX12_parts_78 : decode cX12_parts 78 = .ok (.if_icmp .ge 96, 3) := by decide +kernel
theorem dX12_parts_81 : decode cX12_parts 81 = .ok (.iconst 0, 1) := by decide +kernel
theorem dX12_parts_82 : decode cX12_parts 82 = .ok (.istore 7, 2) := by decide +kernel
theorem dX12_parts_84 : decode cX12_parts 84 = .ok (.iload 7, 2) := by decide +kernel
theorem dX12_parts_86 : decode cX12_parts 86 = .ok (.bipush 64, 2) := by decide +kernel
theorem dX12_parts_88 : decode cX12_parts 88 = .ok (.if_icmp .ge 80, 3) := by decide +kernel
theorem dX12_parts_91 : decode cX12_parts 91 = .ok (.aload_n 0, 1) := by decide +kernel
theorem dX12_parts_92 : decode cX12_parts 92 = .ok (.bipush 16, 2) := by decide +kernel
theorem dX12_parts_94 : decode cX12_parts 94 = .ok (.iload 6, 2) := by decide +kernel
theorem dX12_parts_96 : decode cX12_parts 96 = .ok (.imul, 1) := by decide +kernel
theorem dX12_parts_97 : decode cX12_parts 97 = .ok (.bipush 8, 2) := by decide +kernel
theorem dX12_parts_99 : decode cX12_parts 99 = .ok (.iadd, 1) := by decide +kernel
theorem dX12_parts_100 : decode cX12_parts 100 = .ok (.bipush 16, 2) := by decide +kernel
theorem dX12_parts_102 : decode cX12_parts 102 = .ok (.iload_n 1, 1) := by decide +kernel
theorem dX12_parts_103 : decode cX12_parts 103 = .ok (.imul, 1) := by decide +kernel
theorem dX12_parts_104 : decode cX12_parts 104 = .ok (.bipush 8, 2) := by decide +kernel
theorem dX12_parts_106 : decode cX12_parts 106 = .ok (.iadd, 1) := by decide +kernel
theorem dX12_parts_107 : decode cX12_parts 107 = .ok (.invokevirtual 340, 3) := by decide +kernel
theorem dX12_parts_110 : decode cX12_parts 110 = .ok (.ifCond .eq 58, 3) := by decide +kernel
theorem dX12_parts_113 : decode cX12_parts 113 = .ok (.aload_n 0, 1) := by decide +kernel
theorem dX12_parts_114 : decode cX12_parts 114 = .ok (.bipush 16, 2) := by decide +kernel
theorem dX12_parts_116 : decode cX12_parts 116 = .ok (.iload 6, 2) := by decide +kernel
theorem dX12_parts_118 : decode cX12_parts 118 = .ok (.imul, 1) := by decide +kernel
theorem dX12_parts_119 : decode cX12_parts 119 = .ok (.bipush 8, 2) := by decide +kernel
theorem dX12_parts_121 : decode cX12_parts 121 = .ok (.iadd, 1) := by decide +kernel
theorem dX12_parts_122 : decode cX12_parts 122 = .ok (.bipush 16, 2) := by decide +kernel
theorem dX12_parts_124 : decode cX12_parts 124 = .ok (.iload_n 1, 1) := by decide +kernel
theorem dX12_parts_125 : decode cX12_parts 125 = .ok (.imul, 1) := by decide +kernel
theorem dX12_parts_126 : decode cX12_parts 126 = .ok (.bipush 8, 2) := by decide +kernel
theorem dX12_parts_128 : decode cX12_parts 128 = .ok (.iadd, 1) := by decide +kernel
theorem dX12_parts_129 : decode cX12_parts 129 = .ok (.iload 7, 2) := by decide +kernel
theorem dX12_parts_131 : decode cX12_parts 131 = .ok (.invokevirtual 353, 3) := by decide +kernel
theorem dX12_parts_134 : decode cX12_parts 134 = .ok (.istore 8, 2) := by decide +kernel
theorem dX12_parts_136 : decode cX12_parts 136 = .ok (.iload 8, 2) := by decide +kernel
theorem dX12_parts_138 : decode cX12_parts 138 = .ok (.iload_n 3, 1) := by decide +kernel
theorem dX12_parts_139 : decode cX12_parts 139 = .ok (.if_icmp .gt 6, 3) := by decide +kernel
theorem dX12_parts_142 : decode cX12_parts 142 = .ok (.goto 20, 3) := by decide +kernel
theorem dX12_parts_145 : decode cX12_parts 145 = .ok (.iload 8, 2) := by decide +kernel
theorem dX12_parts_147 : decode cX12_parts 147 = .ok (.istore_n 3, 1) := by decide +kernel
theorem dX12_parts_148 : decode cX12_parts 148 = .ok (.bipush 16, 2) := by decide +kernel
theorem dX12_parts_150 : decode cX12_parts 150 = .ok (.iload 6, 2) := by decide +kernel
theorem dX12_parts_152 : decode cX12_parts 152 = .ok (.imul, 1) := by decide +kernel
theorem dX12_parts_153 : decode cX12_parts 153 = .ok (.bipush 8, 2) := by decide +kernel
theorem dX12_parts_155 : decode cX12_parts 155 = .ok (.iadd, 1) := by decide +kernel
theorem dX12_parts_156 : decode cX12_parts 156 = .ok (.istore 4, 2) := by decide +kernel
theorem dX12_parts_158 : decode cX12_parts 158 = .ok (.iload 7, 2) := by decide +kernel
theorem dX12_parts_160 : decode cX12_parts 160 = .ok (.istore 5, 2) := by decide +kernel
theorem dX12_parts_162 : decode cX12_parts 162 = .ok (.iinc 7 8, 3) := by decide +kernel
theorem dX12_parts_165 : decode cX12_parts 165 = .ok (.goto (-81), 3) := by decide +kernel
theorem dX12_parts_168 : decode cX12_parts 168 = .ok (.iinc 6 1, 3) := by decide +kernel
theorem dX12_parts_171 : decode cX12_parts 171 = .ok (.goto (-99), 3) := by decide +kernel
theorem dX12_parts_174 : decode cX12_parts 174 = .ok (.iload 4, 2) := by decide +kernel
theorem dX12_parts_176 : decode cX12_parts 176 = .ok (.ifCond .ge 7, 3) := by decide +kernel
theorem dX12_parts_179 : decode cX12_parts 179 = .ok (.iconst (-1), 1) := by decide +kernel
theorem dX12_parts_180 : decode cX12_parts 180 = .ok (.goto 23, 3) := by decide +kernel
theorem dX12_parts_183 : decode cX12_parts 183 = .ok (.iload_n 2, 1) := by decide +kernel
theorem dX12_parts_184 : decode cX12_parts 184 = .ok (.ifCond .ne 8, 3) := by decide +kernel
theorem dX12_parts_187 : decode cX12_parts 187 = .ok (.iload 4, 2) := by decide +kernel
theorem dX12_parts_189 : decode cX12_parts 189 = .ok (.goto 14, 3) := by decide +kernel
theorem dX12_parts_192 : decode cX12_parts 192 = .ok (.iload_n 2, 1) := by decide +kernel
theorem dX12_parts_193 : decode cX12_parts 193 = .ok (.iconst 1, 1) := by decide +kernel
theorem dX12_parts_194 : decode cX12_parts 194 = .ok (.if_icmp .ne 8, 3) := by decide +kernel
theorem dX12_parts_197 : decode cX12_parts 197 = .ok (.iload 5, 2) := by decide +kernel
theorem dX12_parts_199 : decode cX12_parts 199 = .ok (.goto 4, 3) := by decide +kernel
theorem dX12_parts_202 : decode cX12_parts 202 = .ok (.iload_n 3, 1) := by decide +kernel
theorem dX12_parts_203 : decode cX12_parts 203 = .ok (.ireturn, 1) := by decide +kernel
set_option maxRecDepth 20000 in
theorem ggX12_image_X12_copy : GoodIn wsX12_image wsX12_copy := goodIn_r _ [6] (by decide +kernel) (by decide +kernel)
set_option maxRecDepth 20000 in
theorem gX12_image_X12_copy : GoodIn wsX12_image (va_wsS RX12 67 yX12_copy wsX12_copy) := goodIn_app (goodIn_of _ (by decide +kernel)) ggX12_image_X12_copy
theorem dX12_image_0 : decode cX12_image 0 = .ok (.aload_n 0, 1) := by decide +kernel
theorem dX12_image_1 : decode cX12_image 1 = .ok (.getfield 7, 3) := by decide +kernel
theorem dX12_image_4 : decode cX12_image 4 = .ok (.aload_n 0, 1) := by decide +kernel
theorem dX12_image_5 : decode cX12_image 5 = .ok (.getfield 13, 3) := by decide +kernel
theorem dX12_image_8 : decode cX12_image 8 = .ok (.invokestatic 67, 3) := by decide +kernel
theorem dX12_image_11 : decode cX12_image 11 = .ok (.aload_n 0, 1) := by decide +kernel
theorem dX12_image_12 : decode cX12_image 12 = .ok (.getfield 7, 3) := by decide +kernel
theorem dX12_image_15 : decode cX12_image 15 = .ok (.iconst 3, 1) := by decide +kernel
theorem dX12_image_16 : decode cX12_image 16 = .ok (.iaload, 1) := by decide +kernel
theorem dX12_image_17 : decode cX12_image 17 = .ok (.ireturn, 1) := by decide +kernel
set_option maxRecDepth 20000 in
theorem ggX12_back_X12_copy : GoodIn wsX12_back wsX12_copy := goodIn_r _ [6] (by decide +kernel) (by decide +kernel)
set_option maxRecDepth 20000 in
theorem gX12_back_X12_copy : GoodIn wsX12_back (va_wsS RX12 67 yX12_copy wsX12_copy) := goodIn_app (goodIn_of _ (by decide +kernel)) ggX12_back_X12_copy
theorem dX12_back_0 : decode cX12_back 0 = .ok (.aload_n 0, 1) := by decide +kernel
theorem dX12_back_1 : decode cX12_back 1 = .ok (.getfield 13, 3) := by decide +kernel
theorem dX12_back_4 : decode cX12_back 4 = .ok (.aload_n 0, 1) := by decide +kernel
theorem dX12_back_5 : decode cX12_back 5 = .ok (.getfield 7, 3) := by decide +kernel
theorem dX12_back_8 : decode cX12_back 8 = .ok (.invokestatic 67, 3) := by decide +kernel
theorem dX12_back_11 : decode cX12_back 11 = .ok (.aload_n 0, 1) := by decide +kernel
theorem dX12_back_12 : decode cX12_back 12 = .ok (.getfield 7, 3) := by decide +kernel
theorem dX12_back_15 : decode cX12_back 15 = .ok (.iconst 3, 1) := by decide +kernel
theorem dX12_back_16 : decode cX12_back 16 = .ok (.iaload, 1) := by decide +kernel
theorem dX12_back_17 : decode cX12_back 17 = .ok (.ireturn, 1) := by decide +kernel
theorem dX12_about_0 : decode cX12_about 0 = .ok (.iload_n 1, 1) := by decide +kernel
theorem dX12_about_1 : decode cX12_about 1 = .ok (.tableswitch 146 0 8 #[51, 56, 61, 68, 75, 82, 89, 96, 101], 51) := by decide +kernel
theorem dX12_about_52 : decode cX12_about 52 = .ok (.aload_n 0, 1) := by decide +kernel
theorem dX12_about_53 : decode cX12_about 53 = .ok (.getfield 61, 3) := by decide +kernel
theorem dX12_about_56 : decode cX12_about 56 = .ok (.ireturn, 1) := by decide +kernel
theorem dX12_about_57 : decode cX12_about 57 = .ok (.aload_n 0, 1) := by decide +kernel
theorem dX12_about_58 : decode cX12_about 58 = .ok (.getfield 64, 3) := by decide +kernel
theorem dX12_about_61 : decode cX12_about 61 = .ok (.ireturn, 1) := by decide +kernel
theorem dX12_about_62 : decode cX12_about 62 = .ok (.aload_n 0, 1) := by decide +kernel
theorem dX12_about_63 : decode cX12_about 63 = .ok (.getfield 7, 3) := by decide +kernel
theorem dX12_about_66 : decode cX12_about 66 = .ok (.iconst 0, 1) := by decide +kernel
theorem dX12_about_67 : decode cX12_about 67 = .ok (.iaload, 1) := by decide +kernel
theorem dX12_about_68 : decode cX12_about 68 = .ok (.ireturn, 1) := by decide +kernel
theorem dX12_about_69 : decode cX12_about 69 = .ok (.aload_n 0, 1) := by decide +kernel
theorem dX12_about_70 : decode cX12_about 70 = .ok (.getfield 7, 3) := by decide +kernel
theorem dX12_about_73 : decode cX12_about 73 = .ok (.iconst 1, 1) := by decide +kernel
theorem dX12_about_74 : decode cX12_about 74 = .ok (.iaload, 1) := by decide +kernel
theorem dX12_about_75 : decode cX12_about 75 = .ok (.ireturn, 1) := by decide +kernel
theorem dX12_about_76 : decode cX12_about 76 = .ok (.aload_n 0, 1) := by decide +kernel
theorem dX12_about_77 : decode cX12_about 77 = .ok (.getfield 7, 3) := by decide +kernel
theorem dX12_about_80 : decode cX12_about 80 = .ok (.iconst 2, 1) := by decide +kernel
theorem dX12_about_81 : decode cX12_about 81 = .ok (.iaload, 1) := by decide +kernel
theorem dX12_about_82 : decode cX12_about 82 = .ok (.ireturn, 1) := by decide +kernel
theorem dX12_about_83 : decode cX12_about 83 = .ok (.aload_n 0, 1) := by decide +kernel
theorem dX12_about_84 : decode cX12_about 84 = .ok (.getfield 7, 3) := by decide +kernel
theorem dX12_about_87 : decode cX12_about 87 = .ok (.iconst 3, 1) := by decide +kernel
theorem dX12_about_88 : decode cX12_about 88 = .ok (.iaload, 1) := by decide +kernel
theorem dX12_about_89 : decode cX12_about 89 = .ok (.ireturn, 1) := by decide +kernel
theorem dX12_about_90 : decode cX12_about 90 = .ok (.aload_n 0, 1) := by decide +kernel
theorem dX12_about_91 : decode cX12_about 91 = .ok (.getfield 7, 3) := by decide +kernel
theorem dX12_about_94 : decode cX12_about 94 = .ok (.iconst 4, 1) := by decide +kernel
theorem dX12_about_95 : decode cX12_about 95 = .ok (.iaload, 1) := by decide +kernel
theorem dX12_about_96 : decode cX12_about 96 = .ok (.ireturn, 1) := by decide +kernel
theorem dX12_about_97 : decode cX12_about 97 = .ok (.aload_n 0, 1) := by decide +kernel
theorem dX12_about_98 : decode cX12_about 98 = .ok (.getfield 136, 3) := by decide +kernel
theorem dX12_about_101 : decode cX12_about 101 = .ok (.ireturn, 1) := by decide +kernel
theorem dX12_about_102 : decode cX12_about 102 = .ok (.iconst 0, 1) := by decide +kernel
theorem dX12_about_103 : decode cX12_about 103 = .ok (.istore_n 2, 1) := by decide +kernel
theorem dX12_about_104 : decode cX12_about 104 = .ok (.iconst 0, 1) := by decide +kernel
theorem dX12_about_105 : decode cX12_about 105 = .ok (.istore_n 3, 1) := by decide +kernel
theorem dX12_about_106 : decode cX12_about 106 = .ok (.iload_n 3, 1) := by decide +kernel
theorem dX12_about_107 : decode cX12_about 107 = .ok (.aload_n 0, 1) := by decide +kernel
theorem dX12_about_108 : decode cX12_about 108 = .ok (.getfield 61, 3) := by decide +kernel
theorem dX12_about_111 : decode cX12_about 111 = .ok (.aload_n 0, 1) := by decide +kernel
theorem dX12_about_112 : decode cX12_about 112 = .ok (.getfield 64, 3) := by decide +kernel
theorem dX12_about_115 : decode cX12_about 115 = .ok (.imul, 1) := by decide +kernel
theorem dX12_about_116 : decode cX12_about 116 = .ok (.if_icmp .ge 29, 3) := by decide +kernel
theorem dX12_about_119 : decode cX12_about 119 = .ok (.iload_n 2, 1) := by decide +kernel
theorem dX12_about_120 : decode cX12_about 120 = .ok (.aload_n 0, 1) := by decide +kernel
theorem dX12_about_121 : decode cX12_about 121 = .ok (.getfield 7, 3) := by decide +kernel
theorem dX12_about_124 : decode cX12_about 124 = .ok (.bipush 10, 2) := by decide +kernel
theorem dX12_about_126 : decode cX12_about 126 = .ok (.iload_n 3, 1) := by decide +kernel
theorem dX12_about_127 : decode cX12_about 127 = .ok (.iadd, 1) := by decide +kernel
theorem dX12_about_128 : decode cX12_about 128 = .ok (.iaload, 1) := by decide +kernel
theorem dX12_about_129 : decode cX12_about 129 = .ok (.ifCond .le 7, 3) := by decide +kernel
theorem dX12_about_132 : decode cX12_about 132 = .ok (.iconst 1, 1) := by decide +kernel
theorem dX12_about_133 : decode cX12_about 133 = .ok (.goto 4, 3) := by decide +kernel
theorem dX12_about_136 : decode cX12_about 136 = .ok (.iconst 0, 1) := by decide +kernel
theorem dX12_about_137 : decode cX12_about 137 = .ok (.iadd, 1) := by decide +kernel
theorem dX12_about_138 : decode cX12_about 138 = .ok (.istore_n 2, 1) := by decide +kernel
theorem dX12_about_139 : decode cX12_about 139 = .ok (.iinc 3 1, 3) := by decide +kernel
theorem dX12_about_142 : decode cX12_about 142 = .ok (.goto (-36), 3) := by decide +kernel
theorem dX12_about_145 : decode cX12_about 145 = .ok (.iload_n 2, 1) := by decide +kernel
theorem dX12_about_146 : decode cX12_about 146 = .ok (.ireturn, 1) := by decide +kernel
theorem dX12_about_147 : decode cX12_about 147 = .ok (.iconst (-1), 1) := by decide +kernel
theorem dX12_about_148 : decode cX12_about 148 = .ok (.ireturn, 1) := by decide +kernel
theorem dJ6_bitCount_0f7a4_0 : decode cJ6_bitCount_0f7a4 0 = .ok (.iload_n 0, 1) := by decide +kernel
theorem dJ6_bitCount_0f7a4_1 : decode cJ6_bitCount_0f7a4 1 = .ok (.iload_n 0, 1) := by decide +kernel
theorem dJ6_bitCount_0f7a4_2 : decode cJ6_bitCount_0f7a4 2 = .ok (.iconst 1, 1) := by decide +kernel
theorem dJ6_bitCount_0f7a4_3 : decode cJ6_bitCount_0f7a4 3 = .ok (.iushr, 1) := by decide +kernel
theorem dJ6_bitCount_0f7a4_4 : decode cJ6_bitCount_0f7a4 4 = .ok (.ldc_w 265, 3) := by decide +kernel
theorem dJ6_bitCount_0f7a4_7 : decode cJ6_bitCount_0f7a4 7 = .ok (.iand, 1) := by decide +kernel
theorem dJ6_bitCount_0f7a4_8 : decode cJ6_bitCount_0f7a4 8 = .ok (.isub, 1) := by decide +kernel
theorem dJ6_bitCount_0f7a4_9 : decode cJ6_bitCount_0f7a4 9 = .ok (.istore_n 0, 1) := by decide +kernel
theorem dJ6_bitCount_0f7a4_10 : decode cJ6_bitCount_0f7a4 10 = .ok (.iload_n 0, 1) := by decide +kernel
theorem dJ6_bitCount_0f7a4_11 : decode cJ6_bitCount_0f7a4 11 = .ok (.ldc_w 266, 3) := by decide +kernel
theorem dJ6_bitCount_0f7a4_14 : decode cJ6_bitCount_0f7a4 14 = .ok (.iand, 1) := by decide +kernel
theorem dJ6_bitCount_0f7a4_15 : decode cJ6_bitCount_0f7a4 15 = .ok (.iload_n 0, 1) := by decide +kernel
theorem dJ6_bitCount_0f7a4_16 : decode cJ6_bitCount_0f7a4 16 = .ok (.iconst 2, 1) := by decide +kernel
theorem dJ6_bitCount_0f7a4_17 : decode cJ6_bitCount_0f7a4 17 = .ok (.iushr, 1) := by decide +kernel
theorem dJ6_bitCount_0f7a4_18 : decode cJ6_bitCount_0f7a4 18 = .ok (.ldc_w 266, 3) := by decide +kernel
theorem dJ6_bitCount_0f7a4_21 : decode cJ6_bitCount_0f7a4 21 = .ok (.iand, 1) := by decide +kernel
theorem dJ6_bitCount_0f7a4_22 : decode cJ6_bitCount_0f7a4 22 = .ok (.iadd, 1) := by decide +kernel
theorem dJ6_bitCount_0f7a4_23 : decode cJ6_bitCount_0f7a4 23 = .ok (.istore_n 0, 1) := by decide +kernel
theorem dJ6_bitCount_0f7a4_24 : decode cJ6_bitCount_0f7a4 24 = .ok (.iload_n 0, 1) := by decide +kernel
theorem dJ6_bitCount_0f7a4_25 : decode cJ6_bitCount_0f7a4 25 = .ok (.iload_n 0, 1) := by decide +kernel
theorem dJ6_bitCount_0f7a4_26 : decode cJ6_bitCount_0f7a4 26 = .ok (.iconst 4, 1) := by decide +kernel
theorem dJ6_bitCount_0f7a4_27 : decode cJ6_bitCount_0f7a4 27 = .ok (.iushr, 1) := by decide +kernel
theorem dJ6_bitCount_0f7a4_28 : decode cJ6_bitCount_0f7a4 28 = .ok (.iadd, 1) := by decide +kernel
theorem dJ6_bitCount_0f7a4_29 : decode cJ6_bitCount_0f7a4 29 = .ok (.ldc_w 267, 3) := by decide +kernel
theorem dJ6_bitCount_0f7a4_32 : decode cJ6_bitCount_0f7a4 32 = .ok (.iand, 1) := by decide +kernel
theorem dJ6_bitCount_0f7a4_33 : decode cJ6_bitCount_0f7a4 33 = .ok (.istore_n 0, 1) := by decide +kernel
theorem dJ6_bitCount_0f7a4_34 : decode cJ6_bitCount_0f7a4 34 = .ok (.iload_n 0, 1) := by decide +kernel
theorem dJ6_bitCount_0f7a4_35 : decode cJ6_bitCount_0f7a4 35 = .ok (.iload_n 0, 1) := by decide +kernel
theorem dJ6_bitCount_0f7a4_36 : decode cJ6_bitCount_0f7a4 36 = .ok (.bipush 8, 2) := by decide +kernel
theorem dJ6_bitCount_0f7a4_38 : decode cJ6_bitCount_0f7a4 38 = .ok (.iushr, 1) := by decide +kernel
theorem dJ6_bitCount_0f7a4_39 : decode cJ6_bitCount_0f7a4 39 = .ok (.iadd, 1) := by decide +kernel
theorem dJ6_bitCount_0f7a4_40 : decode cJ6_bitCount_0f7a4 40 = .ok (.istore_n 0, 1) := by decide +kernel
theorem dJ6_bitCount_0f7a4_41 : decode cJ6_bitCount_0f7a4 41 = .ok (.iload_n 0, 1) := by decide +kernel
theorem dJ6_bitCount_0f7a4_42 : decode cJ6_bitCount_0f7a4 42 = .ok (.iload_n 0, 1) := by decide +kernel
theorem dJ6_bitCount_0f7a4_43 : decode cJ6_bitCount_0f7a4 43 = .ok (.bipush 16, 2) := by decide +kernel
theorem dJ6_bitCount_0f7a4_45 : decode cJ6_bitCount_0f7a4 45 = .ok (.iushr, 1) := by decide +kernel
theorem dJ6_bitCount_0f7a4_46 : decode cJ6_bitCount_0f7a4 46 = .ok (.iadd, 1) := by decide +kernel
theorem dJ6_bitCount_0f7a4_47 : decode cJ6_bitCount_0f7a4 47 = .ok (.istore_n 0, 1) := by decide +kernel
theorem dJ6_bitCount_0f7a4_48 : decode cJ6_bitCount_0f7a4 48 = .ok (.iload_n 0, 1) := by decide +kernel
theorem dJ6_bitCount_0f7a4_49 : decode cJ6_bitCount_0f7a4 49 = .ok (.bipush 63, 2) := by decide +kernel
theorem dJ6_bitCount_0f7a4_51 : decode cJ6_bitCount_0f7a4 51 = .ok (.iand, 1) := by decide +kernel
theorem dJ6_bitCount_0f7a4_52 : decode cJ6_bitCount_0f7a4 52 = .ok (.ireturn, 1) := by decide +kernel
theorem dJ9_floorDiv_7cf53_0 : decode cJ9_floorDiv_7cf53 0 = .ok (.iload_n 0, 1) := by decide +kernel
theorem dJ9_floorDiv_7cf53_1 : decode cJ9_floorDiv_7cf53 1 = .ok (.iload_n 1, 1) := by decide +kernel
theorem dJ9_floorDiv_7cf53_2 : decode cJ9_floorDiv_7cf53 2 = .ok (.idiv, 1) := by decide +kernel
theorem dJ9_floorDiv_7cf53_3 : decode cJ9_floorDiv_7cf53 3 = .ok (.istore_n 2, 1) := by decide +kernel
theorem dJ9_floorDiv_7cf53_4 : decode cJ9_floorDiv_7cf53 4 = .ok (.iload_n 0, 1) := by decide +kernel
theorem dJ9_floorDiv_7cf53_5 : decode cJ9_floorDiv_7cf53 5 = .ok (.iload_n 1, 1) := by decide +kernel
theorem dJ9_floorDiv_7cf53_6 : decode cJ9_floorDiv_7cf53 6 = .ok (.ixor, 1) := by decide +kernel
theorem dJ9_floorDiv_7cf53_7 : decode cJ9_floorDiv_7cf53 7 = .ok (.ifCond .ge 14, 3) := by decide +kernel
theorem dJ9_floorDiv_7cf53_10 : decode cJ9_floorDiv_7cf53 10 = .ok (.iload_n 2, 1) := by decide +kernel
theorem dJ9_floorDiv_7cf53_11 : decode cJ9_floorDiv_7cf53 11 = .ok (.iload_n 1, 1) := by decide +kernel
theorem dJ9_floorDiv_7cf53_12 : decode cJ9_floorDiv_7cf53 12 = .ok (.imul, 1) := by decide +kernel
theorem dJ9_floorDiv_7cf53_13 : decode cJ9_floorDiv_7cf53 13 = .ok (.iload_n 0, 1) := by decide +kernel
theorem dJ9_floorDiv_7cf53_14 : decode cJ9_floorDiv_7cf53 14 = .ok (.if_icmp .eq 7, 3) := by decide +kernel
theorem dJ9_floorDiv_7cf53_17 : decode cJ9_floorDiv_7cf53 17 = .ok (.iload_n 2, 1) := by decide +kernel
theorem dJ9_floorDiv_7cf53_18 : decode cJ9_floorDiv_7cf53 18 = .ok (.iconst 1, 1) := by decide +kernel
theorem dJ9_floorDiv_7cf53_19 : decode cJ9_floorDiv_7cf53 19 = .ok (.isub, 1) := by decide +kernel
theorem dJ9_floorDiv_7cf53_20 : decode cJ9_floorDiv_7cf53 20 = .ok (.ireturn, 1) := by decide +kernel
theorem dJ9_floorDiv_7cf53_21 : decode cJ9_floorDiv_7cf53 21 = .ok (.iload_n 2, 1) := by decide +kernel
theorem dJ9_floorDiv_7cf53_22 : decode cJ9_floorDiv_7cf53 22 = .ok (.ireturn, 1) := by decide +kernel
theorem dJ9_abs_0f7a4_0 : decode cJ9_abs_0f7a4 0 = .ok (.iload_n 0, 1) := by decide +kernel
theorem dJ9_abs_0f7a4_1 : decode cJ9_abs_0f7a4 1 = .ok (.ifCond .ge 8, 3) := by decide +kernel
theorem dJ9_abs_0f7a4_4 : decode cJ9_abs_0f7a4 4 = .ok (.iload_n 0, 1) := by decide +kernel
theorem dJ9_abs_0f7a4_5 : decode cJ9_abs_0f7a4 5 = .ok (.ineg, 1) := by decide +kernel
theorem dJ9_abs_0f7a4_6 : decode cJ9_abs_0f7a4 6 = .ok (.goto 4, 3) := by decide +kernel
theorem dJ9_abs_0f7a4_9 : decode cJ9_abs_0f7a4 9 = .ok (.iload_n 0, 1) := by decide +kernel
theorem dJ9_abs_0f7a4_10 : decode cJ9_abs_0f7a4 10 = .ok (.ireturn, 1) := by decide +kernel
theorem dJ9_max_7cf53_0 : decode cJ9_max_7cf53 0 = .ok (.iload_n 0, 1) := by decide +kernel
theorem dJ9_max_7cf53_1 : decode cJ9_max_7cf53 1 = .ok (.iload_n 1, 1) := by decide +kernel
theorem dJ9_max_7cf53_2 : decode cJ9_max_7cf53 2 = .ok (.if_icmp .lt 7, 3) := by decide +kernel
theorem dJ9_max_7cf53_5 : decode cJ9_max_7cf53 5 = .ok (.iload_n 0, 1) := by decide +kernel
theorem dJ9_max_7cf53_6 : decode cJ9_max_7cf53 6 = .ok (.goto 4, 3) := by decide +kernel
theorem dJ9_max_7cf53_9 : decode cJ9_max_7cf53 9 = .ok (.iload_n 1, 1) := by decide +kernel
theorem dJ9_max_7cf53_10 : decode cJ9_max_7cf53 10 = .ok (.ireturn, 1) := by decide +kernel
theorem dJ9_min_7cf53_0 : decode cJ9_min_7cf53 0 = .ok (.iload_n 0, 1) := by decide +kernel
theorem dJ9_min_7cf53_1 : decode cJ9_min_7cf53 1 = .ok (.iload_n 1, 1) := by decide +kernel
theorem dJ9_min_7cf53_2 : decode cJ9_min_7cf53 2 = .ok (.if_icmp .gt 7, 3) := by decide +kernel
theorem dJ9_min_7cf53_5 : decode cJ9_min_7cf53 5 = .ok (.iload_n 0, 1) := by decide +kernel
theorem dJ9_min_7cf53_6 : decode cJ9_min_7cf53 6 = .ok (.goto 4, 3) := by decide +kernel
theorem dJ9_min_7cf53_9 : decode cJ9_min_7cf53 9 = .ok (.iload_n 1, 1) := by decide +kernel
theorem dJ9_min_7cf53_10 : decode cJ9_min_7cf53 10 = .ok (.ireturn, 1) := by decide +kernel
theorem dJ7_fill_53178_0 : decode cJ7_fill_53178 0 = .ok (.iconst 0, 1) := by decide +kernel
theorem dJ7_fill_53178_1 : decode cJ7_fill_53178 1 = .ok (.istore_n 2, 1) := by decide +kernel
theorem dJ7_fill_53178_2 : decode cJ7_fill_53178 2 = .ok (.aload_n 0, 1) := by decide +kernel
theorem dJ7_fill_53178_3 : decode cJ7_fill_53178 3 = .ok (.arraylength, 1) := by decide +kernel
theorem dJ7_fill_53178_4 : decode cJ7_fill_53178 4 = .ok (.istore_n 3, 1) := by decide +kernel
theorem dJ7_fill_53178_5 : decode cJ7_fill_53178 5 = .ok (.iload_n 2, 1) := by decide +kernel
theorem dJ7_fill_53178_6 : decode cJ7_fill_53178 6 = .ok (.iload_n 3, 1) := by decide +kernel
theorem dJ7_fill_53178_7 : decode cJ7_fill_53178 7 = .ok (.if_icmp .ge 13, 3) := by decide +kernel
theorem dJ7_fill_53178_10 : decode cJ7_fill_53178 10 = .ok (.aload_n 0, 1) := by decide +kernel
theorem dJ7_fill_53178_11 : decode cJ7_fill_53178 11 = .ok (.iload_n 2, 1) := by decide +kernel
theorem dJ7_fill_53178_12 : decode cJ7_fill_53178 12 = .ok (.iload_n 1, 1) := by decide +kernel
theorem dJ7_fill_53178_13 : decode cJ7_fill_53178 13 = .ok (.iastore, 1) := by decide +kernel
theorem dJ7_fill_53178_14 : decode cJ7_fill_53178 14 = .ok (.iinc 2 1, 3) := by decide +kernel
theorem dJ7_fill_53178_17 : decode cJ7_fill_53178 17 = .ok (.goto (-12), 3) := by decide +kernel
theorem dJ7_fill_53178_20 : decode cJ7_fill_53178 20 = .ok (.return_, 1) := by decide +kernel
theorem dJ7_copyOf_59c91_0 : decode cJ7_copyOf_59c91 0 = .ok (.iload_n 1, 1) := by decide +kernel
theorem dJ7_copyOf_59c91_1 : decode cJ7_copyOf_59c91 1 = .ok (.aload_n 0, 1) := by decide +kernel
theorem dJ7_copyOf_59c91_2 : decode cJ7_copyOf_59c91 2 = .ok (.arraylength, 1) := by decide +kernel
theorem dJ7_copyOf_59c91_3 : decode cJ7_copyOf_59c91 3 = .ok (.if_icmp .ne 11, 3) := by decide +kernel
theorem dJ7_copyOf_59c91_6 : decode cJ7_copyOf_59c91 6 = .ok (.aload_n 0, 1) := by decide +kernel
theorem dJ7_copyOf_59c91_7 : decode cJ7_copyOf_59c91 7 = .ok (.invokevirtual 316, 3) := by decide +kernel
theorem dJ7_copyOf_59c91_10 : decode cJ7_copyOf_59c91 10 = .ok (.checkcast 317, 3) := by decide +kernel
theorem dJ7_copyOf_59c91_13 : decode cJ7_copyOf_59c91 13 = .ok (.areturn, 1) := by decide +kernel
theorem dJ7_copyOf_59c91_14 : decode cJ7_copyOf_59c91 14 = .ok (.iload_n 1, 1) := by decide +kernel
theorem dJ7_copyOf_59c91_15 : decode cJ7_copyOf_59c91 15 = .ok (.newarray .int, 2) := by decide +kernel
theorem dJ7_copyOf_59c91_17 : decode cJ7_copyOf_59c91 17 = .ok (.astore_n 2, 1) := by decide +kernel
theorem dJ7_copyOf_59c91_18 : decode cJ7_copyOf_59c91 18 = .ok (.aload_n 0, 1) := by decide +kernel
theorem dJ7_copyOf_59c91_19 : decode cJ7_copyOf_59c91 19 = .ok (.iconst 0, 1) := by decide +kernel
theorem dJ7_copyOf_59c91_20 : decode cJ7_copyOf_59c91 20 = .ok (.aload_n 2, 1) := by decide +kernel
theorem dJ7_copyOf_59c91_21 : decode cJ7_copyOf_59c91 21 = .ok (.iconst 0, 1) := by decide +kernel
theorem dJ7_copyOf_59c91_22 : decode cJ7_copyOf_59c91 22 = .ok (.aload_n 0, 1) := by decide +kernel
theorem dJ7_copyOf_59c91_23 : decode cJ7_copyOf_59c91 23 = .ok (.arraylength, 1) := by decide +kernel
theorem dJ7_copyOf_59c91_24 : decode cJ7_copyOf_59c91 24 = .ok (.iload_n 1, 1) := by decide +kernel
theorem dJ7_copyOf_59c91_25 : decode cJ7_copyOf_59c91 25 = .ok (.invokestatic 304, 3) := by decide +kernel
theorem dJ7_copyOf_59c91_28 : decode cJ7_copyOf_59c91 28 = .ok (.invokestatic 150, 3) := by decide +kernel
theorem dJ7_copyOf_59c91_31 : decode cJ7_copyOf_59c91 31 = .ok (.aload_n 2, 1) := by decide +kernel
theorem dJ7_copyOf_59c91_32 : decode cJ7_copyOf_59c91 32 = .ok (.areturn, 1) := by decide +kernel
theorem dL_cell_0 : decode cL_cell 0 = .ok (.iload_n 1, 1) := by decide +kernel
theorem dL_cell_1 : decode cL_cell 1 = .ok (.aload_n 0, 1) := by decide +kernel
theorem dL_cell_2 : decode cL_cell 2 = .ok (.arraylength, 1) := by decide +kernel
theorem dL_cell_3 : decode cL_cell 3 = .ok (.if_icmp .ge 9, 3) := by decide +kernel
theorem dL_cell_6 : decode cL_cell 6 = .ok (.aload_n 0, 1) := by decide +kernel
theorem dL_cell_7 : decode cL_cell 7 = .ok (.iload_n 1, 1) := by decide +kernel
theorem dL_cell_8 : decode cL_cell 8 = .ok (.iaload, 1) := by decide +kernel
theorem dL_cell_9 : decode cL_cell 9 = .ok (.goto 4, 3) := by decide +kernel
theorem dL_cell_12 : decode cL_cell 12 = .ok (.iconst 0, 1) := by decide +kernel
theorem dL_cell_13 : decode cL_cell 13 = .ok (.ireturn, 1) := by decide +kernel
set_option maxRecDepth 20000 in
theorem ggL_law_L_cell : GoodIn wsL_law wsL_cell := goodIn_r _ [9] (by decide +kernel) (by decide +kernel)
set_option maxRecDepth 20000 in
theorem gL_law_L_cell : GoodIn wsL_law (va_wsS RL 9 yL_cell wsL_cell) := goodIn_app (goodIn_of _ (by decide +kernel)) ggL_law_L_cell
set_option maxRecDepth 20000 in
theorem ggL_law_X11_init : GoodIn wsL_law wsX11_init := goodIn_r _ [12, 13, 14, 15, 16, 17, 18, 19, 20, 21, 22, 23, 24, 25, 26, 27, 28, 29, 30, 31, 32, 33, 34, 35, 36, 37, 38, 39, 40, 41, 42, 43, 44, 45, 46, 47, 48, 49, 50, 51, 52, 53, 54, 55, 56, 57, 58, 59, 60, 61, 62, 63, 64, 65, 66, 67, 68, 69, 70, 71, 72, 73, 74, 75, 76, 77, 78, 79, 80, 81, 82, 83, 84, 85, 86, 87, 88, 89, 90, 91, 92, 93, 94, 95, 96, 97, 98, 99, 100, 101, 102, 103, 104, 105, 106, 107, 108, 109, 110, 111, 112, 113, 114, 115, 116, 117, 118, 119, 120, 121, 122, 123, 124, 125, 126, 127, 128, 129, 130, 131, 132, 133, 134, 135, 136, 137, 138, 139, 140, 141, 142, 1159, 1160, 1161, 1162, 1163, 1164, 1107, 1108, 1109, 1110, 1111, 1112, 1113, 1114, 1115, 1165, 1166, 1167, 1168, 1169, 1170, 1171, 1172, 1173, 1174, 1175, 1176, 1177, 1178, 1179, 1180, 1181, 1182, 1183, 1184, 1185, 1186, 1187, 1188, 1189, 1190, 1191, 1192, 1193, 1194, 1195, 1196, 1197, 1198, 1199, 1200, 1201, 1202, 1203, 1204, 1205, 1206, 1207, 1208, 1209, 1210, 1211, 1212, 1213, 1214, 1215, 1216, 1217, 1218, 1219, 1220, 1221, 1222, 1223, 1224, 1225, 1226, 1227, 1228, 1229, 1230, 1231, 1232] (by decide +kernel) (by decide +kernel)
set_option maxRecDepth 20000 in
theorem gL_law_X11_init : GoodIn wsL_law (wsX11_init) := ggL_law_X11_init
set_option maxRecDepth 20000 in
theorem ggL_law_X12_init : GoodIn wsL_law wsX12_init := goodIn_r _ [145, 146, 14, 15, 34, 147, 148, 149, 150, 151, 152, 153, 154, 155, 156, 157, 158, 159, 160, 161, 162, 163, 164, 165, 166, 167, 168, 5, 169, 1116, 1117, 1118, 1119, 1120, 1121, 1122, 1123, 1124, 1125, 1126, 1127, 1128, 1129, 1130, 1131, 1132, 1133, 1134, 1135, 1136, 1137, 1138, 1139, 1140, 1141, 1142, 1143, 1144, 1145, 1146, 1147, 1148, 1149, 1150, 1151, 1152, 1153, 1154, 1155, 1156, 1157, 1158] (by decide +kernel) (by decide +kernel)
set_option maxRecDepth 20000 in
theorem gL_law_X12_init : GoodIn wsL_law (wsX12_init) := ggL_law_X12_init
set_option maxRecDepth 20000 in
theorem ggL_law_X11_mark : GoodIn wsL_law wsX11_mark := goodIn_r _ [173, 19, 24, 174, 175, 176, 177, 43, 178, 72, 179, 2, 180, 181, 1107, 1108, 1109, 1110, 1111, 1112, 1113, 1114, 1115, 1159, 1160, 1161, 1162, 1163, 1164, 1182, 1183, 1184, 1185, 1186, 1187, 1188, 1189, 1190] (by decide +kernel) (by decide +kernel)
set_option maxRecDepth 20000 in
theorem gL_law_X11_mark : GoodIn wsL_law (wsV RL 21 RX11 yX11_mark wsX11_mark) := goodIn_app (goodIn_of _ (by decide +kernel)) ggL_law_X11_mark
set_option maxRecDepth 20000 in
theorem ggL_law_X12_mark : GoodIn wsL_law wsX12_mark := goodIn_r _ [185, 147, 186, 187, 188, 5, 189, 165, 166, 190, 191, 192, 1116, 1117, 1118, 1119, 1120, 1121, 1122, 1123, 1124, 1125, 1126, 1127, 1128, 1129, 1130, 1131, 1132, 1133, 1134, 1135, 1136, 1137, 1138, 1139, 1140, 1141, 1142, 1143, 1144, 1145, 1146, 1147, 1148, 1149, 1150, 1151, 1152, 1153, 1154, 1155, 1156, 1157, 1158] (by decide +kernel) (by decide +kernel)
set_option maxRecDepth 20000 in
theorem gL_law_X12_mark : GoodIn wsL_law (wsV RL 25 RX12 yX12_mark wsX12_mark) := goodIn_app (goodIn_of _ (by decide +kernel)) ggL_law_X12_mark
set_option maxRecDepth 20000 in
theorem ggL_law_X11_body : GoodIn wsL_law wsX11_body := goodIn_r _ [196, 19, 24, 197, 198, 199, 200, 201, 202, 203, 175, 176, 177, 43, 178, 72, 179, 2, 180, 181, 204, 205, 206, 207, 70, 1107, 1108, 1109, 1110, 1111, 1112, 1113, 1114, 1115, 1159, 1160, 1161, 1162, 1163, 1164, 1182, 1183, 1184, 1185, 1186, 1187, 1188, 1189, 1190] (by decide +kernel) (by decide +kernel)
set_option maxRecDepth 20000 in
theorem gL_law_X11_body : GoodIn wsL_law (wsV RL 26 RX11 yX11_body wsX11_body) := goodIn_app (goodIn_of _ (by decide +kernel)) ggL_law_X11_body
set_option maxRecDepth 20000 in
theorem ggL_law_X12_body : GoodIn wsL_law wsX12_body := goodIn_r _ [211, 147, 186, 187, 188, 5, 189, 165, 166, 190, 191, 192, 1116, 1117, 1118, 1119, 1120, 1121, 1122, 1123, 1124, 1125, 1126, 1127, 1128, 1129, 1130, 1131, 1132, 1133, 1134, 1135, 1136, 1137, 1138, 1139, 1140, 1141, 1142, 1143, 1144, 1145, 1146, 1147, 1148, 1149, 1150, 1151, 1152, 1153, 1154, 1155, 1156, 1157, 1158] (by decide +kernel) (by decide +kernel)
set_option maxRecDepth 20000 in
theorem gL_law_X12_body : GoodIn wsL_law (wsV RL 30 RX12 yX12_body wsX12_body) := goodIn_app (goodIn_of _ (by decide +kernel)) ggL_law_X12_body
set_option maxRecDepth 20000 in
theorem ggL_law_X11_markOf : GoodIn wsL_law wsX11_markOf := goodIn_r _ [215, 19, 24, 175, 176, 177, 43, 178, 72, 179, 2, 180, 216, 217, 218, 181, 219, 220, 221, 222, 223, 77, 224, 225, 226, 227, 73, 75, 74, 76, 70, 71, 228, 1107, 1108, 1109, 1110, 1111, 1112, 1113, 1114, 1115, 1159, 1160, 1161, 1162, 1163, 1164, 1182, 1183, 1184, 1185, 1186, 1187, 1188, 1189, 1190] (by decide +kernel) (by decide +kernel)
set_option maxRecDepth 20000 in
theorem gL_law_X11_markOf : GoodIn wsL_law (wsV RL 31 RX11 yX11_markOf wsX11_markOf) := goodIn_app (goodIn_of _ (by decide +kernel)) ggL_law_X11_markOf
set_option maxRecDepth 20000 in
theorem ggL_law_X12_markOf : GoodIn wsL_law wsX12_markOf := goodIn_r _ [232, 186, 187, 188, 5, 189, 165, 166, 190, 191, 192, 233, 234, 235, 236, 237, 238, 239, 147, 240, 241, 242, 243, 1116, 1117, 1118, 1119, 1120, 1121, 1122, 1123, 1124, 1125, 1126, 1127, 1128, 1129, 1130, 1131, 1132, 1133, 1134, 1135, 1136, 1137, 1138, 1139, 1140, 1141, 1142, 1143, 1144, 1145, 1146, 1147, 1148, 1149, 1150, 1151, 1152, 1153, 1154, 1155, 1156, 1157, 1158] (by decide +kernel) (by decide +kernel)
set_option maxRecDepth 20000 in
theorem gL_law_X12_markOf : GoodIn wsL_law (wsV RL 35 RX12 yX12_markOf wsX12_markOf) := goodIn_app (goodIn_of _ (by decide +kernel)) ggL_law_X12_markOf
set_option maxRecDepth 20000 in
theorem ggL_law_X11_lens : GoodIn wsL_law wsX11_lens := goodIn_r _ [247, 19, 248, 249, 250, 251, 252, 253, 2, 254, 181, 179, 180, 1107, 1108, 1109, 1110, 1111, 1112, 1113, 1114, 1115, 1159, 1160, 1161, 1162, 1163, 1164, 1191, 1192, 1193, 1194, 1195, 1196, 1197] (by decide +kernel) (by decide +kernel)
set_option maxRecDepth 20000 in
theorem gL_law_X11_lens : GoodIn wsL_law (wsV RL 36 RX11 yX11_lens wsX11_lens) := goodIn_app (goodIn_of _ (by decide +kernel)) ggL_law_X11_lens
set_option maxRecDepth 20000 in
theorem ggL_law_X12_lens : GoodIn wsL_law wsX12_lens := goodIn_r _ [258, 147, 259, 260, 5, 261, 190, 191, 192, 1116, 1117, 1118, 1119, 1120, 1121, 1122, 1123, 1124, 1125, 1126, 1127, 1128, 1129, 1130, 1131, 1132, 1133, 1134, 1135, 1136, 1137, 1138, 1139, 1140, 1141, 1142, 1143, 1144, 1145, 1146, 1147, 1148, 1149, 1150, 1151, 1152, 1153, 1154, 1155, 1156, 1157, 1158] (by decide +kernel) (by decide +kernel)
set_option maxRecDepth 20000 in
theorem gL_law_X12_lens : GoodIn wsL_law (wsV RL 39 RX12 yX12_lens wsX12_lens) := goodIn_app (goodIn_of _ (by decide +kernel)) ggL_law_X12_lens
set_option maxRecDepth 20000 in
theorem ggL_law_X11_pair : GoodIn wsL_law wsX11_pair := goodIn_r _ [265, 19, 248, 266, 267, 268, 269, 270, 271, 272, 47, 273, 274, 179, 2, 180, 181, 1107, 1108, 1109, 1110, 1111, 1112, 1113, 1114, 1115, 1159, 1160, 1161, 1162, 1163, 1164, 1191, 1192, 1193, 1194, 1195, 1196, 1197] (by decide +kernel) (by decide +kernel)
set_option maxRecDepth 20000 in
theorem gL_law_X11_pair : GoodIn wsL_law (wsV RL 40 RX11 yX11_pair wsX11_pair) := goodIn_app (goodIn_of _ (by decide +kernel)) ggL_law_X11_pair
set_option maxRecDepth 20000 in
theorem ggL_law_X12_pair : GoodIn wsL_law wsX12_pair := goodIn_r _ [278, 147, 279, 280, 281, 5, 282, 190, 191, 192, 1116, 1117, 1118, 1119, 1120, 1121, 1122, 1123, 1124, 1125, 1126, 1127, 1128, 1129, 1130, 1131, 1132, 1133, 1134, 1135, 1136, 1137, 1138, 1139, 1140, 1141, 1142, 1143, 1144, 1145, 1146, 1147, 1148, 1149, 1150, 1151, 1152, 1153, 1154, 1155, 1156, 1157, 1158] (by decide +kernel) (by decide +kernel)
set_option maxRecDepth 20000 in
theorem gL_law_X12_pair : GoodIn wsL_law (wsV RL 44 RX12 yX12_pair wsX12_pair) := goodIn_app (goodIn_of _ (by decide +kernel)) ggL_law_X12_pair
set_option maxRecDepth 20000 in
theorem ggL_law_X11_ray : GoodIn wsL_law wsX11_ray := goodIn_r _ [286, 19, 24, 25, 287, 288, 289, 43, 290, 70, 71, 179, 2, 180, 252, 253, 254, 181, 216, 217, 218, 291, 292, 293, 23, 294, 295, 296, 103, 104, 105, 297, 298, 299, 300, 301, 302, 106, 303, 225, 226, 227, 73, 75, 74, 76, 304, 305, 306, 307, 308, 309, 310, 311, 312, 313, 1107, 1108, 1109, 1110, 1111, 1112, 1113, 1114, 1115, 1159, 1160, 1161, 1162, 1163, 1164, 1182, 1183, 1184, 1185, 1186, 1187, 1188, 1189, 1190, 1165, 1166, 1167, 1168, 1169] (by decide +kernel) (by decide +kernel)
set_option maxRecDepth 20000 in
theorem gL_law_X11_ray : GoodIn wsL_law (wsV RL 45 RX11 yX11_ray wsX11_ray) := goodIn_app (goodIn_of _ (by decide +kernel)) ggL_law_X11_ray
set_option maxRecDepth 20000 in
theorem ggL_law_X12_ray : GoodIn wsL_law wsX12_ray := goodIn_r _ [317, 152, 151, 318, 319, 320, 5, 321, 165, 166, 190, 191, 192, 259, 260, 261, 233, 234, 235, 322, 323, 324, 325, 150, 147, 240, 241, 242, 243, 326, 327, 328, 329, 330, 331, 332, 333, 334, 335, 336, 337, 338, 1116, 1117, 1118, 1119, 1120, 1121, 1122, 1123, 1124, 1125, 1126, 1127, 1128, 1129, 1130, 1131, 1132, 1133, 1134, 1135, 1136, 1137, 1138, 1139, 1140, 1141, 1142, 1143, 1144, 1145, 1146, 1147, 1148, 1149, 1150, 1151, 1152, 1153, 1154, 1155, 1156, 1157, 1158] (by decide +kernel) (by decide +kernel)
set_option maxRecDepth 20000 in
theorem gL_law_X12_ray : GoodIn wsL_law (wsV RL 49 RX12 yX12_ray wsX12_ray) := goodIn_app (goodIn_of _ (by decide +kernel)) ggL_law_X12_ray
set_option maxRecDepth 20000 in
theorem ggL_law_X11_take : GoodIn wsL_law wsX11_take := goodIn_r _ [342, 19, 248, 25, 250, 251, 270, 271, 272, 47, 273, 274, 179, 2, 180, 343, 344, 345, 346, 24, 287, 288, 289, 43, 290, 70, 71, 252, 253, 254, 181, 216, 217, 218, 291, 292, 293, 23, 294, 295, 296, 103, 104, 105, 297, 298, 299, 300, 301, 302, 106, 303, 225, 226, 227, 73, 75, 74, 76, 304, 305, 306, 307, 347, 348, 349, 350, 351, 352, 65, 353, 354, 309, 310, 311, 312, 313, 355, 356, 357, 1107, 1108, 1109, 1110, 1111, 1112, 1113, 1114, 1115, 1159, 1160, 1161, 1162, 1163, 1164, 1191, 1192, 1193, 1194, 1195, 1196, 1197, 1182, 1183, 1184, 1185, 1186, 1187, 1188, 1189, 1190, 1165, 1166, 1167, 1168, 1169] (by decide +kernel) (by decide +kernel)
set_option maxRecDepth 20000 in
theorem gL_law_X11_take : GoodIn wsL_law (wsV RL 50 RX11 yX11_take wsX11_take) := goodIn_app (goodIn_of _ (by decide +kernel)) ggL_law_X11_take
set_option maxRecDepth 20000 in
theorem ggL_law_X12_take : GoodIn wsL_law wsX12_take := goodIn_r _ [361, 279, 280, 281, 5, 282, 147, 190, 191, 192, 318, 319, 320, 321, 165, 166, 259, 260, 261, 233, 234, 235, 362, 363, 364, 365, 322, 323, 324, 325, 150, 240, 241, 242, 243, 326, 327, 328, 329, 151, 152, 330, 331, 332, 333, 334, 335, 336, 337, 338, 366, 367, 368, 369, 370, 371, 372, 373, 374, 375, 376, 1116, 1117, 1118, 1119, 1120, 1121, 1122, 1123, 1124, 1125, 1126, 1127, 1128, 1129, 1130, 1131, 1132, 1133, 1134, 1135, 1136, 1137, 1138, 1139, 1140, 1141, 1142, 1143, 1144, 1145, 1146, 1147, 1148, 1149, 1150, 1151, 1152, 1153, 1154, 1155, 1156, 1157, 1158] (by decide +kernel) (by decide +kernel)
set_option maxRecDepth 20000 in
theorem gL_law_X12_take : GoodIn wsL_law (wsV RL 54 RX12 yX12_take wsX12_take) := goodIn_app (goodIn_of _ (by decide +kernel)) ggL_law_X12_take
set_option maxRecDepth 20000 in
theorem ggL_law_X11_covered : GoodIn wsL_law wsX11_covered := goodIn_r _ [380, 19, 248, 252, 253, 2, 254, 181, 179, 180, 381, 382, 383, 47, 384, 274, 385, 386, 387, 388, 81, 82, 389, 64, 65, 66, 390, 68, 69, 391, 392, 393, 394, 395, 1107, 1108, 1109, 1110, 1111, 1112, 1113, 1114, 1115, 1159, 1160, 1161, 1162, 1163, 1164, 1191, 1192, 1193, 1194, 1195, 1196, 1197] (by decide +kernel) (by decide +kernel)
set_option maxRecDepth 20000 in
theorem gL_law_X11_covered : GoodIn wsL_law (wsV RL 55 RX11 yX11_covered wsX11_covered) := goodIn_app (goodIn_of _ (by decide +kernel)) ggL_law_X11_covered
set_option maxRecDepth 20000 in
theorem ggL_law_X12_covered : GoodIn wsL_law wsX12_covered := goodIn_r _ [399, 259, 260, 5, 261, 190, 191, 192, 400, 401, 402, 403, 147, 404, 405, 406, 407, 374, 375, 376, 1116, 1117, 1118, 1119, 1120, 1121, 1122, 1123, 1124, 1125, 1126, 1127, 1128, 1129, 1130, 1131, 1132, 1133, 1134, 1135, 1136, 1137, 1138, 1139, 1140, 1141, 1142, 1143, 1144, 1145, 1146, 1147, 1148, 1149, 1150, 1151, 1152, 1153, 1154, 1155, 1156, 1157, 1158] (by decide +kernel) (by decide +kernel)
set_option maxRecDepth 20000 in
theorem gL_law_X12_covered : GoodIn wsL_law (wsV RL 59 RX12 yX12_covered wsX12_covered) := goodIn_app (goodIn_of _ (by decide +kernel)) ggL_law_X12_covered
set_option maxRecDepth 20000 in
theorem ggL_law_X11_ends : GoodIn wsL_law wsX11_ends := goodIn_r _ [411, 25, 19, 248, 249, 251, 250, 412, 68, 65, 69, 413, 64, 66, 252, 253, 2, 254, 181, 179, 180, 343, 344, 345, 346, 24, 287, 288, 289, 43, 290, 70, 71, 291, 292, 293, 23, 294, 295, 296, 103, 104, 105, 297, 298, 299, 300, 301, 302, 106, 303, 225, 226, 227, 73, 75, 74, 76, 304, 305, 306, 307, 414, 386, 387, 47, 388, 81, 82, 389, 390, 415, 356, 357, 347, 348, 349, 350, 351, 352, 353, 354, 309, 310, 311, 312, 313, 355, 416, 417, 418, 419, 420, 421, 422, 1107, 1108, 1109, 1110, 1111, 1112, 1113, 1114, 1115, 1159, 1160, 1161, 1162, 1163, 1164, 1191, 1192, 1193, 1194, 1195, 1196, 1197, 1182, 1183, 1184, 1185, 1186, 1187, 1188, 1189, 1190, 1165, 1166, 1167, 1168, 1169] (by decide +kernel) (by decide +kernel)
set_option maxRecDepth 20000 in
theorem gL_law_X11_ends : GoodIn wsL_law (wsV RL 60 RX11 yX11_ends wsX11_ends) := goodIn_app (goodIn_of _ (by decide +kernel)) ggL_law_X11_ends
set_option maxRecDepth 20000 in
theorem ggL_law_X12_ends : GoodIn wsL_law wsX12_ends := goodIn_r _ [426, 147, 259, 260, 5, 261, 190, 191, 192, 318, 319, 320, 321, 165, 166, 362, 363, 364, 365, 322, 323, 324, 325, 150, 240, 241, 242, 243, 326, 327, 328, 329, 151, 152, 330, 331, 332, 333, 334, 335, 336, 337, 338, 404, 405, 406, 407, 374, 375, 376, 366, 367, 368, 369, 370, 371, 372, 373, 1116, 1117, 1118, 1119, 1120, 1121, 1122, 1123, 1124, 1125, 1126, 1127, 1128, 1129, 1130, 1131, 1132, 1133, 1134, 1135, 1136, 1137, 1138, 1139, 1140, 1141, 1142, 1143, 1144, 1145, 1146, 1147, 1148, 1149, 1150, 1151, 1152, 1153, 1154, 1155, 1156, 1157, 1158] (by decide +kernel) (by decide +kernel)
set_option maxRecDepth 20000 in
theorem gL_law_X12_ends : GoodIn wsL_law (wsV RL 63 RX12 yX12_ends wsX12_ends) := goodIn_app (goodIn_of _ (by decide +kernel)) ggL_law_X12_ends
set_option maxRecDepth 20000 in
theorem ggL_law_X11_width : GoodIn wsL_law wsX11_width := goodIn_r _ [430, 25, 431, 352, 65, 353, 252, 253, 2, 254, 181, 179, 180, 343, 344, 345, 346, 19, 24, 287, 288, 289, 43, 290, 70, 71, 291, 292, 293, 23, 294, 295, 296, 103, 104, 105, 297, 298, 299, 300, 301, 302, 106, 303, 225, 226, 227, 73, 75, 74, 76, 304, 305, 306, 307, 347, 348, 349, 350, 351, 354, 309, 310, 311, 312, 313, 355, 356, 47, 357, 1107, 1108, 1109, 1110, 1111, 1112, 1113, 1114, 1115, 1159, 1160, 1161, 1162, 1163, 1164, 1182, 1183, 1184, 1185, 1186, 1187, 1188, 1189, 1190, 1165, 1166, 1167, 1168, 1169] (by decide +kernel) (by decide +kernel)
set_option maxRecDepth 20000 in
theorem gL_law_X11_width : GoodIn wsL_law (wsV RL 64 RX11 yX11_width wsX11_width) := goodIn_app (goodIn_of _ (by decide +kernel)) ggL_law_X11_width
set_option maxRecDepth 20000 in
theorem ggL_law_X12_width : GoodIn wsL_law wsX12_width := goodIn_r _ [435, 259, 260, 5, 261, 190, 191, 192, 318, 319, 320, 321, 165, 166, 362, 363, 364, 365, 322, 323, 324, 325, 150, 147, 240, 241, 242, 243, 326, 327, 328, 329, 151, 152, 330, 331, 332, 333, 334, 335, 336, 337, 338, 370, 371, 372, 373, 374, 375, 376, 1116, 1117, 1118, 1119, 1120, 1121, 1122, 1123, 1124, 1125, 1126, 1127, 1128, 1129, 1130, 1131, 1132, 1133, 1134, 1135, 1136, 1137, 1138, 1139, 1140, 1141, 1142, 1143, 1144, 1145, 1146, 1147, 1148, 1149, 1150, 1151, 1152, 1153, 1154, 1155, 1156, 1157, 1158] (by decide +kernel) (by decide +kernel)
set_option maxRecDepth 20000 in
theorem gL_law_X12_width : GoodIn wsL_law (wsV RL 67 RX12 yX12_width wsX12_width) := goodIn_app (goodIn_of _ (by decide +kernel)) ggL_law_X12_width
set_option maxRecDepth 20000 in
theorem ggL_law_X11_same : GoodIn wsL_law wsX11_same := goodIn_r _ [439, 19, 24, 199, 198, 200, 440, 25, 36, 441, 442, 443, 43, 444, 223, 179, 2, 180, 343, 344, 345, 346, 287, 288, 289, 290, 70, 71, 252, 253, 254, 181, 291, 292, 293, 23, 294, 295, 296, 103, 104, 105, 297, 298, 299, 300, 301, 302, 106, 303, 225, 226, 227, 73, 75, 74, 76, 304, 305, 306, 307, 445, 446, 447, 448, 248, 249, 250, 251, 347, 348, 349, 350, 351, 352, 65, 353, 354, 309, 310, 311, 312, 313, 355, 356, 47, 357, 449, 450, 451, 452, 1107, 1108, 1109, 1110, 1111, 1112, 1113, 1114, 1115, 1159, 1160, 1161, 1162, 1163, 1164, 1182, 1183, 1184, 1185, 1186, 1187, 1188, 1189, 1190, 1165, 1166, 1167, 1168, 1169, 1191, 1192, 1193, 1194, 1195, 1196, 1197] (by decide +kernel) (by decide +kernel)
set_option maxRecDepth 20000 in
theorem gL_law_X11_same : GoodIn wsL_law (wsV RL 68 RX11 yX11_same wsX11_same) := goodIn_app (goodIn_of _ (by decide +kernel)) ggL_law_X11_same
set_option maxRecDepth 20000 in
theorem ggL_law_X12_same : GoodIn wsL_law wsX12_same := goodIn_r _ [456, 147, 165, 166, 153, 190, 191, 5, 192, 318, 319, 320, 321, 259, 260, 261, 362, 363, 364, 365, 322, 323, 324, 325, 150, 240, 241, 242, 243, 326, 327, 328, 329, 151, 152, 330, 331, 332, 333, 334, 335, 336, 337, 338, 366, 367, 368, 369, 370, 371, 372, 373, 374, 375, 376, 1116, 1117, 1118, 1119, 1120, 1121, 1122, 1123, 1124, 1125, 1126, 1127, 1128, 1129, 1130, 1131, 1132, 1133, 1134, 1135, 1136, 1137, 1138, 1139, 1140, 1141, 1142, 1143, 1144, 1145, 1146, 1147, 1148, 1149, 1150, 1151, 1152, 1153, 1154, 1155, 1156, 1157, 1158] (by decide +kernel) (by decide +kernel)
set_option maxRecDepth 20000 in
theorem gL_law_X12_same : GoodIn wsL_law (wsV RL 72 RX12 yX12_same wsX12_same) := goodIn_app (goodIn_of _ (by decide +kernel)) ggL_law_X12_same
set_option maxRecDepth 20000 in
theorem ggL_law_X11_feed : GoodIn wsL_law wsX11_feed := goodIn_r _ [460, 461, 462, 463, 464, 2, 465, 35, 1107, 1108, 1109, 1110, 1111, 1112, 1113, 1114, 1115] (by decide +kernel) (by decide +kernel)
set_option maxRecDepth 20000 in
theorem gL_law_X11_feed : GoodIn wsL_law (wsV RL 73 RX11 yX11_feed wsX11_feed) := goodIn_app (goodIn_of _ (by decide +kernel)) ggL_law_X11_feed
set_option maxRecDepth 20000 in
theorem ggL_law_X12_feed : GoodIn wsL_law wsX12_feed := goodIn_r _ [469, 470, 471, 472, 473, 5, 474, 154, 1116, 1117, 1118, 1119, 1120, 1121, 1122, 1123, 1124, 1125, 1126, 1127, 1128, 1129, 1130, 1131, 1132, 1133, 1134, 1135, 1136, 1137, 1138, 1139, 1140, 1141, 1142, 1143, 1144, 1145, 1146, 1147, 1148, 1149, 1150, 1151, 1152, 1153, 1154, 1155, 1156, 1157, 1158] (by decide +kernel) (by decide +kernel)
set_option maxRecDepth 20000 in
theorem gL_law_X12_feed : GoodIn wsL_law (wsV RL 76 RX12 yX12_feed wsX12_feed) := goodIn_app (goodIn_of _ (by decide +kernel)) ggL_law_X12_feed
set_option maxRecDepth 20000 in
theorem ggL_law_X11_end : GoodIn wsL_law wsX11_end := goodIn_r _ [478, 461, 181, 179, 2, 180, 1107, 1108, 1109, 1110, 1111, 1112, 1113, 1114, 1115] (by decide +kernel) (by decide +kernel)
set_option maxRecDepth 20000 in
theorem gL_law_X11_end : GoodIn wsL_law (wsV RL 77 RX11 yX11_end wsX11_end) := goodIn_app (goodIn_of _ (by decide +kernel)) ggL_law_X11_end
set_option maxRecDepth 20000 in
theorem ggL_law_X12_end : GoodIn wsL_law wsX12_end := goodIn_r _ [482, 470, 190, 191, 5, 192, 1116, 1117, 1118, 1119, 1120, 1121, 1122, 1123, 1124, 1125, 1126, 1127, 1128, 1129, 1130, 1131, 1132, 1133, 1134, 1135, 1136, 1137, 1138, 1139, 1140, 1141, 1142, 1143, 1144, 1145, 1146, 1147, 1148, 1149, 1150, 1151, 1152, 1153, 1154, 1155, 1156, 1157, 1158] (by decide +kernel) (by decide +kernel)
set_option maxRecDepth 20000 in
theorem gL_law_X12_end : GoodIn wsL_law (wsV RL 80 RX12 yX12_end wsX12_end) := goodIn_app (goodIn_of _ (by decide +kernel)) ggL_law_X12_end
set_option maxRecDepth 20000 in
theorem ggL_law_X11_rule : GoodIn wsL_law wsX11_rule := goodIn_r _ [486, 19, 487, 33, 35, 461, 488, 489, 490, 491, 492, 493, 32, 494, 135, 495, 496, 497, 498, 499, 500, 501, 502, 503, 504, 134, 505, 506, 507, 140, 141, 142, 508, 509, 510, 179, 2, 180, 511, 512, 513, 514, 515, 516, 517, 518, 519, 64, 65, 66, 520, 521, 522, 523, 524, 525, 526, 527, 528, 529, 530, 531, 532, 533, 534, 535, 536, 537, 538, 539, 540, 541, 542, 543, 544, 545, 546, 547, 548, 549, 550, 551, 552, 553, 554, 555, 556, 557, 558, 559, 136, 560, 561, 562, 563, 564, 565, 566, 567, 568, 569, 570, 571, 572, 573, 574, 575, 576, 577, 578, 579, 580, 581, 582, 583, 584, 585, 586, 587, 588, 589, 590, 591, 592, 593, 594, 595, 596, 597, 598, 599, 600, 601, 602, 603, 604, 605, 606, 607, 608, 609, 610, 306, 611, 612, 613, 614, 615, 616, 617, 34, 618, 619, 298, 299, 300, 1107, 1108, 1109, 1110, 1111, 1112, 1113, 1114, 1115, 1159, 1160, 1161, 1162, 1163, 1164, 1174, 1175, 1176, 1177, 1178, 1179, 1180, 1181, 1225, 1226, 1227, 1228, 1229, 1230, 1231, 1232] (by decide +kernel) (by decide +kernel)
set_option maxRecDepth 20000 in
theorem gL_law_X11_rule : GoodIn wsL_law (wsV RL 81 RX11 yX11_rule wsX11_rule) := goodIn_app (goodIn_of _ (by decide +kernel)) ggL_law_X11_rule
set_option maxRecDepth 20000 in
theorem ggL_law_X12_rule : GoodIn wsL_law wsX12_rule := goodIn_r _ [623, 147, 155, 624, 156, 470, 149, 625, 626, 627, 628, 629, 5, 630, 631, 632, 633, 634, 635, 636, 637, 638, 639, 640, 641, 642, 643, 644, 645, 646, 647, 154, 648, 649, 650, 190, 191, 192, 651, 652, 653, 654, 655, 656, 657, 658, 659, 660, 661, 662, 663, 664, 665, 666, 667, 668, 669, 670, 671, 672, 673, 674, 675, 676, 677, 678, 679, 680, 681, 682, 683, 684, 685, 686, 687, 688, 689, 690, 691, 692, 693, 694, 695, 696, 697, 698, 699, 700, 701, 157, 702, 703, 704, 705, 706, 707, 708, 709, 710, 711, 712, 713, 714, 715, 716, 717, 718, 719, 720, 721, 722, 723, 724, 725, 726, 727, 728, 729, 730, 731, 732, 733, 1116, 1117, 1118, 1119, 1120, 1121, 1122, 1123, 1124, 1125, 1126, 1127, 1128, 1129, 1130, 1131, 1132, 1133, 1134, 1135, 1136, 1137, 1138, 1139, 1140, 1141, 1142, 1143, 1144, 1145, 1146, 1147, 1148, 1149, 1150, 1151, 1152, 1153, 1154, 1155, 1156, 1157, 1158] (by decide +kernel) (by decide +kernel)
set_option maxRecDepth 20000 in
theorem gL_law_X12_rule : GoodIn wsL_law (wsV RL 85 RX12 yX12_rule wsX12_rule) := goodIn_app (goodIn_of _ (by decide +kernel)) ggL_law_X12_rule
set_option maxRecDepth 20000 in
theorem ggL_law_X11_fault : GoodIn wsL_law wsX11_fault := goodIn_r _ [737, 488, 33, 489, 738, 1107, 1108, 1109, 1110, 1111, 1112, 1113, 1114, 1115, 1174, 1175, 1176, 1177, 1178, 1179, 1180, 1181] (by decide +kernel) (by decide +kernel)
set_option maxRecDepth 20000 in
theorem gL_law_X11_fault : GoodIn wsL_law (wsV RL 86 RX11 yX11_fault wsX11_fault) := goodIn_app (goodIn_of _ (by decide +kernel)) ggL_law_X11_fault
set_option maxRecDepth 20000 in
theorem ggL_law_X12_fault : GoodIn wsL_law wsX12_fault := goodIn_r _ [742, 155, 156, 1116, 1117, 1118, 1119, 1120, 1121, 1122, 1123, 1124, 1125, 1126, 1127, 1128, 1129, 1130, 1131, 1132, 1133, 1134, 1135, 1136, 1137, 1138, 1139, 1140, 1141, 1142, 1143, 1144, 1145, 1146, 1147, 1148, 1149, 1150, 1151, 1152, 1153, 1154, 1155, 1156, 1157, 1158] (by decide +kernel) (by decide +kernel)
set_option maxRecDepth 20000 in
theorem gL_law_X12_fault : GoodIn wsL_law (wsV RL 89 RX12 yX12_fault wsX12_fault) := goodIn_app (goodIn_of _ (by decide +kernel)) ggL_law_X12_fault
set_option maxRecDepth 20000 in
theorem ggL_law_X11_fly : GoodIn wsL_law wsX11_fly := goodIn_r _ [746, 19, 24, 29, 747, 748, 490, 749, 750, 751, 752, 18, 753, 754, 179, 2, 180, 343, 344, 345, 346, 287, 288, 289, 43, 290, 70, 71, 252, 253, 254, 181, 755, 756, 757, 758, 759, 760, 220, 221, 222, 223, 77, 72, 224, 225, 226, 227, 73, 75, 74, 76, 228, 176, 177, 178, 761, 762, 763, 28, 764, 117, 765, 766, 767, 768, 769, 770, 771, 772, 773, 774, 775, 776, 777, 111, 116, 778, 779, 780, 781, 782, 783, 784, 785, 786, 787, 788, 789, 790, 791, 792, 793, 794, 795, 796, 797, 798, 112, 799, 800, 801, 802, 292, 293, 23, 294, 295, 296, 103, 104, 105, 297, 298, 299, 300, 301, 302, 106, 303, 304, 305, 306, 307, 803, 348, 349, 350, 351, 352, 65, 353, 354, 309, 310, 311, 312, 313, 355, 356, 47, 357, 804, 805, 806, 115, 807, 808, 809, 810, 811, 812, 813, 814, 815, 816, 126, 817, 124, 818, 819, 820, 55, 821, 822, 98, 823, 824, 825, 826, 827, 828, 829, 830, 831, 832, 833, 834, 835, 125, 836, 837, 838, 839, 128, 840, 841, 842, 843, 844, 845, 846, 847, 64, 66, 848, 68, 69, 849, 850, 851, 852, 853, 854, 855, 856, 857, 858, 859, 860, 97, 861, 862, 863, 864, 420, 421, 422, 865, 1107, 1108, 1109, 1110, 1111, 1112, 1113, 1114, 1115, 1159, 1160, 1161, 1162, 1163, 1164, 1204, 1205, 1206, 1207, 1208, 1209, 1210, 1211, 1212, 1213, 1214, 1215, 1182, 1183, 1184, 1185, 1186, 1187, 1188, 1189, 1190, 1170, 1171, 1172, 1173, 1216, 1217, 1218, 1219, 1220, 1221, 1222, 1223, 1224, 1191, 1192, 1193, 1194, 1195, 1196, 1197, 1165, 1166, 1167, 1168, 1169] (by decide +kernel) (by decide +kernel)
set_option maxRecDepth 20000 in
theorem gL_law_X11_fly : GoodIn wsL_law (wsV RL 90 RX11 yX11_fly wsX11_fly) := goodIn_app (goodIn_of _ (by decide +kernel)) ggL_law_X11_fly
set_option maxRecDepth 20000 in
theorem ggL_law_X12_fly : GoodIn wsL_law wsX12_fly := goodIn_r _ [869, 870, 871, 147, 872, 873, 874, 875, 876, 877, 878, 158, 879, 880, 881, 5, 882, 190, 191, 192, 883, 884, 885, 886, 165, 318, 319, 320, 321, 166, 236, 237, 238, 239, 240, 241, 242, 243, 259, 260, 261, 887, 888, 889, 890, 891, 892, 893, 894, 895, 896, 897, 362, 363, 364, 365, 322, 323, 324, 325, 150, 326, 327, 328, 329, 151, 152, 330, 331, 332, 333, 334, 335, 336, 337, 338, 366, 367, 368, 369, 370, 371, 372, 373, 374, 375, 376, 898, 899, 900, 901, 149, 159, 161, 902, 903, 904, 163, 905, 906, 907, 908, 909, 910, 911, 912, 913, 914, 915, 916, 917, 918, 919, 920, 921, 922, 923, 1116, 1117, 1118, 1119, 1120, 1121, 1122, 1123, 1124, 1125, 1126, 1127, 1128, 1129, 1130, 1131, 1132, 1133, 1134, 1135, 1136, 1137, 1138, 1139, 1140, 1141, 1142, 1143, 1144, 1145, 1146, 1147, 1148, 1149, 1150, 1151, 1152, 1153, 1154, 1155, 1156, 1157, 1158] (by decide +kernel) (by decide +kernel)
set_option maxRecDepth 20000 in
theorem gL_law_X12_fly : GoodIn wsL_law (wsV RL 93 RX12 yX12_fly wsX12_fly) := goodIn_app (goodIn_of _ (by decide +kernel)) ggL_law_X12_fly
set_option maxRecDepth 20000 in
theorem ggL_law_X11_flown : GoodIn wsL_law wsX11_flown := goodIn_r _ [927, 19, 748, 928, 929, 930, 931, 932, 933, 934, 1107, 1108, 1109, 1110, 1111, 1112, 1113, 1114, 1115, 1159, 1160, 1161, 1162, 1163, 1164, 1204, 1205, 1206, 1207, 1208, 1209, 1210, 1211, 1212, 1213, 1214, 1215] (by decide +kernel) (by decide +kernel)
set_option maxRecDepth 20000 in
theorem gL_law_X11_flown : GoodIn wsL_law (wsV RL 94 RX11 yX11_flown wsX11_flown) := goodIn_app (goodIn_of _ (by decide +kernel)) ggL_law_X11_flown
set_option maxRecDepth 20000 in
theorem ggL_law_X12_flown : GoodIn wsL_law wsX12_flown := goodIn_r _ [938, 147, 190, 191, 5, 192, 1116, 1117, 1118, 1119, 1120, 1121, 1122, 1123, 1124, 1125, 1126, 1127, 1128, 1129, 1130, 1131, 1132, 1133, 1134, 1135, 1136, 1137, 1138, 1139, 1140, 1141, 1142, 1143, 1144, 1145, 1146, 1147, 1148, 1149, 1150, 1151, 1152, 1153, 1154, 1155, 1156, 1157, 1158] (by decide +kernel) (by decide +kernel)
set_option maxRecDepth 20000 in
theorem gL_law_X12_flown : GoodIn wsL_law (wsV RL 97 RX12 yX12_flown wsX12_flown) := goodIn_app (goodIn_of _ (by decide +kernel)) ggL_law_X12_flown
set_option maxRecDepth 20000 in
theorem ggL_law_X11_tick : GoodIn wsL_law wsX11_tick := goodIn_r _ [942, 19, 748, 749, 943, 944, 945, 248, 181, 179, 2, 180, 946, 947, 948, 55, 949, 97, 950, 819, 820, 821, 822, 98, 951, 824, 825, 826, 827, 828, 829, 830, 831, 1107, 1108, 1109, 1110, 1111, 1112, 1113, 1114, 1115, 1159, 1160, 1161, 1162, 1163, 1164, 1204, 1205, 1206, 1207, 1208, 1209, 1210, 1211, 1212, 1213, 1214, 1215, 1191, 1192, 1193, 1194, 1195, 1196, 1197] (by decide +kernel) (by decide +kernel)
set_option maxRecDepth 20000 in
theorem gL_law_X11_tick : GoodIn wsL_law (wsV RL 98 RX11 yX11_tick wsX11_tick) := goodIn_app (goodIn_of _ (by decide +kernel)) ggL_law_X11_tick
set_option maxRecDepth 20000 in
theorem ggL_law_X12_tick : GoodIn wsL_law wsX12_tick := goodIn_r _ [955, 147, 956, 190, 191, 5, 192, 1116, 1117, 1118, 1119, 1120, 1121, 1122, 1123, 1124, 1125, 1126, 1127, 1128, 1129, 1130, 1131, 1132, 1133, 1134, 1135, 1136, 1137, 1138, 1139, 1140, 1141, 1142, 1143, 1144, 1145, 1146, 1147, 1148, 1149, 1150, 1151, 1152, 1153, 1154, 1155, 1156, 1157, 1158] (by decide +kernel) (by decide +kernel)
set_option maxRecDepth 20000 in
theorem gL_law_X12_tick : GoodIn wsL_law (wsV RL 101 RX12 yX12_tick wsX12_tick) := goodIn_app (goodIn_of _ (by decide +kernel)) ggL_law_X12_tick
set_option maxRecDepth 20000 in
theorem ggL_law_X11_safe : GoodIn wsL_law wsX11_safe := goodIn_r _ [960, 19, 29, 747, 24, 750, 751, 752, 18, 753, 754, 179, 2, 180, 181, 343, 344, 345, 346, 287, 288, 289, 43, 290, 70, 71, 252, 253, 254, 761, 762, 763, 28, 764, 117, 765, 755, 756, 757, 758, 759, 760, 220, 221, 222, 223, 77, 72, 224, 225, 226, 227, 73, 75, 74, 76, 228, 176, 177, 178, 961, 962, 963, 964, 111, 119, 965, 771, 966, 967, 767, 768, 769, 770, 772, 773, 774, 775, 776, 777, 116, 778, 779, 780, 781, 968, 783, 784, 785, 786, 787, 788, 789, 790, 791, 792, 793, 794, 795, 796, 797, 798, 112, 799, 800, 801, 802, 292, 293, 23, 294, 295, 296, 103, 104, 105, 297, 298, 299, 300, 301, 302, 106, 303, 304, 305, 306, 307, 803, 348, 349, 350, 351, 352, 65, 353, 354, 309, 310, 311, 312, 313, 355, 356, 47, 357, 804, 805, 806, 115, 807, 808, 809, 810, 811, 812, 813, 814, 815, 816, 126, 817, 124, 818, 819, 820, 55, 821, 822, 98, 823, 824, 825, 826, 827, 828, 829, 830, 831, 832, 833, 834, 835, 125, 836, 837, 838, 839, 128, 840, 841, 842, 843, 844, 845, 846, 847, 64, 66, 848, 68, 69, 849, 850, 851, 852, 853, 854, 855, 856, 857, 858, 859, 860, 97, 861, 862, 863, 864, 420, 421, 422, 865, 1107, 1108, 1109, 1110, 1111, 1112, 1113, 1114, 1115, 1159, 1160, 1161, 1162, 1163, 1164, 1182, 1183, 1184, 1185, 1186, 1187, 1188, 1189, 1190, 1170, 1171, 1172, 1173, 1216, 1217, 1218, 1219, 1220, 1221, 1222, 1223, 1224, 1204, 1205, 1206, 1207, 1208, 1209, 1210, 1211, 1212, 1213, 1214, 1215, 1191, 1192, 1193, 1194, 1195, 1196, 1197, 1165, 1166, 1167, 1168, 1169] (by decide +kernel) (by decide +kernel)
set_option maxRecDepth 20000 in
theorem gL_law_X11_safe : GoodIn wsL_law (wsV RL 102 RX11 yX11_safe wsX11_safe) := goodIn_app (goodIn_of _ (by decide +kernel)) ggL_law_X11_safe
set_option maxRecDepth 20000 in
theorem ggL_law_X12_safe : GoodIn wsL_law wsX12_safe := goodIn_r _ [972, 870, 871, 876, 879, 880, 881, 5, 882, 147, 190, 191, 192, 318, 319, 320, 321, 165, 166, 259, 260, 261, 883, 884, 885, 886, 236, 237, 238, 239, 240, 241, 242, 243, 887, 888, 889, 890, 872, 873, 874, 875, 877, 878, 891, 158, 892, 893, 894, 895, 896, 897, 362, 363, 364, 365, 322, 323, 324, 325, 150, 326, 327, 328, 329, 151, 152, 330, 331, 332, 333, 334, 335, 336, 337, 338, 366, 367, 368, 369, 370, 371, 372, 373, 374, 375, 376, 898, 899, 900, 901, 149, 159, 161, 902, 903, 904, 163, 905, 906, 907, 908, 909, 910, 911, 912, 913, 914, 915, 916, 917, 918, 919, 920, 921, 922, 923, 1116, 1117, 1118, 1119, 1120, 1121, 1122, 1123, 1124, 1125, 1126, 1127, 1128, 1129, 1130, 1131, 1132, 1133, 1134, 1135, 1136, 1137, 1138, 1139, 1140, 1141, 1142, 1143, 1144, 1145, 1146, 1147, 1148, 1149, 1150, 1151, 1152, 1153, 1154, 1155, 1156, 1157, 1158] (by decide +kernel) (by decide +kernel)
set_option maxRecDepth 20000 in
theorem gL_law_X12_safe : GoodIn wsL_law (wsV RL 106 RX12 yX12_safe wsX12_safe) := goodIn_app (goodIn_of _ (by decide +kernel)) ggL_law_X12_safe
set_option maxRecDepth 20000 in
theorem ggL_law_X11_read : GoodIn wsL_law wsX11_read := goodIn_r _ [976, 19, 977, 978, 979, 980, 981, 982, 343, 344, 345, 2, 346, 24, 287, 288, 289, 43, 290, 70, 71, 179, 180, 252, 253, 254, 181, 1107, 1108, 1109, 1110, 1111, 1112, 1113, 1114, 1115, 1159, 1160, 1161, 1162, 1163, 1164, 1198, 1199, 1200, 1201, 1202, 1203, 1182, 1183, 1184, 1185, 1186, 1187, 1188, 1189, 1190] (by decide +kernel) (by decide +kernel)
set_option maxRecDepth 20000 in
theorem gL_law_X11_read : GoodIn wsL_law (wsV RL 107 RX11 yX11_read wsX11_read) := goodIn_app (goodIn_of _ (by decide +kernel)) ggL_law_X11_read
set_option maxRecDepth 20000 in
theorem ggL_law_X12_read : GoodIn wsL_law wsX12_read := goodIn_r _ [986, 147, 318, 319, 320, 5, 321, 165, 166, 190, 191, 192, 259, 260, 261, 1116, 1117, 1118, 1119, 1120, 1121, 1122, 1123, 1124, 1125, 1126, 1127, 1128, 1129, 1130, 1131, 1132, 1133, 1134, 1135, 1136, 1137, 1138, 1139, 1140, 1141, 1142, 1143, 1144, 1145, 1146, 1147, 1148, 1149, 1150, 1151, 1152, 1153, 1154, 1155, 1156, 1157, 1158] (by decide +kernel) (by decide +kernel)
set_option maxRecDepth 20000 in
theorem gL_law_X12_read : GoodIn wsL_law (wsV RL 110 RX12 yX12_read wsX12_read) := goodIn_app (goodIn_of _ (by decide +kernel)) ggL_law_X12_read
set_option maxRecDepth 20000 in
theorem ggL_law_X11_turned : GoodIn wsL_law wsX11_turned := goodIn_r _ [990, 19, 977, 978, 982, 991, 181, 179, 2, 180, 1107, 1108, 1109, 1110, 1111, 1112, 1113, 1114, 1115, 1159, 1160, 1161, 1162, 1163, 1164, 1198, 1199, 1200, 1201, 1202, 1203] (by decide +kernel) (by decide +kernel)
set_option maxRecDepth 20000 in
theorem gL_law_X11_turned : GoodIn wsL_law (wsV RL 111 RX11 yX11_turned wsX11_turned) := goodIn_app (goodIn_of _ (by decide +kernel)) ggL_law_X11_turned
set_option maxRecDepth 20000 in
theorem ggL_law_X12_turned : GoodIn wsL_law wsX12_turned := goodIn_r _ [995, 147, 190, 191, 5, 192, 1116, 1117, 1118, 1119, 1120, 1121, 1122, 1123, 1124, 1125, 1126, 1127, 1128, 1129, 1130, 1131, 1132, 1133, 1134, 1135, 1136, 1137, 1138, 1139, 1140, 1141, 1142, 1143, 1144, 1145, 1146, 1147, 1148, 1149, 1150, 1151, 1152, 1153, 1154, 1155, 1156, 1157, 1158] (by decide +kernel) (by decide +kernel)
set_option maxRecDepth 20000 in
theorem gL_law_X12_turned : GoodIn wsL_law (wsV RL 114 RX12 yX12_turned wsX12_turned) := goodIn_app (goodIn_of _ (by decide +kernel)) ggL_law_X12_turned
set_option maxRecDepth 20000 in
theorem ggL_law_X11_kept : GoodIn wsL_law wsX11_kept := goodIn_r _ [999, 29, 747, 19, 761, 762, 763, 28, 764, 117, 765, 750, 751, 752, 18, 753, 754, 179, 2, 180, 1000, 1001, 1002, 1003, 111, 1004, 1005, 794, 1006, 1007, 119, 1008, 1009, 771, 965, 1010, 966, 865, 756, 757, 43, 758, 70, 759, 288, 289, 290, 71, 760, 220, 221, 222, 223, 77, 72, 224, 225, 226, 227, 73, 75, 74, 76, 228, 176, 177, 178, 967, 767, 768, 769, 770, 772, 773, 774, 775, 776, 777, 116, 778, 779, 780, 781, 786, 787, 788, 789, 790, 791, 792, 793, 795, 796, 797, 798, 112, 799, 800, 801, 802, 292, 293, 23, 294, 295, 296, 103, 104, 105, 297, 298, 299, 300, 301, 302, 106, 303, 304, 305, 306, 307, 803, 348, 349, 350, 351, 352, 65, 353, 354, 309, 310, 311, 312, 313, 355, 356, 47, 357, 804, 805, 806, 115, 807, 808, 809, 810, 811, 812, 813, 814, 815, 816, 126, 817, 124, 818, 819, 820, 55, 821, 822, 98, 823, 824, 825, 826, 827, 828, 829, 830, 831, 832, 833, 834, 835, 125, 836, 837, 838, 839, 128, 840, 841, 842, 843, 844, 845, 846, 847, 64, 66, 848, 68, 69, 849, 850, 851, 852, 853, 854, 855, 856, 857, 858, 859, 860, 97, 861, 862, 863, 864, 420, 421, 422, 1011, 947, 948, 949, 1012, 1013, 1014, 1015, 1016, 1017, 1018, 1019, 1020, 1021, 1022, 1023, 1024, 1107, 1108, 1109, 1110, 1111, 1112, 1113, 1114, 1115, 1170, 1171, 1172, 1173, 1216, 1217, 1218, 1219, 1220, 1221, 1222, 1223, 1224, 1159, 1160, 1161, 1162, 1163, 1164, 1198, 1199, 1200, 1201, 1202, 1203, 1204, 1205, 1206, 1207, 1208, 1209, 1210, 1211, 1212, 1213, 1214, 1215, 1182, 1183, 1184, 1185, 1186, 1187, 1188, 1189, 1190, 1191, 1192, 1193, 1194, 1195, 1196, 1197, 1165, 1166, 1167, 1168, 1169] (by decide +kernel) (by decide +kernel)
set_option maxRecDepth 20000 in
theorem gL_law_X11_kept : GoodIn wsL_law (wsV RL 115 RX11 yX11_kept wsX11_kept) := goodIn_app (goodIn_of _ (by decide +kernel)) ggL_law_X11_kept
set_option maxRecDepth 20000 in
theorem ggL_law_X12_kept : GoodIn wsL_law wsX12_kept := goodIn_r _ [1028, 147, 879, 880, 881, 5, 882, 190, 191, 192, 1029, 1030, 1031, 1032, 870, 871, 872, 158, 883, 884, 885, 886, 165, 318, 319, 320, 321, 166, 236, 237, 238, 239, 240, 241, 242, 243, 887, 888, 889, 890, 873, 874, 875, 876, 877, 878, 891, 892, 893, 894, 895, 896, 897, 362, 363, 364, 365, 322, 323, 324, 325, 150, 326, 327, 328, 329, 151, 152, 330, 331, 332, 333, 334, 335, 336, 337, 338, 366, 367, 368, 369, 370, 371, 372, 373, 374, 375, 376, 898, 899, 900, 901, 149, 159, 161, 902, 903, 904, 163, 905, 906, 907, 908, 909, 910, 911, 912, 913, 914, 915, 916, 917, 918, 919, 920, 921, 922, 923, 1116, 1117, 1118, 1119, 1120, 1121, 1122, 1123, 1124, 1125, 1126, 1127, 1128, 1129, 1130, 1131, 1132, 1133, 1134, 1135, 1136, 1137, 1138, 1139, 1140, 1141, 1142, 1143, 1144, 1145, 1146, 1147, 1148, 1149, 1150, 1151, 1152, 1153, 1154, 1155, 1156, 1157, 1158] (by decide +kernel) (by decide +kernel)
set_option maxRecDepth 20000 in
theorem gL_law_X12_kept : GoodIn wsL_law (wsV RL 118 RX12 yX12_kept wsX12_kept) := goodIn_app (goodIn_of _ (by decide +kernel)) ggL_law_X12_kept
set_option maxRecDepth 20000 in
theorem ggL_law_X11_parts : GoodIn wsL_law wsX11_parts := goodIn_r _ [1036, 19, 24, 440, 29, 747, 200, 181, 179, 2, 180, 761, 762, 763, 28, 764, 117, 765, 1012, 1013, 1014, 1015, 111, 1016, 1017, 1001, 1002, 1003, 1004, 1005, 794, 1006, 1007, 119, 1008, 1009, 771, 965, 1010, 966, 751, 752, 18, 753, 754, 865, 756, 757, 43, 758, 70, 759, 288, 289, 290, 71, 760, 220, 221, 222, 223, 77, 72, 224, 225, 226, 227, 73, 75, 74, 76, 228, 176, 177, 178, 967, 767, 768, 769, 770, 772, 773, 774, 775, 776, 777, 116, 778, 779, 780, 781, 786, 787, 788, 789, 790, 791, 792, 793, 795, 796, 797, 798, 112, 799, 800, 801, 802, 292, 293, 23, 294, 295, 296, 103, 104, 105, 297, 298, 299, 300, 301, 302, 106, 303, 304, 305, 306, 307, 803, 348, 349, 350, 351, 352, 65, 353, 354, 309, 310, 311, 312, 313, 355, 356, 47, 357, 804, 805, 806, 115, 807, 808, 809, 810, 811, 812, 813, 814, 815, 816, 126, 817, 124, 818, 819, 820, 55, 821, 822, 98, 823, 824, 825, 826, 827, 828, 829, 830, 831, 832, 833, 834, 835, 125, 836, 837, 838, 839, 128, 840, 841, 842, 843, 844, 845, 846, 847, 64, 66, 848, 68, 69, 849, 850, 851, 852, 853, 854, 855, 856, 857, 858, 859, 860, 97, 861, 862, 863, 864, 420, 421, 422, 1011, 947, 948, 949, 755, 1037, 1038, 1039, 1040, 1041, 1019, 1020, 1021, 1022, 1023, 1024, 1107, 1108, 1109, 1110, 1111, 1112, 1113, 1114, 1115, 1159, 1160, 1161, 1162, 1163, 1164, 1182, 1183, 1184, 1185, 1186, 1187, 1188, 1189, 1190, 1170, 1171, 1172, 1173, 1216, 1217, 1218, 1219, 1220, 1221, 1222, 1223, 1224, 1198, 1199, 1200, 1201, 1202, 1203, 1204, 1205, 1206, 1207, 1208, 1209, 1210, 1211, 1212, 1213, 1214, 1215, 1191, 1192, 1193, 1194, 1195, 1196, 1197, 1165, 1166, 1167, 1168, 1169] (by decide +kernel) (by decide +kernel)
set_option maxRecDepth 20000 in
theorem gL_law_X11_parts : GoodIn wsL_law (wsV RL 119 RX11 yX11_parts wsX11_parts) := goodIn_app (goodIn_of _ (by decide +kernel)) ggL_law_X11_parts
set_option maxRecDepth 20000 in
theorem ggL_law_X12_parts : GoodIn wsL_law wsX12_parts := goodIn_r _ [1045, 166, 147, 164, 870, 871, 165, 190, 191, 5, 192, 1029, 1030, 1031, 1032, 872, 158, 883, 884, 885, 886, 318, 319, 320, 321, 236, 237, 238, 239, 240, 241, 242, 243, 887, 888, 889, 890, 873, 874, 875, 876, 877, 878, 891, 892, 893, 894, 895, 896, 897, 362, 363, 364, 365, 322, 323, 324, 325, 150, 326, 327, 328, 329, 151, 152, 330, 331, 332, 333, 334, 335, 336, 337, 338, 366, 367, 368, 369, 370, 371, 372, 373, 374, 375, 376, 898, 899, 900, 901, 149, 159, 161, 902, 903, 904, 163, 905, 906, 907, 908, 909, 910, 911, 912, 913, 914, 915, 916, 917, 918, 919, 920, 921, 922, 923, 1046, 1047, 1048, 1049, 1116, 1117, 1118, 1119, 1120, 1121, 1122, 1123, 1124, 1125, 1126, 1127, 1128, 1129, 1130, 1131, 1132, 1133, 1134, 1135, 1136, 1137, 1138, 1139, 1140, 1141, 1142, 1143, 1144, 1145, 1146, 1147, 1148, 1149, 1150, 1151, 1152, 1153, 1154, 1155, 1156, 1157, 1158] (by decide +kernel) (by decide +kernel)
set_option maxRecDepth 20000 in
theorem gL_law_X12_parts : GoodIn wsL_law (wsV RL 122 RX12 yX12_parts wsX12_parts) := goodIn_app (goodIn_of _ (by decide +kernel)) ggL_law_X12_parts
set_option maxRecDepth 20000 in
theorem ggL_law_X11_image : GoodIn wsL_law wsX11_image := goodIn_r _ [1053, 20, 19, 487, 1054, 1055, 1056, 18, 1057, 44, 48, 52, 56, 754, 58, 1058, 1059, 1060, 43, 1061, 72, 73, 74, 75, 76, 77, 223, 1062, 2, 1063, 413, 64, 65, 66, 1064, 298, 299, 300, 1065, 1066, 1067, 47, 1068, 81, 82, 83, 84, 85, 274, 1069, 1070, 1071, 1072, 51, 1073, 89, 90, 91, 92, 93, 1074, 1075, 1076, 1077, 55, 1078, 97, 98, 1079, 1080, 1081, 860, 1082, 861, 862, 863, 822, 827, 1107, 1108, 1109, 1110, 1111, 1112, 1113, 1114, 1115, 1159, 1160, 1161, 1162, 1163, 1164, 1182, 1183, 1184, 1185, 1186, 1187, 1188, 1189, 1190, 1191, 1192, 1193, 1194, 1195, 1196, 1197, 1198, 1199, 1200, 1201, 1202, 1203, 1204, 1205, 1206, 1207, 1208, 1209, 1210, 1211, 1212, 1213, 1214, 1215] (by decide +kernel) (by decide +kernel)
set_option maxRecDepth 20000 in
theorem gL_law_X11_image : GoodIn wsL_law (wsV RL 123 RX11 yX11_image wsX11_image) := goodIn_app (goodIn_of _ (by decide +kernel)) ggL_law_X11_image
set_option maxRecDepth 20000 in
theorem ggL_law_X12_image : GoodIn wsL_law wsX12_image := goodIn_r _ [1086, 147, 148, 167, 168, 5, 169, 1116, 1117, 1118, 1119, 1120, 1121, 1122, 1123, 1124, 1125, 1126, 1127, 1128, 1129, 1130, 1131, 1132, 1133, 1134, 1135, 1136, 1137, 1138, 1139, 1140, 1141, 1142, 1143, 1144, 1145, 1146, 1147, 1148, 1149, 1150, 1151, 1152, 1153, 1154, 1155, 1156, 1157, 1158] (by decide +kernel) (by decide +kernel)
set_option maxRecDepth 20000 in
theorem gL_law_X12_image : GoodIn wsL_law (wsV RL 126 RX12 yX12_image wsX12_image) := goodIn_app (goodIn_of _ (by decide +kernel)) ggL_law_X12_image
set_option maxRecDepth 20000 in
theorem ggL_law_X11_back : GoodIn wsL_law wsX11_back := goodIn_r _ [1090, 19, 20, 487, 1054, 1055, 1056, 18, 1057, 44, 48, 52, 56, 754, 58, 1058, 1059, 1060, 43, 1061, 72, 73, 74, 75, 76, 77, 223, 1062, 2, 1063, 413, 64, 65, 66, 1064, 298, 299, 300, 1065, 1066, 1067, 47, 1068, 81, 82, 83, 84, 85, 274, 1069, 1070, 1071, 1072, 51, 1073, 89, 90, 91, 92, 93, 1074, 1075, 1076, 1077, 55, 1078, 97, 98, 1079, 1080, 1081, 860, 1082, 861, 862, 863, 822, 827, 1107, 1108, 1109, 1110, 1111, 1112, 1113, 1114, 1115, 1159, 1160, 1161, 1162, 1163, 1164, 1182, 1183, 1184, 1185, 1186, 1187, 1188, 1189, 1190, 1191, 1192, 1193, 1194, 1195, 1196, 1197, 1198, 1199, 1200, 1201, 1202, 1203, 1204, 1205, 1206, 1207, 1208, 1209, 1210, 1211, 1212, 1213, 1214, 1215] (by decide +kernel) (by decide +kernel)
set_option maxRecDepth 20000 in
theorem gL_law_X11_back : GoodIn wsL_law (wsV RL 127 RX11 yX11_back wsX11_back) := goodIn_app (goodIn_of _ (by decide +kernel)) ggL_law_X11_back
set_option maxRecDepth 20000 in
theorem ggL_law_X12_back : GoodIn wsL_law wsX12_back := goodIn_r _ [1094, 148, 147, 167, 168, 5, 169, 1116, 1117, 1118, 1119, 1120, 1121, 1122, 1123, 1124, 1125, 1126, 1127, 1128, 1129, 1130, 1131, 1132, 1133, 1134, 1135, 1136, 1137, 1138, 1139, 1140, 1141, 1142, 1143, 1144, 1145, 1146, 1147, 1148, 1149, 1150, 1151, 1152, 1153, 1154, 1155, 1156, 1157, 1158] (by decide +kernel) (by decide +kernel)
set_option maxRecDepth 20000 in
theorem gL_law_X12_back : GoodIn wsL_law (wsV RL 130 RX12 yX12_back wsX12_back) := goodIn_app (goodIn_of _ (by decide +kernel)) ggL_law_X12_back
set_option maxRecDepth 20000 in
theorem ggL_law_X11_about : GoodIn wsL_law wsX11_about := goodIn_r _ [1098, 19, 24, 200, 440, 197, 248, 249, 266, 487, 977, 978, 461, 1099, 1100, 1101, 43, 1102, 72, 1107, 1108, 1109, 1110, 1111, 1112, 1113, 1114, 1115, 1159, 1160, 1161, 1162, 1163, 1164, 1182, 1183, 1184, 1185, 1186, 1187, 1188, 1189, 1190, 1191, 1192, 1193, 1194, 1195, 1196, 1197, 1198, 1199, 1200, 1201, 1202, 1203] (by decide +kernel) (by decide +kernel)
set_option maxRecDepth 20000 in
theorem gL_law_X11_about : GoodIn wsL_law (wsV RL 131 RX11 yX11_about wsX11_about) := goodIn_app (goodIn_of _ (by decide +kernel)) ggL_law_X11_about
set_option maxRecDepth 20000 in
theorem ggL_law_X12_about : GoodIn wsL_law wsX12_about := goodIn_r _ [1106, 165, 166, 147, 470, 1116, 1117, 1118, 1119, 1120, 1121, 1122, 1123, 1124, 1125, 1126, 1127, 1128, 1129, 1130, 1131, 1132, 1133, 1134, 1135, 1136, 1137, 1138, 1139, 1140, 1141, 1142, 1143, 1144, 1145, 1146, 1147, 1148, 1149, 1150, 1151, 1152, 1153, 1154, 1155, 1156, 1157, 1158] (by decide +kernel) (by decide +kernel)
set_option maxRecDepth 20000 in
theorem gL_law_X12_about : GoodIn wsL_law (wsV RL 134 RX12 yX12_about wsX12_about) := goodIn_app (goodIn_of _ (by decide +kernel)) ggL_law_X12_about
theorem dL_law_0 : decode cL_law 0 = .ok (.new 7, 3) := by decide +kernel
theorem dL_law_3 : decode cL_law 3 = .ok (.dup, 1) := by decide +kernel
theorem dL_law_4 : decode cL_law 4 = .ok (.aload_n 0, 1) := by decide +kernel
theorem dL_law_5 : decode cL_law 5 = .ok (.iconst 0, 1) := by decide +kernel
theorem dL_law_6 : decode cL_law 6 = .ok (.invokestatic 9, 3) := by decide +kernel
theorem dL_law_9 : decode cL_law 9 = .ok (.aload_n 0, 1) := by decide +kernel
theorem dL_law_10 : decode cL_law 10 = .ok (.iconst 1, 1) := by decide +kernel
theorem dL_law_11 : decode cL_law 11 = .ok (.invokestatic 9, 3) := by decide +kernel
theorem dL_law_14 : decode cL_law 14 = .ok (.invokespecial 15, 3) := by decide +kernel
theorem dL_law_17 : decode cL_law 17 = .ok (.astore_n 1, 1) := by decide +kernel
theorem dL_law_18 : decode cL_law 18 = .ok (.new 18, 3) := by decide +kernel
theorem dL_law_21 : decode cL_law 21 = .ok (.dup, 1) := by decide +kernel
theorem dL_law_22 : decode cL_law 22 = .ok (.aload_n 0, 1) := by decide +kernel
theorem dL_law_23 : decode cL_law 23 = .ok (.iconst 0, 1) := by decide +kernel
theorem dL_law_24 : decode cL_law 24 = .ok (.invokestatic 9, 3) := by decide +kernel
theorem dL_law_27 : decode cL_law 27 = .ok (.aload_n 0, 1) := by decide +kernel
theorem dL_law_28 : decode cL_law 28 = .ok (.iconst 1, 1) := by decide +kernel
theorem dL_law_29 : decode cL_law 29 = .ok (.invokestatic 9, 3) := by decide +kernel
theorem dL_law_32 : decode cL_law 32 = .ok (.invokespecial 20, 3) := by decide +kernel
theorem dL_law_35 : decode cL_law 35 = .ok (.astore_n 2, 1) := by decide +kernel
theorem dL_law_36 : decode cL_law 36 = .ok (.iconst 2, 1) := by decide +kernel
theorem dL_law_37 : decode cL_law 37 = .ok (.istore_n 3, 1) := by decide +kernel
theorem dL_law_38 : decode cL_law 38 = .ok (.iload_n 3, 1) := by decide +kernel
theorem dL_law_39 : decode cL_law 39 = .ok (.aload_n 0, 1) := by decide +kernel
theorem dL_law_40 : decode cL_law 40 = .ok (.arraylength, 1) := by decide +kernel
theorem dL_law_41 : decode cL_law 41 = .ok (.bipush 9, 2) := by decide +kernel
theorem dL_law_43 : decode cL_law 43 = .ok (.isub, 1) := by decide +kernel
theorem dL_law_44 : decode cL_law 44 = .ok (.if_icmp .gt 1244, 3) := by decide +kernel
theorem dL_law_47 : decode cL_law 47 = .ok (.aload_n 0, 1) := by decide +kernel
theorem dL_law_48 : decode cL_law 48 = .ok (.iload_n 3, 1) := by decide +kernel
theorem dL_law_49 : decode cL_law 49 = .ok (.iaload, 1) := by decide +kernel
theorem dL_law_50 : decode cL_law 50 = .ok (.bipush 31, 2) := by decide +kernel
theorem dL_law_52 : decode cL_law 52 = .ok (.iand, 1) := by decide +kernel
theorem dL_law_53 : decode cL_law 53 = .ok (.tableswitch 1229 0 25 #[119, 152, 205, 238, 271, 314, 393, 456, 479, 558, 621, 696, 759, 782, 795, 818, 893, 916, 949, 1048, 1091, 1124, 1147, 1180, 1193, 1206], 119) := by decide +kernel
theorem dL_law_172 : decode cL_law 172 = .ok (.aload_n 1, 1) := by decide +kernel
theorem dL_law_173 : decode cL_law 173 = .ok (.aload_n 0, 1) := by decide +kernel
theorem dL_law_174 : decode cL_law 174 = .ok (.iload_n 3, 1) := by decide +kernel
theorem dL_law_175 : decode cL_law 175 = .ok (.iconst 1, 1) := by decide +kernel
theorem dL_law_176 : decode cL_law 176 = .ok (.iadd, 1) := by decide +kernel
theorem dL_law_177 : decode cL_law 177 = .ok (.iaload, 1) := by decide +kernel
theorem dL_law_178 : decode cL_law 178 = .ok (.aload_n 0, 1) := by decide +kernel
theorem dL_law_179 : decode cL_law 179 = .ok (.iload_n 3, 1) := by decide +kernel
theorem dL_law_180 : decode cL_law 180 = .ok (.iconst 2, 1) := by decide +kernel
theorem dL_law_181 : decode cL_law 181 = .ok (.iadd, 1) := by decide +kernel
theorem dL_law_182 : decode cL_law 182 = .ok (.iaload, 1) := by decide +kernel
theorem dL_law_183 : decode cL_law 183 = .ok (.invokevirtual 21, 3) := by decide +kernel
theorem dL_law_186 : decode cL_law 186 = .ok (.aload_n 2, 1) := by decide +kernel
theorem dL_law_187 : decode cL_law 187 = .ok (.aload_n 0, 1) := by decide +kernel
theorem dL_law_188 : decode cL_law 188 = .ok (.iload_n 3, 1) := by decide +kernel
theorem dL_law_189 : decode cL_law 189 = .ok (.iconst 1, 1) := by decide +kernel
theorem dL_law_190 : decode cL_law 190 = .ok (.iadd, 1) := by decide +kernel
theorem dL_law_191 : decode cL_law 191 = .ok (.iaload, 1) := by decide +kernel
theorem dL_law_192 : decode cL_law 192 = .ok (.aload_n 0, 1) := by decide +kernel
theorem dL_law_193 : decode cL_law 193 = .ok (.iload_n 3, 1) := by decide +kernel
theorem dL_law_194 : decode cL_law 194 = .ok (.iconst 2, 1) := by decide +kernel
theorem dL_law_195 : decode cL_law 195 = .ok (.iadd, 1) := by decide +kernel
theorem dL_law_196 : decode cL_law 196 = .ok (.iaload, 1) := by decide +kernel
theorem dL_law_197 : decode cL_law 197 = .ok (.invokevirtual 25, 3) := by decide +kernel
theorem dL_law_200 : decode cL_law 200 = .ok (.if_icmp .eq 1082, 3) := by decide +kernel
theorem dL_law_203 : decode cL_law 203 = .ok (.iconst 0, 1) := by decide +kernel
theorem dL_law_204 : decode cL_law 204 = .ok (.ireturn, 1) := by decide +kernel
theorem dL_law_205 : decode cL_law 205 = .ok (.aload_n 1, 1) := by decide +kernel
theorem dL_law_206 : decode cL_law 206 = .ok (.aload_n 0, 1) := by decide +kernel
theorem dL_law_207 : decode cL_law 207 = .ok (.iload_n 3, 1) := by decide +kernel
theorem dL_law_208 : decode cL_law 208 = .ok (.iconst 1, 1) := by decide +kernel
theorem dL_law_209 : decode cL_law 209 = .ok (.iadd, 1) := by decide +kernel
theorem dL_law_210 : decode cL_law 210 = .ok (.iaload, 1) := by decide +kernel
theorem dL_law_211 : decode cL_law 211 = .ok (.aload_n 0, 1) := by decide +kernel
theorem dL_law_212 : decode cL_law 212 = .ok (.iload_n 3, 1) := by decide +kernel
theorem dL_law_213 : decode cL_law 213 = .ok (.iconst 2, 1) := by decide +kernel
theorem dL_law_214 : decode cL_law 214 = .ok (.iadd, 1) := by decide +kernel
theorem dL_law_215 : decode cL_law 215 = .ok (.iaload, 1) := by decide +kernel
theorem dL_law_216 : decode cL_law 216 = .ok (.aload_n 0, 1) := by decide +kernel
theorem dL_law_217 : decode cL_law 217 = .ok (.iload_n 3, 1) := by decide +kernel
theorem dL_law_218 : decode cL_law 218 = .ok (.iconst 3, 1) := by decide +kernel
theorem dL_law_219 : decode cL_law 219 = .ok (.iadd, 1) := by decide +kernel
theorem dL_law_220 : decode cL_law 220 = .ok (.iaload, 1) := by decide +kernel
theorem dL_law_221 : decode cL_law 221 = .ok (.aload_n 0, 1) := by decide +kernel
theorem dL_law_222 : decode cL_law 222 = .ok (.iload_n 3, 1) := by decide +kernel
theorem dL_law_223 : decode cL_law 223 = .ok (.iconst 4, 1) := by decide +kernel
theorem dL_law_224 : decode cL_law 224 = .ok (.iadd, 1) := by decide +kernel
theorem dL_law_225 : decode cL_law 225 = .ok (.iaload, 1) := by decide +kernel
theorem dL_law_226 : decode cL_law 226 = .ok (.invokevirtual 26, 3) := by decide +kernel
theorem dL_law_229 : decode cL_law 229 = .ok (.aload_n 2, 1) := by decide +kernel
theorem dL_law_230 : decode cL_law 230 = .ok (.aload_n 0, 1) := by decide +kernel
theorem dL_law_231 : decode cL_law 231 = .ok (.iload_n 3, 1) := by decide +kernel
theorem dL_law_232 : decode cL_law 232 = .ok (.iconst 1, 1) := by decide +kernel
theorem dL_law_233 : decode cL_law 233 = .ok (.iadd, 1) := by decide +kernel
theorem dL_law_234 : decode cL_law 234 = .ok (.iaload, 1) := by decide +kernel
theorem dL_law_235 : decode cL_law 235 = .ok (.aload_n 0, 1) := by decide +kernel
theorem dL_law_236 : decode cL_law 236 = .ok (.iload_n 3, 1) := by decide +kernel
theorem dL_law_237 : decode cL_law 237 = .ok (.iconst 2, 1) := by decide +kernel
theorem dL_law_238 : decode cL_law 238 = .ok (.iadd, 1) := by decide +kernel
theorem dL_law_239 : decode cL_law 239 = .ok (.iaload, 1) := by decide +kernel
theorem dL_law_240 : decode cL_law 240 = .ok (.aload_n 0, 1) := by decide +kernel
theorem dL_law_241 : decode cL_law 241 = .ok (.iload_n 3, 1) := by decide +kernel
theorem dL_law_242 : decode cL_law 242 = .ok (.iconst 3, 1) := by decide +kernel
theorem dL_law_243 : decode cL_law 243 = .ok (.iadd, 1) := by decide +kernel
theorem dL_law_244 : decode cL_law 244 = .ok (.iaload, 1) := by decide +kernel
theorem dL_law_245 : decode cL_law 245 = .ok (.aload_n 0, 1) := by decide +kernel
theorem dL_law_246 : decode cL_law 246 = .ok (.iload_n 3, 1) := by decide +kernel
theorem dL_law_247 : decode cL_law 247 = .ok (.iconst 4, 1) := by decide +kernel
theorem dL_law_248 : decode cL_law 248 = .ok (.iadd, 1) := by decide +kernel
theorem dL_law_249 : decode cL_law 249 = .ok (.iaload, 1) := by decide +kernel
theorem dL_law_250 : decode cL_law 250 = .ok (.invokevirtual 30, 3) := by decide +kernel
theorem dL_law_253 : decode cL_law 253 = .ok (.if_icmp .eq 1029, 3) := by decide +kernel
theorem dL_law_256 : decode cL_law 256 = .ok (.iconst 0, 1) := by decide +kernel
theorem dL_law_257 : decode cL_law 257 = .ok (.ireturn, 1) := by decide +kernel
theorem dL_law_258 : decode cL_law 258 = .ok (.aload_n 1, 1) := by decide +kernel
theorem dL_law_259 : decode cL_law 259 = .ok (.aload_n 0, 1) := by decide +kernel
theorem dL_law_260 : decode cL_law 260 = .ok (.iload_n 3, 1) := by decide +kernel
theorem dL_law_261 : decode cL_law 261 = .ok (.iconst 1, 1) := by decide +kernel
theorem dL_law_262 : decode cL_law 262 = .ok (.iadd, 1) := by decide +kernel
theorem dL_law_263 : decode cL_law 263 = .ok (.iaload, 1) := by decide +kernel
theorem dL_law_264 : decode cL_law 264 = .ok (.aload_n 0, 1) := by decide +kernel
theorem dL_law_265 : decode cL_law 265 = .ok (.iload_n 3, 1) := by decide +kernel
theorem dL_law_266 : decode cL_law 266 = .ok (.iconst 2, 1) := by decide +kernel
theorem dL_law_267 : decode cL_law 267 = .ok (.iadd, 1) := by decide +kernel
theorem dL_law_268 : decode cL_law 268 = .ok (.iaload, 1) := by decide +kernel
theorem dL_law_269 : decode cL_law 269 = .ok (.invokevirtual 31, 3) := by decide +kernel
theorem dL_law_272 : decode cL_law 272 = .ok (.aload_n 2, 1) := by decide +kernel
theorem dL_law_273 : decode cL_law 273 = .ok (.aload_n 0, 1) := by decide +kernel
theorem dL_law_274 : decode cL_law 274 = .ok (.iload_n 3, 1) := by decide +kernel
theorem dL_law_275 : decode cL_law 275 = .ok (.iconst 1, 1) := by decide +kernel
theorem dL_law_276 : decode cL_law 276 = .ok (.iadd, 1) := by decide +kernel
theorem dL_law_277 : decode cL_law 277 = .ok (.iaload, 1) := by decide +kernel
theorem dL_law_278 : decode cL_law 278 = .ok (.aload_n 0, 1) := by decide +kernel
theorem dL_law_279 : decode cL_law 279 = .ok (.iload_n 3, 1) := by decide +kernel
theorem dL_law_280 : decode cL_law 280 = .ok (.iconst 2, 1) := by decide +kernel
theorem dL_law_281 : decode cL_law 281 = .ok (.iadd, 1) := by decide +kernel
theorem dL_law_282 : decode cL_law 282 = .ok (.iaload, 1) := by decide +kernel
theorem dL_law_283 : decode cL_law 283 = .ok (.invokevirtual 35, 3) := by decide +kernel
theorem dL_law_286 : decode cL_law 286 = .ok (.if_icmp .eq 996, 3) := by decide +kernel
theorem dL_law_289 : decode cL_law 289 = .ok (.iconst 0, 1) := by decide +kernel
theorem dL_law_290 : decode cL_law 290 = .ok (.ireturn, 1) := by decide +kernel
theorem dL_law_291 : decode cL_law 291 = .ok (.aload_n 1, 1) := by decide +kernel
theorem dL_law_292 : decode cL_law 292 = .ok (.aload_n 0, 1) := by decide +kernel
theorem dL_law_293 : decode cL_law 293 = .ok (.iload_n 3, 1) := by decide +kernel
theorem dL_law_294 : decode cL_law 294 = .ok (.iconst 1, 1) := by decide +kernel
theorem dL_law_295 : decode cL_law 295 = .ok (.iadd, 1) := by decide +kernel
theorem dL_law_296 : decode cL_law 296 = .ok (.iaload, 1) := by decide +kernel
theorem dL_law_297 : decode cL_law 297 = .ok (.aload_n 0, 1) := by decide +kernel
theorem dL_law_298 : decode cL_law 298 = .ok (.iload_n 3, 1) := by decide +kernel
theorem dL_law_299 : decode cL_law 299 = .ok (.iconst 2, 1) := by decide +kernel
theorem dL_law_300 : decode cL_law 300 = .ok (.iadd, 1) := by decide +kernel
theorem dL_law_301 : decode cL_law 301 = .ok (.iaload, 1) := by decide +kernel
theorem dL_law_302 : decode cL_law 302 = .ok (.invokevirtual 36, 3) := by decide +kernel
theorem dL_law_305 : decode cL_law 305 = .ok (.aload_n 2, 1) := by decide +kernel
theorem dL_law_306 : decode cL_law 306 = .ok (.aload_n 0, 1) := by decide +kernel
theorem dL_law_307 : decode cL_law 307 = .ok (.iload_n 3, 1) := by decide +kernel
theorem dL_law_308 : decode cL_law 308 = .ok (.iconst 1, 1) := by decide +kernel
theorem dL_law_309 : decode cL_law 309 = .ok (.iadd, 1) := by decide +kernel
theorem dL_law_310 : decode cL_law 310 = .ok (.iaload, 1) := by decide +kernel
theorem dL_law_311 : decode cL_law 311 = .ok (.aload_n 0, 1) := by decide +kernel
theorem dL_law_312 : decode cL_law 312 = .ok (.iload_n 3, 1) := by decide +kernel
theorem dL_law_313 : decode cL_law 313 = .ok (.iconst 2, 1) := by decide +kernel
theorem dL_law_314 : decode cL_law 314 = .ok (.iadd, 1) := by decide +kernel
theorem dL_law_315 : decode cL_law 315 = .ok (.iaload, 1) := by decide +kernel
theorem dL_law_316 : decode cL_law 316 = .ok (.invokevirtual 39, 3) := by decide +kernel
theorem dL_law_319 : decode cL_law 319 = .ok (.if_icmp .eq 963, 3) := by decide +kernel
theorem dL_law_322 : decode cL_law 322 = .ok (.iconst 0, 1) := by decide +kernel
theorem dL_law_323 : decode cL_law 323 = .ok (.ireturn, 1) := by decide +kernel
