theorem dX12_fly_183 : decode cX12_fly 183 = .ok (.aload_n 0, 1) := by decide +kernel
theorem dX12_fly_184 : decode cX12_fly 184 = .ok (.getfield 277, 3) := by decide +kernel
theorem dX12_fly_187 : decode cX12_fly 187 = .ok (.iastore, 1) := by decide +kernel
theorem dX12_fly_188 : decode cX12_fly 188 = .ok (.aload_n 0, 1) := by decide +kernel
theorem dX12_fly_189 : decode cX12_fly 189 = .ok (.getfield 7, 3) := by decide +kernel
theorem dX12_fly_192 : decode cX12_fly 192 = .ok (.sipush 887, 3) := by decide +kernel
theorem dX12_fly_195 : decode cX12_fly 195 = .ok (.aload_n 0, 1) := by decide +kernel
theorem dX12_fly_196 : decode cX12_fly 196 = .ok (.getfield 7, 3) := by decide +kernel
theorem dX12_fly_199 : decode cX12_fly 199 = .ok (.iconst 1, 1) := by decide +kernel
theorem dX12_fly_200 : decode cX12_fly 200 = .ok (.iaload, 1) := by decide +kernel
theorem dX12_fly_201 : decode cX12_fly 201 = .ok (.iastore, 1) := by decide +kernel
theorem dX12_fly_202 : decode cX12_fly 202 = .ok (.aload_n 0, 1) := by decide +kernel
theorem dX12_fly_203 : decode cX12_fly 203 = .ok (.getfield 7, 3) := by decide +kernel
theorem dX12_fly_206 : decode cX12_fly 206 = .ok (.sipush 888, 3) := by decide +kernel
theorem dX12_fly_209 : decode cX12_fly 209 = .ok (.aload_n 0, 1) := by decide +kernel
theorem dX12_fly_210 : decode cX12_fly 210 = .ok (.getfield 7, 3) := by decide +kernel
theorem dX12_fly_213 : decode cX12_fly 213 = .ok (.iconst 2, 1) := by decide +kernel
theorem dX12_fly_214 : decode cX12_fly 214 = .ok (.iaload, 1) := by decide +kernel
theorem dX12_fly_215 : decode cX12_fly 215 = .ok (.iastore, 1) := by decide +kernel
theorem dX12_fly_216 : decode cX12_fly 216 = .ok (.iconst 0, 1) := by decide +kernel
theorem dX12_fly_217 : decode cX12_fly 217 = .ok (.istore 7, 2) := by decide +kernel
theorem dX12_fly_219 : decode cX12_fly 219 = .ok (.iload 7, 2) := by decide +kernel
theorem dX12_fly_221 : decode cX12_fly 221 = .ok (.bipush 38, 2) := by decide +kernel
theorem dX12_fly_223 : decode cX12_fly 223 = .ok (.aload_n 0, 1) := by decide +kernel
theorem dX12_fly_224 : decode cX12_fly 224 = .ok (.getfield 323, 3) := by decide +kernel
theorem dX12_fly_227 : decode cX12_fly 227 = .ok (.imul, 1) := by decide +kernel
theorem dX12_fly_228 : decode cX12_fly 228 = .ok (.if_icmp .ge 27, 3) := by decide +kernel
theorem dX12_fly_231 : decode cX12_fly 231 = .ok (.aload_n 0, 1) := by decide +kernel
theorem dX12_fly_232 : decode cX12_fly 232 = .ok (.getfield 7, 3) := by decide +kernel
theorem dX12_fly_235 : decode cX12_fly 235 = .ok (.sipush 890, 3) := by decide +kernel
theorem dX12_fly_238 : decode cX12_fly 238 = .ok (.iload 7, 2) := by decide +kernel
theorem dX12_fly_240 : decode cX12_fly 240 = .ok (.iadd, 1) := by decide +kernel
theorem dX12_fly_241 : decode cX12_fly 241 = .ok (.aload_n 0, 1) := by decide +kernel
theorem dX12_fly_242 : decode cX12_fly 242 = .ok (.getfield 44, 3) := by decide +kernel
theorem dX12_fly_245 : decode cX12_fly 245 = .ok (.iload 7, 2) := by decide +kernel
theorem dX12_fly_247 : decode cX12_fly 247 = .ok (.iaload, 1) := by decide +kernel
theorem dX12_fly_248 : decode cX12_fly 248 = .ok (.iastore, 1) := by decide +kernel
theorem dX12_fly_249 : decode cX12_fly 249 = .ok (.iinc 7 1, 3) := by decide +kernel
theorem dX12_fly_252 : decode cX12_fly 252 = .ok (.goto (-33), 3) := by decide +kernel
theorem dX12_fly_255 : decode cX12_fly 255 = .ok (.aload_n 0, 1) := by decide +kernel
theorem dX12_fly_256 : decode cX12_fly 256 = .ok (.getfield 323, 3) := by decide +kernel
theorem dX12_fly_259 : decode cX12_fly 259 = .ok (.ireturn, 1) := by decide +kernel
theorem dX12_flown_0 : decode cX12_flown 0 = .ok (.aload_n 0, 1) := by decide +kernel
theorem dX12_flown_1 : decode cX12_flown 1 = .ok (.getfield 7, 3) := by decide +kernel
theorem dX12_flown_4 : decode cX12_flown 4 = .ok (.sipush 880, 3) := by decide +kernel
theorem dX12_flown_7 : decode cX12_flown 7 = .ok (.iaload, 1) := by decide +kernel
theorem dX12_flown_8 : decode cX12_flown 8 = .ok (.ifCond .lt 25, 3) := by decide +kernel
theorem dX12_flown_11 : decode cX12_flown 11 = .ok (.iload_n 1, 1) := by decide +kernel
theorem dX12_flown_12 : decode cX12_flown 12 = .ok (.iconst 0, 1) := by decide +kernel
theorem dX12_flown_13 : decode cX12_flown 13 = .ok (.iconst 5, 1) := by decide +kernel
theorem dX12_flown_14 : decode cX12_flown 14 = .ok (.invokestatic 71, 3) := by decide +kernel
theorem dX12_flown_17 : decode cX12_flown 17 = .ok (.ifCond .eq 16, 3) := by decide +kernel
theorem dX12_flown_20 : decode cX12_flown 20 = .ok (.aload_n 0, 1) := by decide +kernel
theorem dX12_flown_21 : decode cX12_flown 21 = .ok (.getfield 7, 3) := by decide +kernel
theorem dX12_flown_24 : decode cX12_flown 24 = .ok (.sipush 881, 3) := by decide +kernel
theorem dX12_flown_27 : decode cX12_flown 27 = .ok (.iload_n 1, 1) := by decide +kernel
theorem dX12_flown_28 : decode cX12_flown 28 = .ok (.iadd, 1) := by decide +kernel
theorem dX12_flown_29 : decode cX12_flown 29 = .ok (.iaload, 1) := by decide +kernel
theorem dX12_flown_30 : decode cX12_flown 30 = .ok (.goto 4, 3) := by decide +kernel
theorem dX12_flown_33 : decode cX12_flown 33 = .ok (.iconst (-1), 1) := by decide +kernel
theorem dX12_flown_34 : decode cX12_flown 34 = .ok (.ireturn, 1) := by decide +kernel
theorem dX12_tick_0 : decode cX12_tick 0 = .ok (.iload_n 1, 1) := by decide +kernel
theorem dX12_tick_1 : decode cX12_tick 1 = .ok (.iconst 0, 1) := by decide +kernel
theorem dX12_tick_2 : decode cX12_tick 2 = .ok (.aload_n 0, 1) := by decide +kernel
theorem dX12_tick_3 : decode cX12_tick 3 = .ok (.getfield 7, 3) := by decide +kernel
theorem dX12_tick_6 : decode cX12_tick 6 = .ok (.sipush 880, 3) := by decide +kernel
theorem dX12_tick_9 : decode cX12_tick 9 = .ok (.iaload, 1) := by decide +kernel
theorem dX12_tick_10 : decode cX12_tick 10 = .ok (.iconst 1, 1) := by decide +kernel
theorem dX12_tick_11 : decode cX12_tick 11 = .ok (.isub, 1) := by decide +kernel
theorem dX12_tick_12 : decode cX12_tick 12 = .ok (.invokestatic 71, 3) := by decide +kernel
theorem dX12_tick_15 : decode cX12_tick 15 = .ok (.ifCond .ne 7, 3) := by decide +kernel
theorem dX12_tick_18 : decode cX12_tick 18 = .ok (.ldc_w 349, 3) := by decide +kernel
theorem dX12_tick_21 : decode cX12_tick 21 = .ok (.ireturn, 1) := by decide +kernel
theorem dX12_tick_22 : decode cX12_tick 22 = .ok (.sipush 890, 3) := by decide +kernel
theorem dX12_tick_25 : decode cX12_tick 25 = .ok (.bipush 38, 2) := by decide +kernel
theorem dX12_tick_27 : decode cX12_tick 27 = .ok (.iload_n 1, 1) := by decide +kernel
theorem dX12_tick_28 : decode cX12_tick 28 = .ok (.imul, 1) := by decide +kernel
theorem dX12_tick_29 : decode cX12_tick 29 = .ok (.iadd, 1) := by decide +kernel
theorem dX12_tick_30 : decode cX12_tick 30 = .ok (.istore_n 3, 1) := by decide +kernel
theorem dX12_tick_31 : decode cX12_tick 31 = .ok (.iload_n 2, 1) := by decide +kernel
theorem dX12_tick_32 : decode cX12_tick 32 = .ok (.iconst 0, 1) := by decide +kernel
theorem dX12_tick_33 : decode cX12_tick 33 = .ok (.iconst 4, 1) := by decide +kernel
theorem dX12_tick_34 : decode cX12_tick 34 = .ok (.invokestatic 71, 3) := by decide +kernel
theorem dX12_tick_37 : decode cX12_tick 37 = .ok (.ifCond .eq 12, 3) := by decide +kernel
theorem dX12_tick_40 : decode cX12_tick 40 = .ok (.aload_n 0, 1) := by decide +kernel
theorem dX12_tick_41 : decode cX12_tick 41 = .ok (.getfield 7, 3) := by decide +kernel
theorem dX12_tick_44 : decode cX12_tick 44 = .ok (.iload_n 3, 1) := by decide +kernel
theorem dX12_tick_45 : decode cX12_tick 45 = .ok (.iload_n 2, 1) := by decide +kernel
theorem dX12_tick_46 : decode cX12_tick 46 = .ok (.iadd, 1) := by decide +kernel
theorem dX12_tick_47 : decode cX12_tick 47 = .ok (.iaload, 1) := by decide +kernel
theorem dX12_tick_48 : decode cX12_tick 48 = .ok (.ireturn, 1) := by decide +kernel
theorem dX12_tick_49 : decode cX12_tick 49 = .ok (.iload_n 2, 1) := by decide +kernel
theorem dX12_tick_50 : decode cX12_tick 50 = .ok (.bipush 100, 2) := by decide +kernel
theorem dX12_tick_52 : decode cX12_tick 52 = .ok (.if_icmp .lt 32, 3) := by decide +kernel
theorem dX12_tick_55 : decode cX12_tick 55 = .ok (.iload_n 2, 1) := by decide +kernel
theorem dX12_tick_56 : decode cX12_tick 56 = .ok (.bipush 100, 2) := by decide +kernel
theorem dX12_tick_58 : decode cX12_tick 58 = .ok (.aload_n 0, 1) := by decide +kernel
theorem dX12_tick_59 : decode cX12_tick 59 = .ok (.getfield 7, 3) := by decide +kernel
theorem dX12_tick_62 : decode cX12_tick 62 = .ok (.sipush 887, 3) := by decide +kernel
theorem dX12_tick_65 : decode cX12_tick 65 = .ok (.iaload, 1) := by decide +kernel
theorem dX12_tick_66 : decode cX12_tick 66 = .ok (.iadd, 1) := by decide +kernel
theorem dX12_tick_67 : decode cX12_tick 67 = .ok (.if_icmp .ge 17, 3) := by decide +kernel
theorem dX12_tick_70 : decode cX12_tick 70 = .ok (.aload_n 0, 1) := by decide +kernel
theorem dX12_tick_71 : decode cX12_tick 71 = .ok (.getfield 7, 3) := by decide +kernel
theorem dX12_tick_74 : decode cX12_tick 74 = .ok (.iload_n 3, 1) := by decide +kernel
theorem dX12_tick_75 : decode cX12_tick 75 = .ok (.iconst 5, 1) := by decide +kernel
theorem dX12_tick_76 : decode cX12_tick 76 = .ok (.iadd, 1) := by decide +kernel
theorem dX12_tick_77 : decode cX12_tick 77 = .ok (.iload_n 2, 1) := by decide +kernel
theorem dX12_tick_78 : decode cX12_tick 78 = .ok (.iadd, 1) := by decide +kernel
theorem dX12_tick_79 : decode cX12_tick 79 = .ok (.bipush 100, 2) := by decide +kernel
theorem dX12_tick_81 : decode cX12_tick 81 = .ok (.isub, 1) := by decide +kernel
theorem dX12_tick_82 : decode cX12_tick 82 = .ok (.iaload, 1) := by decide +kernel
theorem dX12_tick_83 : decode cX12_tick 83 = .ok (.ireturn, 1) := by decide +kernel
theorem dX12_tick_84 : decode cX12_tick 84 = .ok (.iload_n 2, 1) := by decide +kernel
theorem dX12_tick_85 : decode cX12_tick 85 = .ok (.sipush 200, 3) := by decide +kernel
theorem dX12_tick_88 : decode cX12_tick 88 = .ok (.if_icmp .lt 37, 3) := by decide +kernel
theorem dX12_tick_91 : decode cX12_tick 91 = .ok (.iload_n 2, 1) := by decide +kernel
theorem dX12_tick_92 : decode cX12_tick 92 = .ok (.sipush 200, 3) := by decide +kernel
theorem dX12_tick_95 : decode cX12_tick 95 = .ok (.aload_n 0, 1) := by decide +kernel
theorem dX12_tick_96 : decode cX12_tick 96 = .ok (.getfield 7, 3) := by decide +kernel
theorem dX12_tick_99 : decode cX12_tick 99 = .ok (.sipush 888, 3) := by decide +kernel
theorem dX12_tick_102 : decode cX12_tick 102 = .ok (.iaload, 1) := by decide +kernel
theorem dX12_tick_103 : decode cX12_tick 103 = .ok (.iadd, 1) := by decide +kernel
theorem dX12_tick_104 : decode cX12_tick 104 = .ok (.if_icmp .ge 21, 3) := by decide +kernel
theorem dX12_tick_107 : decode cX12_tick 107 = .ok (.aload_n 0, 1) := by decide +kernel
theorem dX12_tick_108 : decode cX12_tick 108 = .ok (.getfield 7, 3) := by decide +kernel
theorem dX12_tick_111 : decode cX12_tick 111 = .ok (.iload_n 3, 1) := by decide +kernel
theorem dX12_tick_112 : decode cX12_tick 112 = .ok (.bipush 21, 2) := by decide +kernel
theorem dX12_tick_114 : decode cX12_tick 114 = .ok (.iadd, 1) := by decide +kernel
theorem dX12_tick_115 : decode cX12_tick 115 = .ok (.iload_n 2, 1) := by decide +kernel
theorem dX12_tick_116 : decode cX12_tick 116 = .ok (.iadd, 1) := by decide +kernel
theorem dX12_tick_117 : decode cX12_tick 117 = .ok (.sipush 200, 3) := by decide +kernel
theorem dX12_tick_120 : decode cX12_tick 120 = .ok (.isub, 1) := by decide +kernel
theorem dX12_tick_121 : decode cX12_tick 121 = .ok (.iaload, 1) := by decide +kernel
theorem dX12_tick_122 : decode cX12_tick 122 = .ok (.goto 6, 3) := by decide +kernel
theorem dX12_tick_125 : decode cX12_tick 125 = .ok (.ldc_w 349, 3) := by decide +kernel
theorem dX12_tick_128 : decode cX12_tick 128 = .ok (.ireturn, 1) := by decide +kernel
theorem dX12_safe_0 : decode cX12_safe 0 = .ok (.aload_n 0, 1) := by decide +kernel
theorem dX12_safe_1 : decode cX12_safe 1 = .ok (.iload_n 1, 1) := by decide +kernel
theorem dX12_safe_2 : decode cX12_safe 2 = .ok (.invokevirtual 337, 3) := by decide +kernel
theorem dX12_safe_5 : decode cX12_safe 5 = .ok (.ifCond .eq 72, 3) := by decide +kernel
theorem dX12_safe_8 : decode cX12_safe 8 = .ok (.aload_n 0, 1) := by decide +kernel
theorem dX12_safe_9 : decode cX12_safe 9 = .ok (.iload_n 2, 1) := by decide +kernel
theorem dX12_safe_10 : decode cX12_safe 10 = .ok (.iload 4, 2) := by decide +kernel
theorem dX12_safe_12 : decode cX12_safe 12 = .ok (.invokevirtual 107, 3) := by decide +kernel
theorem dX12_safe_15 : decode cX12_safe 15 = .ok (.ifCond .eq 62, 3) := by decide +kernel
theorem dX12_safe_18 : decode cX12_safe 18 = .ok (.aload_n 0, 1) := by decide +kernel
theorem dX12_safe_19 : decode cX12_safe 19 = .ok (.iload_n 3, 1) := by decide +kernel
theorem dX12_safe_20 : decode cX12_safe 20 = .ok (.iload 4, 2) := by decide +kernel
theorem dX12_safe_22 : decode cX12_safe 22 = .ok (.invokevirtual 107, 3) := by decide +kernel
theorem dX12_safe_25 : decode cX12_safe 25 = .ok (.ifCond .eq 52, 3) := by decide +kernel
theorem dX12_safe_28 : decode cX12_safe 28 = .ok (.iload_n 2, 1) := by decide +kernel
theorem dX12_safe_29 : decode cX12_safe 29 = .ok (.iload_n 3, 1) := by decide +kernel
theorem dX12_safe_30 : decode cX12_safe 30 = .ok (.if_icmp .gt 47, 3) := by decide +kernel
theorem dX12_safe_33 : decode cX12_safe 33 = .ok (.iload 5, 2) := by decide +kernel
theorem dX12_safe_35 : decode cX12_safe 35 = .ok (.invokestatic 111, 3) := by decide +kernel
theorem dX12_safe_38 : decode cX12_safe 38 = .ok (.ifCond .eq 39, 3) := by decide +kernel
theorem dX12_safe_41 : decode cX12_safe 41 = .ok (.iload 6, 2) := by decide +kernel
theorem dX12_safe_43 : decode cX12_safe 43 = .ok (.invokestatic 111, 3) := by decide +kernel
theorem dX12_safe_46 : decode cX12_safe 46 = .ok (.ifCond .eq 31, 3) := by decide +kernel
theorem dX12_safe_49 : decode cX12_safe 49 = .ok (.iload 5, 2) := by decide +kernel
theorem dX12_safe_51 : decode cX12_safe 51 = .ok (.iload 6, 2) := by decide +kernel
theorem dX12_safe_53 : decode cX12_safe 53 = .ok (.if_icmp .gt 24, 3) := by decide +kernel
theorem dX12_safe_56 : decode cX12_safe 56 = .ok (.iload 7, 2) := by decide +kernel
theorem dX12_safe_58 : decode cX12_safe 58 = .ok (.iconst 1, 1) := by decide +kernel
theorem dX12_safe_59 : decode cX12_safe 59 = .ok (.bipush 60, 2) := by decide +kernel
theorem dX12_safe_61 : decode cX12_safe 61 = .ok (.invokestatic 71, 3) := by decide +kernel
theorem dX12_safe_64 : decode cX12_safe 64 = .ok (.ifCond .eq 13, 3) := by decide +kernel
theorem dX12_safe_67 : decode cX12_safe 67 = .ok (.iload 8, 2) := by decide +kernel
theorem dX12_safe_69 : decode cX12_safe 69 = .ok (.iconst 0, 1) := by decide +kernel
theorem dX12_safe_70 : decode cX12_safe 70 = .ok (.iconst 1, 1) := by decide +kernel
theorem dX12_safe_71 : decode cX12_safe 71 = .ok (.invokestatic 71, 3) := by decide +kernel
theorem dX12_safe_74 : decode cX12_safe 74 = .ok (.ifCond .ne 5, 3) := by decide +kernel
theorem dX12_safe_77 : decode cX12_safe 77 = .ok (.iconst (-1), 1) := by decide +kernel
theorem dX12_safe_78 : decode cX12_safe 78 = .ok (.ireturn, 1) := by decide +kernel
theorem dX12_safe_79 : decode cX12_safe 79 = .ok (.iload_n 3, 1) := by decide +kernel
theorem dX12_safe_80 : decode cX12_safe 80 = .ok (.iload_n 2, 1) := by decide +kernel
theorem dX12_safe_81 : decode cX12_safe 81 = .ok (.isub, 1) := by decide +kernel
theorem dX12_safe_82 : decode cX12_safe 82 = .ok (.bipush 16, 2) := by decide +kernel
theorem dX12_safe_84 : decode cX12_safe 84 = .ok (.idiv, 1) := by decide +kernel
theorem dX12_safe_85 : decode cX12_safe 85 = .ok (.iconst 1, 1) := by decide +kernel
theorem dX12_safe_86 : decode cX12_safe 86 = .ok (.iadd, 1) := by decide +kernel
theorem dX12_safe_87 : decode cX12_safe 87 = .ok (.iload 6, 2) := by decide +kernel
theorem dX12_safe_89 : decode cX12_safe 89 = .ok (.iload 5, 2) := by decide +kernel
theorem dX12_safe_91 : decode cX12_safe 91 = .ok (.isub, 1) := by decide +kernel
theorem dX12_safe_92 : decode cX12_safe 92 = .ok (.iconst 1, 1) := by decide +kernel
theorem dX12_safe_93 : decode cX12_safe 93 = .ok (.iadd, 1) := by decide +kernel
theorem dX12_safe_94 : decode cX12_safe 94 = .ok (.imul, 1) := by decide +kernel
theorem dX12_safe_95 : decode cX12_safe 95 = .ok (.bipush 64, 2) := by decide +kernel
theorem dX12_safe_97 : decode cX12_safe 97 = .ok (.if_icmp .le 5, 3) := by decide +kernel
theorem dX12_safe_100 : decode cX12_safe 100 = .ok (.iconst (-1), 1) := by decide +kernel
theorem dX12_safe_101 : decode cX12_safe 101 = .ok (.ireturn, 1) := by decide +kernel
theorem dX12_safe_102 : decode cX12_safe 102 = .ok (.aload_n 0, 1) := by decide +kernel
theorem dX12_safe_103 : decode cX12_safe 103 = .ok (.ldc2_w 343, 3) := by decide +kernel
theorem dX12_safe_106 : decode cX12_safe 106 = .ok (.putfield 274, 3) := by decide +kernel
theorem dX12_safe_109 : decode cX12_safe 109 = .ok (.iload_n 2, 1) := by decide +kernel
theorem dX12_safe_110 : decode cX12_safe 110 = .ok (.istore 9, 2) := by decide +kernel
theorem dX12_safe_112 : decode cX12_safe 112 = .ok (.iload 9, 2) := by decide +kernel
theorem dX12_safe_114 : decode cX12_safe 114 = .ok (.iload_n 3, 1) := by decide +kernel
theorem dX12_safe_115 : decode cX12_safe 115 = .ok (.if_icmp .gt 70, 3) := by decide +kernel
theorem dX12_safe_118 : decode cX12_safe 118 = .ok (.iload 5, 2) := by decide +kernel
theorem dX12_safe_120 : decode cX12_safe 120 = .ok (.istore 10, 2) := by decide +kernel
theorem dX12_safe_122 : decode cX12_safe 122 = .ok (.iload 10, 2) := by decide +kernel
theorem dX12_safe_124 : decode cX12_safe 124 = .ok (.iload 6, 2) := by decide +kernel
theorem dX12_safe_126 : decode cX12_safe 126 = .ok (.if_icmp .gt 53, 3) := by decide +kernel
theorem dX12_safe_129 : decode cX12_safe 129 = .ok (.aload_n 0, 1) := by decide +kernel
theorem dX12_safe_130 : decode cX12_safe 130 = .ok (.iload 9, 2) := by decide +kernel
theorem dX12_safe_132 : decode cX12_safe 132 = .ok (.iload 4, 2) := by decide +kernel
theorem dX12_safe_134 : decode cX12_safe 134 = .ok (.invokevirtual 340, 3) := by decide +kernel
theorem dX12_safe_137 : decode cX12_safe 137 = .ok (.ifCond .eq 42, 3) := by decide +kernel
theorem dX12_safe_140 : decode cX12_safe 140 = .ok (.aload_n 0, 1) := by decide +kernel
theorem dX12_safe_141 : decode cX12_safe 141 = .ok (.iload_n 1, 1) := by decide +kernel
theorem dX12_safe_142 : decode cX12_safe 142 = .ok (.iload 9, 2) := by decide +kernel
theorem dX12_safe_144 : decode cX12_safe 144 = .ok (.iload 4, 2) := by decide +kernel
theorem dX12_safe_146 : decode cX12_safe 146 = .ok (.iload 10, 2) := by decide +kernel
theorem dX12_safe_148 : decode cX12_safe 148 = .ok (.iload 7, 2) := by decide +kernel
theorem dX12_safe_150 : decode cX12_safe 150 = .ok (.invokevirtual 345, 3) := by decide +kernel
theorem dX12_safe_153 : decode cX12_safe 153 = .ok (.aload_n 0, 1) := by decide +kernel
theorem dX12_safe_154 : decode cX12_safe 154 = .ok (.getfield 326, 3) := by decide +kernel
theorem dX12_safe_157 : decode cX12_safe 157 = .ok (.ifCond .eq 16, 3) := by decide +kernel
theorem dX12_safe_160 : decode cX12_safe 160 = .ok (.iload 8, 2) := by decide +kernel
theorem dX12_safe_162 : decode cX12_safe 162 = .ok (.ifCond .ne 8, 3) := by decide +kernel
theorem dX12_safe_165 : decode cX12_safe 165 = .ok (.iload 9, 2) := by decide +kernel
theorem dX12_safe_167 : decode cX12_safe 167 = .ok (.goto 5, 3) := by decide +kernel
theorem dX12_safe_170 : decode cX12_safe 170 = .ok (.iload 10, 2) := by decide +kernel
theorem dX12_safe_172 : decode cX12_safe 172 = .ok (.ireturn, 1) := by decide +kernel
theorem dX12_safe_173 : decode cX12_safe 173 = .ok (.iinc 10 1, 3) := by decide +kernel
theorem dX12_safe_176 : decode cX12_safe 176 = .ok (.goto (-54), 3) := by decide +kernel
theorem dX12_safe_179 : decode cX12_safe 179 = .ok (.iinc 9 16, 3) := by decide +kernel
theorem dX12_safe_182 : decode cX12_safe 182 = .ok (.goto (-70), 3) := by decide +kernel
theorem dX12_safe_185 : decode cX12_safe 185 = .ok (.iconst (-1), 1) := by decide +kernel
theorem dX12_safe_186 : decode cX12_safe 186 = .ok (.ireturn, 1) := by decide +kernel
theorem dX12_read_0 : decode cX12_read 0 = .ok (.aload_n 0, 1) := by decide +kernel
theorem dX12_read_1 : decode cX12_read 1 = .ok (.iload_n 1, 1) := by decide +kernel
theorem dX12_read_2 : decode cX12_read 2 = .ok (.iload_n 2, 1) := by decide +kernel
theorem dX12_read_3 : decode cX12_read 3 = .ok (.invokevirtual 107, 3) := by decide +kernel
theorem dX12_read_6 : decode cX12_read 6 = .ok (.ifCond .eq 21, 3) := by decide +kernel
theorem dX12_read_9 : decode cX12_read 9 = .ok (.iload_n 3, 1) := by decide +kernel
theorem dX12_read_10 : decode cX12_read 10 = .ok (.invokestatic 111, 3) := by decide +kernel
theorem dX12_read_13 : decode cX12_read 13 = .ok (.ifCond .eq 14, 3) := by decide +kernel
theorem dX12_read_16 : decode cX12_read 16 = .ok (.aload_n 0, 1) := by decide +kernel
theorem dX12_read_17 : decode cX12_read 17 = .ok (.getfield 7, 3) := by decide +kernel
theorem dX12_read_20 : decode cX12_read 20 = .ok (.iconst 4, 1) := by decide +kernel
theorem dX12_read_21 : decode cX12_read 21 = .ok (.iaload, 1) := by decide +kernel
theorem dX12_read_22 : decode cX12_read 22 = .ok (.bipush 6, 2) := by decide +kernel
theorem dX12_read_24 : decode cX12_read 24 = .ok (.if_icmp .ne 5, 3) := by decide +kernel
theorem dX12_read_27 : decode cX12_read 27 = .ok (.iconst (-1), 1) := by decide +kernel
theorem dX12_read_28 : decode cX12_read 28 = .ok (.ireturn, 1) := by decide +kernel
theorem dX12_read_29 : decode cX12_read 29 = .ok (.sipush 720, 3) := by decide +kernel
theorem dX12_read_32 : decode cX12_read 32 = .ok (.bipush 24, 2) := by decide +kernel
theorem dX12_read_34 : decode cX12_read 34 = .ok (.aload_n 0, 1) := by decide +kernel
theorem dX12_read_35 : decode cX12_read 35 = .ok (.getfield 7, 3) := by decide +kernel
theorem dX12_read_38 : decode cX12_read 38 = .ok (.iconst 4, 1) := by decide +kernel
theorem dX12_read_39 : decode cX12_read 39 = .ok (.iaload, 1) := by decide +kernel
theorem dX12_read_40 : decode cX12_read 40 = .ok (.imul, 1) := by decide +kernel
theorem dX12_read_41 : decode cX12_read 41 = .ok (.iadd, 1) := by decide +kernel
theorem dX12_read_42 : decode cX12_read 42 = .ok (.istore 4, 2) := by decide +kernel
theorem dX12_read_44 : decode cX12_read 44 = .ok (.aload_n 0, 1) := by decide +kernel
theorem dX12_read_45 : decode cX12_read 45 = .ok (.getfield 7, 3) := by decide +kernel
theorem dX12_read_48 : decode cX12_read 48 = .ok (.iload 4, 2) := by decide +kernel
theorem dX12_read_50 : decode cX12_read 50 = .ok (.iload_n 1, 1) := by decide +kernel
theorem dX12_read_51 : decode cX12_read 51 = .ok (.iastore, 1) := by decide +kernel
theorem dX12_read_52 : decode cX12_read 52 = .ok (.aload_n 0, 1) := by decide +kernel
theorem dX12_read_53 : decode cX12_read 53 = .ok (.getfield 7, 3) := by decide +kernel
theorem dX12_read_56 : decode cX12_read 56 = .ok (.iload 4, 2) := by decide +kernel
theorem dX12_read_58 : decode cX12_read 58 = .ok (.iconst 1, 1) := by decide +kernel
theorem dX12_read_59 : decode cX12_read 59 = .ok (.iadd, 1) := by decide +kernel
theorem dX12_read_60 : decode cX12_read 60 = .ok (.iload_n 2, 1) := by decide +kernel
theorem dX12_read_61 : decode cX12_read 61 = .ok (.iastore, 1) := by decide +kernel
theorem dX12_read_62 : decode cX12_read 62 = .ok (.aload_n 0, 1) := by decide +kernel
theorem dX12_read_63 : decode cX12_read 63 = .ok (.getfield 7, 3) := by decide +kernel
theorem dX12_read_66 : decode cX12_read 66 = .ok (.iload 4, 2) := by decide +kernel
theorem dX12_read_68 : decode cX12_read 68 = .ok (.iconst 2, 1) := by decide +kernel
theorem dX12_read_69 : decode cX12_read 69 = .ok (.iadd, 1) := by decide +kernel
theorem dX12_read_70 : decode cX12_read 70 = .ok (.iload_n 3, 1) := by decide +kernel
theorem dX12_read_71 : decode cX12_read 71 = .ok (.iastore, 1) := by decide +kernel
theorem dX12_read_72 : decode cX12_read 72 = .ok (.aload_n 0, 1) := by decide +kernel
theorem dX12_read_73 : decode cX12_read 73 = .ok (.getfield 7, 3) := by decide +kernel
theorem dX12_read_76 : decode cX12_read 76 = .ok (.iload 4, 2) := by decide +kernel
theorem dX12_read_78 : decode cX12_read 78 = .ok (.iconst 3, 1) := by decide +kernel
theorem dX12_read_79 : decode cX12_read 79 = .ok (.iadd, 1) := by decide +kernel
theorem dX12_read_80 : decode cX12_read 80 = .ok (.iconst 0, 1) := by decide +kernel
theorem dX12_read_81 : decode cX12_read 81 = .ok (.iastore, 1) := by decide +kernel
theorem dX12_read_82 : decode cX12_read 82 = .ok (.aload_n 0, 1) := by decide +kernel
theorem dX12_read_83 : decode cX12_read 83 = .ok (.getfield 7, 3) := by decide +kernel
theorem dX12_read_86 : decode cX12_read 86 = .ok (.iconst 4, 1) := by decide +kernel
theorem dX12_read_87 : decode cX12_read 87 = .ok (.dup2, 1) := by decide +kernel
theorem dX12_read_88 : decode cX12_read 88 = .ok (.iaload, 1) := by decide +kernel
theorem dX12_read_89 : decode cX12_read 89 = .ok (.iconst 1, 1) := by decide +kernel
theorem dX12_read_90 : decode cX12_read 90 = .ok (.iadd, 1) := by decide +kernel
theorem dX12_read_91 : decode cX12_read 91 = .ok (.iastore, 1) := by decide +kernel
theorem dX12_read_92 : decode cX12_read 92 = .ok (.aload_n 0, 1) := by decide +kernel
theorem dX12_read_93 : decode cX12_read 93 = .ok (.getfield 7, 3) := by decide +kernel
theorem dX12_read_96 : decode cX12_read 96 = .ok (.iconst 4, 1) := by decide +kernel
theorem dX12_read_97 : decode cX12_read 97 = .ok (.iaload, 1) := by decide +kernel
theorem dX12_read_98 : decode cX12_read 98 = .ok (.iconst 1, 1) := by decide +kernel
theorem dX12_read_99 : decode cX12_read 99 = .ok (.isub, 1) := by decide +kernel
theorem dX12_read_100 : decode cX12_read 100 = .ok (.ireturn, 1) := by decide +kernel
theorem dX12_turned_0 : decode cX12_turned 0 = .ok (.iload_n 1, 1) := by decide +kernel
theorem dX12_turned_1 : decode cX12_turned 1 = .ok (.iconst 0, 1) := by decide +kernel
theorem dX12_turned_2 : decode cX12_turned 2 = .ok (.aload_n 0, 1) := by decide +kernel
theorem dX12_turned_3 : decode cX12_turned 3 = .ok (.getfield 7, 3) := by decide +kernel
theorem dX12_turned_6 : decode cX12_turned 6 = .ok (.iconst 4, 1) := by decide +kernel
theorem dX12_turned_7 : decode cX12_turned 7 = .ok (.iaload, 1) := by decide +kernel
theorem dX12_turned_8 : decode cX12_turned 8 = .ok (.iconst 1, 1) := by decide +kernel
theorem dX12_turned_9 : decode cX12_turned 9 = .ok (.isub, 1) := by decide +kernel
theorem dX12_turned_10 : decode cX12_turned 10 = .ok (.invokestatic 71, 3) := by decide +kernel
theorem dX12_turned_13 : decode cX12_turned 13 = .ok (.ifCond .eq 14, 3) := by decide +kernel
theorem dX12_turned_16 : decode cX12_turned 16 = .ok (.iload_n 2, 1) := by decide +kernel
theorem dX12_turned_17 : decode cX12_turned 17 = .ok (.bipush (-8), 2) := by decide +kernel
theorem dX12_turned_19 : decode cX12_turned 19 = .ok (.bipush 8, 2) := by decide +kernel
theorem dX12_turned_21 : decode cX12_turned 21 = .ok (.invokestatic 71, 3) := by decide +kernel
theorem dX12_turned_24 : decode cX12_turned 24 = .ok (.ifCond .ne 5, 3) := by decide +kernel
theorem dX12_turned_27 : decode cX12_turned 27 = .ok (.iconst (-1), 1) := by decide +kernel
theorem dX12_turned_28 : decode cX12_turned 28 = .ok (.ireturn, 1) := by decide +kernel
theorem dX12_turned_29 : decode cX12_turned 29 = .ok (.sipush 720, 3) := by decide +kernel
theorem dX12_turned_32 : decode cX12_turned 32 = .ok (.bipush 24, 2) := by decide +kernel
theorem dX12_turned_34 : decode cX12_turned 34 = .ok (.iload_n 1, 1) := by decide +kernel
theorem dX12_turned_35 : decode cX12_turned 35 = .ok (.imul, 1) := by decide +kernel
theorem dX12_turned_36 : decode cX12_turned 36 = .ok (.iadd, 1) := by decide +kernel
theorem dX12_turned_37 : decode cX12_turned 37 = .ok (.istore_n 3, 1) := by decide +kernel
theorem dX12_turned_38 : decode cX12_turned 38 = .ok (.aload_n 0, 1) := by decide +kernel
theorem dX12_turned_39 : decode cX12_turned 39 = .ok (.getfield 7, 3) := by decide +kernel
theorem dX12_turned_42 : decode cX12_turned 42 = .ok (.iload_n 3, 1) := by decide +kernel
theorem dX12_turned_43 : decode cX12_turned 43 = .ok (.iconst 3, 1) := by decide +kernel
theorem dX12_turned_44 : decode cX12_turned 44 = .ok (.iadd, 1) := by decide +kernel
theorem dX12_turned_45 : decode cX12_turned 45 = .ok (.iaload, 1) := by decide +kernel
theorem dX12_turned_46 : decode cX12_turned 46 = .ok (.bipush 20, 2) := by decide +kernel
theorem dX12_turned_48 : decode cX12_turned 48 = .ok (.if_icmp .ne 5, 3) := by decide +kernel
theorem dX12_turned_51 : decode cX12_turned 51 = .ok (.iconst (-1), 1) := by decide +kernel
theorem dX12_turned_52 : decode cX12_turned 52 = .ok (.ireturn, 1) := by decide +kernel
theorem dX12_turned_53 : decode cX12_turned 53 = .ok (.aload_n 0, 1) := by decide +kernel
theorem dX12_turned_54 : decode cX12_turned 54 = .ok (.getfield 7, 3) := by decide +kernel
theorem dX12_turned_57 : decode cX12_turned 57 = .ok (.iload_n 3, 1) := by decide +kernel
theorem dX12_turned_58 : decode cX12_turned 58 = .ok (.iconst 4, 1) := by decide +kernel
theorem dX12_turned_59 : decode cX12_turned 59 = .ok (.iadd, 1) := by decide +kernel
theorem dX12_turned_60 : decode cX12_turned 60 = .ok (.aload_n 0, 1) := by decide +kernel
theorem dX12_turned_61 : decode cX12_turned 61 = .ok (.getfield 7, 3) := by decide +kernel
theorem dX12_turned_64 : decode cX12_turned 64 = .ok (.iload_n 3, 1) := by decide +kernel
theorem dX12_turned_65 : decode cX12_turned 65 = .ok (.iconst 3, 1) := by decide +kernel
theorem dX12_turned_66 : decode cX12_turned 66 = .ok (.iadd, 1) := by decide +kernel
theorem dX12_turned_67 : decode cX12_turned 67 = .ok (.iaload, 1) := by decide +kernel
theorem dX12_turned_68 : decode cX12_turned 68 = .ok (.iadd, 1) := by decide +kernel
theorem dX12_turned_69 : decode cX12_turned 69 = .ok (.iload_n 2, 1) := by decide +kernel
theorem dX12_turned_70 : decode cX12_turned 70 = .ok (.iastore, 1) := by decide +kernel
theorem dX12_turned_71 : decode cX12_turned 71 = .ok (.aload_n 0, 1) := by decide +kernel
theorem dX12_turned_72 : decode cX12_turned 72 = .ok (.getfield 7, 3) := by decide +kernel
theorem dX12_turned_75 : decode cX12_turned 75 = .ok (.iload_n 3, 1) := by decide +kernel
theorem dX12_turned_76 : decode cX12_turned 76 = .ok (.iconst 3, 1) := by decide +kernel
theorem dX12_turned_77 : decode cX12_turned 77 = .ok (.iadd, 1) := by decide +kernel
theorem dX12_turned_78 : decode cX12_turned 78 = .ok (.dup2, 1) := by decide +kernel
theorem dX12_turned_79 : decode cX12_turned 79 = .ok (.iaload, 1) := by decide +kernel
theorem dX12_turned_80 : decode cX12_turned 80 = .ok (.iconst 1, 1) := by decide +kernel
theorem dX12_turned_81 : decode cX12_turned 81 = .ok (.iadd, 1) := by decide +kernel
theorem dX12_turned_82 : decode cX12_turned 82 = .ok (.iastore, 1) := by decide +kernel
theorem dX12_turned_83 : decode cX12_turned 83 = .ok (.aload_n 0, 1) := by decide +kernel
theorem dX12_turned_84 : decode cX12_turned 84 = .ok (.getfield 7, 3) := by decide +kernel
theorem dX12_turned_87 : decode cX12_turned 87 = .ok (.iload_n 3, 1) := by decide +kernel
theorem dX12_turned_88 : decode cX12_turned 88 = .ok (.iconst 3, 1) := by decide +kernel
theorem dX12_turned_89 : decode cX12_turned 89 = .ok (.iadd, 1) := by decide +kernel
theorem dX12_turned_90 : decode cX12_turned 90 = .ok (.iaload, 1) := by decide +kernel
theorem dX12_turned_91 : decode cX12_turned 91 = .ok (.ireturn, 1) := by decide +kernel
theorem dX12_isKept_0 : decode cX12_isKept 0 = .ok (.aload_n 0, 1) := by decide +kernel
theorem dX12_isKept_1 : decode cX12_isKept 1 = .ok (.ldc2_w 343, 3) := by decide +kernel
theorem dX12_isKept_4 : decode cX12_isKept 4 = .ok (.putfield 274, 3) := by decide +kernel
theorem dX12_isKept_7 : decode cX12_isKept 7 = .ok (.iconst 0, 1) := by decide +kernel
theorem dX12_isKept_8 : decode cX12_isKept 8 = .ok (.istore_n 2, 1) := by decide +kernel
theorem dX12_isKept_9 : decode cX12_isKept 9 = .ok (.iload_n 2, 1) := by decide +kernel
theorem dX12_isKept_10 : decode cX12_isKept 10 = .ok (.aload_n 0, 1) := by decide +kernel
theorem dX12_isKept_11 : decode cX12_isKept 11 = .ok (.getfield 7, 3) := by decide +kernel
theorem dX12_isKept_14 : decode cX12_isKept 14 = .ok (.iconst 4, 1) := by decide +kernel
theorem dX12_isKept_15 : decode cX12_isKept 15 = .ok (.iaload, 1) := by decide +kernel
theorem dX12_isKept_16 : decode cX12_isKept 16 = .ok (.if_icmp .ge 137, 3) := by decide +kernel
theorem dX12_isKept_19 : decode cX12_isKept 19 = .ok (.sipush 720, 3) := by decide +kernel
theorem dX12_isKept_22 : decode cX12_isKept 22 = .ok (.bipush 24, 2) := by decide +kernel
theorem dX12_isKept_24 : decode cX12_isKept 24 = .ok (.iload_n 2, 1) := by decide +kernel
theorem dX12_isKept_25 : decode cX12_isKept 25 = .ok (.imul, 1) := by decide +kernel
theorem dX12_isKept_26 : decode cX12_isKept 26 = .ok (.iadd, 1) := by decide +kernel
theorem dX12_isKept_27 : decode cX12_isKept 27 = .ok (.istore_n 3, 1) := by decide +kernel
theorem dX12_isKept_28 : decode cX12_isKept 28 = .ok (.aload_n 0, 1) := by decide +kernel
theorem dX12_isKept_29 : decode cX12_isKept 29 = .ok (.aload_n 0, 1) := by decide +kernel
theorem dX12_isKept_30 : decode cX12_isKept 30 = .ok (.getfield 7, 3) := by decide +kernel
theorem dX12_isKept_33 : decode cX12_isKept 33 = .ok (.iload_n 3, 1) := by decide +kernel
theorem dX12_isKept_34 : decode cX12_isKept 34 = .ok (.iaload, 1) := by decide +kernel
theorem dX12_isKept_35 : decode cX12_isKept 35 = .ok (.aload_n 0, 1) := by decide +kernel
theorem dX12_isKept_36 : decode cX12_isKept 36 = .ok (.getfield 7, 3) := by decide +kernel
theorem dX12_isKept_39 : decode cX12_isKept 39 = .ok (.iload_n 3, 1) := by decide +kernel
theorem dX12_isKept_40 : decode cX12_isKept 40 = .ok (.iconst 1, 1) := by decide +kernel
theorem dX12_isKept_41 : decode cX12_isKept 41 = .ok (.iadd, 1) := by decide +kernel
theorem dX12_isKept_42 : decode cX12_isKept 42 = .ok (.iaload, 1) := by decide +kernel
theorem dX12_isKept_43 : decode cX12_isKept 43 = .ok (.invokevirtual 340, 3) := by decide +kernel
theorem dX12_isKept_46 : decode cX12_isKept 46 = .ok (.ifCond .ne 5, 3) := by decide +kernel
theorem dX12_isKept_49 : decode cX12_isKept 49 = .ok (.iconst 0, 1) := by decide +kernel
theorem dX12_isKept_50 : decode cX12_isKept 50 = .ok (.ireturn, 1) := by decide +kernel
theorem dX12_isKept_51 : decode cX12_isKept 51 = .ok (.aload_n 0, 1) := by decide +kernel
theorem dX12_isKept_52 : decode cX12_isKept 52 = .ok (.iload_n 1, 1) := by decide +kernel
theorem dX12_isKept_53 : decode cX12_isKept 53 = .ok (.aload_n 0, 1) := by decide +kernel
theorem dX12_isKept_54 : decode cX12_isKept 54 = .ok (.getfield 7, 3) := by decide +kernel
theorem dX12_isKept_57 : decode cX12_isKept 57 = .ok (.iload_n 3, 1) := by decide +kernel
theorem dX12_isKept_58 : decode cX12_isKept 58 = .ok (.iaload, 1) := by decide +kernel
theorem dX12_isKept_59 : decode cX12_isKept 59 = .ok (.aload_n 0, 1) := by decide +kernel
theorem dX12_isKept_60 : decode cX12_isKept 60 = .ok (.getfield 7, 3) := by decide +kernel
theorem dX12_isKept_63 : decode cX12_isKept 63 = .ok (.iload_n 3, 1) := by decide +kernel
theorem dX12_isKept_64 : decode cX12_isKept 64 = .ok (.iconst 1, 1) := by decide +kernel
theorem dX12_isKept_65 : decode cX12_isKept 65 = .ok (.iadd, 1) := by decide +kernel
theorem dX12_isKept_66 : decode cX12_isKept 66 = .ok (.iaload, 1) := by decide +kernel
theorem dX12_isKept_67 : decode cX12_isKept 67 = .ok (.aload_n 0, 1) := by decide +kernel
theorem dX12_isKept_68 : decode cX12_isKept 68 = .ok (.getfield 7, 3) := by decide +kernel
theorem dX12_isKept_71 : decode cX12_isKept 71 = .ok (.iload_n 3, 1) := by decide +kernel
theorem dX12_isKept_72 : decode cX12_isKept 72 = .ok (.iconst 2, 1) := by decide +kernel
theorem dX12_isKept_73 : decode cX12_isKept 73 = .ok (.iadd, 1) := by decide +kernel
theorem dX12_isKept_74 : decode cX12_isKept 74 = .ok (.iaload, 1) := by decide +kernel
theorem dX12_isKept_75 : decode cX12_isKept 75 = .ok (.aload_n 0, 1) := by decide +kernel
theorem dX12_isKept_76 : decode cX12_isKept 76 = .ok (.getfield 7, 3) := by decide +kernel
theorem dX12_isKept_79 : decode cX12_isKept 79 = .ok (.iload_n 3, 1) := by decide +kernel
theorem dX12_isKept_80 : decode cX12_isKept 80 = .ok (.iconst 3, 1) := by decide +kernel
theorem dX12_isKept_81 : decode cX12_isKept 81 = .ok (.iadd, 1) := by decide +kernel
theorem dX12_isKept_82 : decode cX12_isKept 82 = .ok (.iaload, 1) := by decide +kernel
theorem dX12_isKept_83 : decode cX12_isKept 83 = .ok (.invokevirtual 345, 3) := by decide +kernel
theorem dX12_isKept_86 : decode cX12_isKept 86 = .ok (.aload_n 0, 1) := by decide +kernel
theorem dX12_isKept_87 : decode cX12_isKept 87 = .ok (.getfield 323, 3) := by decide +kernel
theorem dX12_isKept_90 : decode cX12_isKept 90 = .ok (.aload_n 0, 1) := by decide +kernel
theorem dX12_isKept_91 : decode cX12_isKept 91 = .ok (.getfield 7, 3) := by decide +kernel
theorem dX12_isKept_94 : decode cX12_isKept 94 = .ok (.iload_n 3, 1) := by decide +kernel
theorem dX12_isKept_95 : decode cX12_isKept 95 = .ok (.iconst 3, 1) := by decide +kernel
theorem dX12_isKept_96 : decode cX12_isKept 96 = .ok (.iadd, 1) := by decide +kernel
theorem dX12_isKept_97 : decode cX12_isKept 97 = .ok (.iaload, 1) := by decide +kernel
theorem dX12_isKept_98 : decode cX12_isKept 98 = .ok (.if_icmp .ge 5, 3) := by decide +kernel
theorem dX12_isKept_101 : decode cX12_isKept 101 = .ok (.iconst 0, 1) := by decide +kernel
theorem dX12_isKept_102 : decode cX12_isKept 102 = .ok (.ireturn, 1) := by decide +kernel
theorem dX12_isKept_103 : decode cX12_isKept 103 = .ok (.iconst 0, 1) := by decide +kernel
theorem dX12_isKept_104 : decode cX12_isKept 104 = .ok (.istore 4, 2) := by decide +kernel
theorem dX12_isKept_106 : decode cX12_isKept 106 = .ok (.iload 4, 2) := by decide +kernel
theorem dX12_isKept_108 : decode cX12_isKept 108 = .ok (.aload_n 0, 1) := by decide +kernel
theorem dX12_isKept_109 : decode cX12_isKept 109 = .ok (.getfield 323, 3) := by decide +kernel
theorem dX12_isKept_112 : decode cX12_isKept 112 = .ok (.if_icmp .ge 35, 3) := by decide +kernel
theorem dX12_isKept_115 : decode cX12_isKept 115 = .ok (.aload_n 0, 1) := by decide +kernel
theorem dX12_isKept_116 : decode cX12_isKept 116 = .ok (.getfield 44, 3) := by decide +kernel
theorem dX12_isKept_119 : decode cX12_isKept 119 = .ok (.bipush 38, 2) := by decide +kernel
theorem dX12_isKept_121 : decode cX12_isKept 121 = .ok (.iload 4, 2) := by decide +kernel
theorem dX12_isKept_123 : decode cX12_isKept 123 = .ok (.imul, 1) := by decide +kernel
theorem dX12_isKept_124 : decode cX12_isKept 124 = .ok (.iaload, 1) := by decide +kernel
theorem dX12_isKept_125 : decode cX12_isKept 125 = .ok (.aload_n 0, 1) := by decide +kernel
theorem dX12_isKept_126 : decode cX12_isKept 126 = .ok (.getfield 7, 3) := by decide +kernel
theorem dX12_isKept_129 : decode cX12_isKept 129 = .ok (.iload_n 3, 1) := by decide +kernel
theorem dX12_isKept_130 : decode cX12_isKept 130 = .ok (.iconst 4, 1) := by decide +kernel
theorem dX12_isKept_131 : decode cX12_isKept 131 = .ok (.iadd, 1) := by decide +kernel
theorem dX12_isKept_132 : decode cX12_isKept 132 = .ok (.iload 4, 2) := by decide +kernel
theorem dX12_isKept_134 : decode cX12_isKept 134 = .ok (.iadd, 1) := by decide +kernel
theorem dX12_isKept_135 : decode cX12_isKept 135 = .ok (.iaload, 1) := by decide +kernel
theorem dX12_isKept_136 : decode cX12_isKept 136 = .ok (.if_icmp .eq 5, 3) := by decide +kernel
theorem dX12_isKept_139 : decode cX12_isKept 139 = .ok (.iconst 0, 1) := by decide +kernel
theorem dX12_isKept_140 : decode cX12_isKept 140 = .ok (.ireturn, 1) := by decide +kernel
theorem dX12_isKept_141 : decode cX12_isKept 141 = .ok (.iinc 4 1, 3) := by decide +kernel
theorem dX12_isKept_144 : decode cX12_isKept 144 = .ok (.goto (-38), 3) := by decide +kernel
theorem dX12_isKept_147 : decode cX12_isKept 147 = .ok (.iinc 2 1, 3) := by decide +kernel
theorem dX12_isKept_150 : decode cX12_isKept 150 = .ok (.goto (-141), 3) := by decide +kernel
theorem dX12_isKept_153 : decode cX12_isKept 153 = .ok (.iconst 1, 1) := by decide +kernel
theorem dX12_isKept_154 : decode cX12_isKept 154 = .ok (.ireturn, 1) := by decide +kernel
theorem dX12_kept_0 : decode cX12_kept 0 = .ok (.iload_n 1, 1) := by decide +kernel
theorem dX12_kept_1 : decode cX12_kept 1 = .ok (.iconst (-1), 1) := by decide +kernel
theorem dX12_kept_2 : decode cX12_kept 2 = .ok (.if_icmp .eq 29, 3) := by decide +kernel
theorem dX12_kept_5 : decode cX12_kept 5 = .ok (.aload_n 0, 1) := by decide +kernel
theorem dX12_kept_6 : decode cX12_kept 6 = .ok (.iload_n 1, 1) := by decide +kernel
theorem dX12_kept_7 : decode cX12_kept 7 = .ok (.invokevirtual 337, 3) := by decide +kernel
theorem dX12_kept_10 : decode cX12_kept 10 = .ok (.ifCond .eq 19, 3) := by decide +kernel
theorem dX12_kept_13 : decode cX12_kept 13 = .ok (.aload_n 0, 1) := by decide +kernel
theorem dX12_kept_14 : decode cX12_kept 14 = .ok (.iload_n 1, 1) := by decide +kernel
theorem dX12_kept_15 : decode cX12_kept 15 = .ok (.invokevirtual 350, 3) := by decide +kernel
theorem dX12_kept_18 : decode cX12_kept 18 = .ok (.ifCond .eq 7, 3) := by decide +kernel
theorem dX12_kept_21 : decode cX12_kept 21 = .ok (.iconst 1, 1) := by decide +kernel
theorem dX12_kept_22 : decode cX12_kept 22 = .ok (.goto 8, 3) := by decide +kernel
theorem dX12_kept_25 : decode cX12_kept 25 = .ok (.iconst 0, 1) := by decide +kernel
theorem dX12_kept_26 : decode cX12_kept 26 = .ok (.goto 4, 3) := by decide +kernel
theorem dX12_kept_29 : decode cX12_kept 29 = .ok (.iconst (-1), 1) := by decide +kernel
theorem dX12_kept_30 : decode cX12_kept 30 = .ok (.ireturn, 1) := by decide +kernel
theorem dX12_kept_31 : decode cX12_kept 31 = .ok (.iconst 0, 1) := by decide +kernel
theorem dX12_kept_32 : decode cX12_kept 32 = .ok (.istore_n 2, 1) := by decide +kernel
theorem dX12_kept_33 : decode cX12_kept 33 = .ok (.iconst 0, 1) := by decide +kernel
theorem dX12_kept_34 : decode cX12_kept 34 = .ok (.istore_n 3, 1) := by decide +kernel
theorem dX12_kept_35 : decode cX12_kept 35 = .ok (.iload_n 3, 1) := by decide +kernel
theorem dX12_kept_36 : decode cX12_kept 36 = .ok (.aload_n 0, 1) := by decide +kernel
theorem dX12_kept_37 : decode cX12_kept 37 = .ok (.getfield 7, 3) := by decide +kernel
theorem dX12_kept_40 : decode cX12_kept 40 = .ok (.iconst 3, 1) := by decide +kernel
theorem dX12_kept_41 : decode cX12_kept 41 = .ok (.iaload, 1) := by decide +kernel
theorem dX12_kept_42 : decode cX12_kept 42 = .ok (.if_icmp .ge 25, 3) := by decide +kernel
theorem dX12_kept_45 : decode cX12_kept 45 = .ok (.iload_n 2, 1) := by decide +kernel
theorem dX12_kept_46 : decode cX12_kept 46 = .ok (.aload_n 0, 1) := by decide +kernel
theorem dX12_kept_47 : decode cX12_kept 47 = .ok (.iload_n 3, 1) := by decide +kernel
theorem dX12_kept_48 : decode cX12_kept 48 = .ok (.invokevirtual 350, 3) := by decide +kernel
theorem dX12_kept_51 : decode cX12_kept 51 = .ok (.ifCond .eq 7, 3) := by decide +kernel
theorem dX12_kept_54 : decode cX12_kept 54 = .ok (.iconst 1, 1) := by decide +kernel
theorem dX12_kept_55 : decode cX12_kept 55 = .ok (.goto 4, 3) := by decide +kernel
theorem dX12_kept_58 : decode cX12_kept 58 = .ok (.iconst 0, 1) := by decide +kernel
theorem dX12_kept_59 : decode cX12_kept 59 = .ok (.iadd, 1) := by decide +kernel
theorem dX12_kept_60 : decode cX12_kept 60 = .ok (.istore_n 2, 1) := by decide +kernel
theorem dX12_kept_61 : decode cX12_kept 61 = .ok (.iinc 3 1, 3) := by decide +kernel
theorem dX12_kept_64 : decode cX12_kept 64 = .ok (.goto (-29), 3) := by decide +kernel
theorem dX12_kept_67 : decode cX12_kept 67 = .ok (.iload_n 2, 1) := by decide +kernel
theorem dX12_kept_68 : decode cX12_kept 68 = .ok (.ireturn, 1) := by decide +kernel
theorem dX12_unlike_0 : decode cX12_unlike 0 = .ok (.iconst 0, 1) := by decide +kernel
theorem dX12_unlike_1 : decode cX12_unlike 1 = .ok (.istore 4, 2) := by decide +kernel
theorem dX12_unlike_3 : decode cX12_unlike 3 = .ok (.iconst 0, 1) := by decide +kernel
theorem dX12_unlike_4 : decode cX12_unlike 4 = .ok (.istore 5, 2) := by decide +kernel
theorem dX12_unlike_6 : decode cX12_unlike 6 = .ok (.iconst 0, 1) := by decide +kernel
theorem dX12_unlike_7 : decode cX12_unlike 7 = .ok (.istore 6, 2) := by decide +kernel
theorem dX12_unlike_9 : decode cX12_unlike 9 = .ok (.iload 6, 2) := by decide +kernel
theorem dX12_unlike_11 : decode cX12_unlike 11 = .ok (.aload_n 0, 1) := by decide +kernel
theorem dX12_unlike_12 : decode cX12_unlike 12 = .ok (.getfield 7, 3) := by decide +kernel
theorem dX12_unlike_15 : decode cX12_unlike 15 = .ok (.iconst 3, 1) := by decide +kernel
theorem dX12_unlike_16 : decode cX12_unlike 16 = .ok (.iaload, 1) := by decide +kernel
theorem dX12_unlike_17 : decode cX12_unlike 17 = .ok (.if_icmp .ge 79, 3) := by decide +kernel
theorem dX12_unlike_20 : decode cX12_unlike 20 = .ok (.aload_n 0, 1) := by decide +kernel
theorem dX12_unlike_21 : decode cX12_unlike 21 = .ok (.getfield 58, 3) := by decide +kernel
theorem dX12_unlike_24 : decode cX12_unlike 24 = .ok (.iload 6, 2) := by decide +kernel
theorem dX12_unlike_26 : decode cX12_unlike 26 = .ok (.baload, 1) := by decide +kernel
theorem dX12_unlike_27 : decode cX12_unlike 27 = .ok (.ifCond .ne 6, 3) := by decide +kernel
theorem dX12_unlike_30 : decode cX12_unlike 30 = .ok (.goto 60, 3) := by decide +kernel
theorem dX12_unlike_33 : decode cX12_unlike 33 = .ok (.aload_n 0, 1) := by decide +kernel
theorem dX12_unlike_34 : decode cX12_unlike 34 = .ok (.iload 6, 2) := by decide +kernel
theorem dX12_unlike_36 : decode cX12_unlike 36 = .ok (.iload_n 1, 1) := by decide +kernel
theorem dX12_unlike_37 : decode cX12_unlike 37 = .ok (.iload_n 2, 1) := by decide +kernel
theorem dX12_unlike_38 : decode cX12_unlike 38 = .ok (.iload_n 3, 1) := by decide +kernel
theorem dX12_unlike_39 : decode cX12_unlike 39 = .ok (.iconst 1, 1) := by decide +kernel
theorem dX12_unlike_40 : decode cX12_unlike 40 = .ok (.invokevirtual 345, 3) := by decide +kernel
theorem dX12_unlike_43 : decode cX12_unlike 43 = .ok (.aload_n 0, 1) := by decide +kernel
theorem dX12_unlike_44 : decode cX12_unlike 44 = .ok (.getfield 329, 3) := by decide +kernel
theorem dX12_unlike_47 : decode cX12_unlike 47 = .ok (.ifCond .eq 7, 3) := by decide +kernel
theorem dX12_unlike_50 : decode cX12_unlike 50 = .ok (.iconst 0, 1) := by decide +kernel
theorem dX12_unlike_51 : decode cX12_unlike 51 = .ok (.goto 9, 3) := by decide +kernel
theorem dX12_unlike_54 : decode cX12_unlike 54 = .ok (.aload_n 0, 1) := by decide +kernel
theorem dX12_unlike_55 : decode cX12_unlike 55 = .ok (.getfield 44, 3) := by decide +kernel
theorem dX12_unlike_58 : decode cX12_unlike 58 = .ok (.iconst 0, 1) := by decide +kernel
theorem dX12_unlike_59 : decode cX12_unlike 59 = .ok (.iaload, 1) := by decide +kernel
theorem dX12_unlike_60 : decode cX12_unlike 60 = .ok (.istore 7, 2) := by decide +kernel
theorem dX12_unlike_62 : decode cX12_unlike 62 = .ok (.iload 4, 2) := by decide +kernel
theorem dX12_unlike_64 : decode cX12_unlike 64 = .ok (.iload 7, 2) := by decide +kernel
theorem dX12_unlike_66 : decode cX12_unlike 66 = .ok (.bipush 8, 2) := by decide +kernel
theorem dX12_unlike_68 : decode cX12_unlike 68 = .ok (.iadd, 1) := by decide +kernel
theorem dX12_unlike_69 : decode cX12_unlike 69 = .ok (.ishr, 1) := by decide +kernel
theorem dX12_unlike_70 : decode cX12_unlike 70 = .ok (.iconst 1, 1) := by decide +kernel
theorem dX12_unlike_71 : decode cX12_unlike 71 = .ok (.iand, 1) := by decide +kernel
theorem dX12_unlike_72 : decode cX12_unlike 72 = .ok (.ifCond .ne 6, 3) := by decide +kernel
theorem dX12_unlike_75 : decode cX12_unlike 75 = .ok (.iinc 5 1, 3) := by decide +kernel
theorem dX12_unlike_78 : decode cX12_unlike 78 = .ok (.iload 4, 2) := by decide +kernel
theorem dX12_unlike_80 : decode cX12_unlike 80 = .ok (.iconst 1, 1) := by decide +kernel
theorem dX12_unlike_81 : decode cX12_unlike 81 = .ok (.iload 7, 2) := by decide +kernel
theorem dX12_unlike_83 : decode cX12_unlike 83 = .ok (.bipush 8, 2) := by decide +kernel
theorem dX12_unlike_85 : decode cX12_unlike 85 = .ok (.iadd, 1) := by decide +kernel
theorem dX12_unlike_86 : decode cX12_unlike 86 = .ok (.ishl, 1) := by decide +kernel
theorem dX12_unlike_87 : decode cX12_unlike 87 = .ok (.ior, 1) := by decide +kernel
theorem dX12_unlike_88 : decode cX12_unlike 88 = .ok (.istore 4, 2) := by decide +kernel
theorem dX12_unlike_90 : decode cX12_unlike 90 = .ok (.iinc 6 1, 3) := by decide +kernel
theorem dX12_unlike_93 : decode cX12_unlike 93 = .ok (.goto (-84), 3) := by decide +kernel
theorem dX12_unlike_96 : decode cX12_unlike 96 = .ok (.iload 5, 2) := by decide +kernel
theorem dX12_unlike_98 : decode cX12_unlike 98 = .ok (.ireturn, 1) := by decide +kernel
theorem dX12_parts_0 : decode cX12_parts 0 = .ok (.iload_n 1, 1) := by decide +kernel
theorem dX12_parts_1 : decode cX12_parts 1 = .ok (.iconst 0, 1) := by decide +kernel
theorem dX12_parts_2 : decode cX12_parts 2 = .ok (.aload_n 0, 1) := by decide +kernel
theorem dX12_parts_3 : decode cX12_parts 3 = .ok (.getfield 64, 3) := by decide +kernel
theorem dX12_parts_6 : decode cX12_parts 6 = .ok (.iconst 1, 1) := by decide +kernel
theorem dX12_parts_7 : decode cX12_parts 7 = .ok (.isub, 1) := by decide +kernel
theorem dX12_parts_8 : decode cX12_parts 8 = .ok (.invokestatic 71, 3) := by decide +kernel
theorem dX12_parts_11 : decode cX12_parts 11 = .ok (.ifCond .eq 12, 3) := by decide +kernel
theorem dX12_parts_14 : decode cX12_parts 14 = .ok (.iload_n 2, 1) := by decide +kernel
theorem dX12_parts_15 : decode cX12_parts 15 = .ok (.iconst 0, 1) := by decide +kernel
theorem dX12_parts_16 : decode cX12_parts 16 = .ok (.iconst 2, 1) := by decide +kernel
theorem dX12_parts_17 : decode cX12_parts 17 = .ok (.invokestatic 71, 3) := by decide +kernel
theorem dX12_parts_20 : decode cX12_parts 20 = .ok (.ifCond .ne 5, 3) := by decide +kernel
theorem dX12_parts_23 : decode cX12_parts 23 = .ok (.iconst (-1), 1) := by decide +kernel
theorem dX12_parts_24 : decode cX12_parts 24 = .ok (.ireturn, 1) := by decide +kernel
theorem dX12_parts_25 : decode cX12_parts 25 = .ok (.iconst 0, 1) := by decide +kernel
theorem dX12_parts_26 : decode cX12_parts 26 = .ok (.istore_n 3, 1) := by decide +kernel
theorem dX12_parts_27 : decode cX12_parts 27 = .ok (.iload_n 3, 1) := by decide +kernel
theorem dX12_parts_28 : decode cX12_parts 28 = .ok (.aload_n 0, 1) := by decide +kernel
theorem dX12_parts_29 : decode cX12_parts 29 = .ok (.getfield 7, 3) := by decide +kernel
theorem dX12_parts_32 : decode cX12_parts 32 = .ok (.iconst 3, 1) := by decide +kernel
theorem dX12_parts_33 : decode cX12_parts 33 = .ok (.iaload, 1) := by decide +kernel
theorem dX12_parts_34 : decode cX12_parts 34 = .ok (.if_icmp .ge 20, 3) := by decide +kernel
theorem dX12_parts_37 : decode cX12_parts 37 = .ok (.aload_n 0, 1) := by decide +kernel
theorem dX12_parts_38 : decode cX12_parts 38 = .ok (.getfield 58, 3) := by decide +kernel
theorem dX12_parts_41 : decode cX12_parts 41 = .ok (.iload_n 3, 1) := by decide +kernel
theorem dX12_parts_42 : decode cX12_parts 42 = .ok (.aload_n 0, 1) := by decide +kernel
theorem dX12_parts_43 : decode cX12_parts 43 = .ok (.iload_n 3, 1) := by decide +kernel
theorem dX12_parts_44 : decode cX12_parts 44 = .ok (.invokevirtual 350, 3) := by decide +kernel
theorem dX12_parts_47 : decode cX12_parts 47 = .ok (.bastore, 1) := by decide +kernel
theorem dX12_parts_48 : decode cX12_parts 48 = .ok (.iinc 3 1, 3) := by decide +kernel
theorem dX12_parts_51 : decode cX12_parts 51 = .ok (.goto (-24), 3) := by decide +kernel
theorem dX12_parts_54 : decode cX12_parts 54 = .ok (.aload_n 0, 1) := by decide +kernel
theorem dX12_parts_55 : decode cX12_parts 55 = .ok (.ldc2_w 343, 3) := by decide +kernel
theorem dX12_parts_58 : decode cX12_parts 58 = .ok (.putfield 274, 3) := by decide +kernel
theorem dX12_parts_61 : decode cX12_parts 61 = .ok (.iconst 1, 1) := by decide +kernel
theorem dX12_parts_62 : decode cX12_parts 62 = .ok (.istore_n 3, 1) := by decide +kernel
theorem dX12_parts_63 : decode cX12_parts 63 = .ok (.iconst (-1), 1) := by decide +kernel
theorem dX12_parts_64 : decode cX12_parts 64 = .ok (.istore 4, 2) := by decide +kernel
theorem dX12_parts_66 : decode cX12_parts 66 = .ok (.iconst (-1), 1) := by decide +kernel
theorem dX12_parts_67 : decode cX12_parts 67 = .ok (.istore 5, 2) := by decide +kernel
theorem dX12_parts_69 : decode cX12_parts 69 = .ok (.iconst 0, 1) := by decide +kernel
theorem dX12_parts_70 : decode cX12_parts 70 = .ok (.istore 6, 2) := by decide +kernel
theorem dX12_parts_72 : decode cX12_parts 72 = .ok (.iload 6, 2) := by decide +kernel
theorem dX12_parts_74 : decode cX12_parts 74 = .ok (.aload_n 0, 1) := by decide +kernel
theorem dX12_parts_75 : decode cX12_parts 75 = .ok (.getfield 61, 3) := by decide +kernel
theorem dX12_parts_78 : decode cX12_parts 78 = .ok (.if_icmp .ge 96, 3) := by decide +kernel
theorem dX12_parts_81 : decode cX12_parts 81 = .ok (.iconst 0, 1) := by decide +kernel
theorem dX12_parts_82 : decode cX12_parts 82 = .ok (.istore 7, 2) := by decide +kernel
theorem dX12_parts_84 : decode cX12_parts 84 = .ok (.iload 7, 2) := by decide +kernel
theorem dX12_parts_86 : decode cX12_parts 86 = .ok (.bipush 64, 2) := by decide +kernel
theorem dX12_parts_88 : decode cX12_parts 88 = .ok (.if_icmp .ge 80, 3) := by decide +kernel
theorem dX12_parts_91 : decode cX12_parts 91 = .ok (.aload_n 0, 1) := by decide +kernel
theorem dX12_parts_92 : decode cX12_parts 92 = .ok (.bipush 16, 2) := by decide +kernel
theorem dX12_parts_94 : decode cX12_parts 94 = .ok (.iload 6, 2) := by decide +kernel
theorem dX12_parts_96 : decode cX12_parts 96 = .ok (.imul, 1) := by decide +kernel
theorem dX12_parts_97 : decode cX12_parts 97 = .ok (.bipush 8, 2) := by decide +kernel
theorem dX12_parts_99 : decode cX12_parts 99 = .ok (.iadd, 1) := by decide +kernel
theorem dX12_parts_100 : decode cX12_parts 100 = .ok (.bipush 16, 2) := by decide +kernel
theorem dX12_parts_102 : decode cX12_parts 102 = .ok (.iload_n 1, 1) := by decide +kernel
theorem dX12_parts_103 : decode cX12_parts 103 = .ok (.imul, 1) := by decide +kernel
theorem dX12_parts_104 : decode cX12_parts 104 = .ok (.bipush 8, 2) := by decide +kernel
theorem dX12_parts_106 : decode cX12_parts 106 = .ok (.iadd, 1) := by decide +kernel
theorem dX12_parts_107 : decode cX12_parts 107 = .ok (.invokevirtual 340, 3) := by decide +kernel
theorem dX12_parts_110 : decode cX12_parts 110 = .ok (.ifCond .eq 58, 3) := by decide +kernel
theorem dX12_parts_113 : decode cX12_parts 113 = .ok (.aload_n 0, 1) := by decide +kernel
theorem dX12_parts_114 : decode cX12_parts 114 = .ok (.bipush 16, 2) := by decide +kernel
theorem dX12_parts_116 : decode cX12_parts 116 = .ok (.iload 6, 2) := by decide +kernel
theorem dX12_parts_118 : decode cX12_parts 118 = .ok (.imul, 1) := by decide +kernel
theorem dX12_parts_119 : decode cX12_parts 119 = .ok (.bipush 8, 2) := by decide +kernel
theorem dX12_parts_121 : decode cX12_parts 121 = .ok (.iadd, 1) := by decide +kernel
theorem dX12_parts_122 : decode cX12_parts 122 = .ok (.bipush 16, 2) := by decide +kernel
theorem dX12_parts_124 : decode cX12_parts 124 = .ok (.iload_n 1, 1) := by decide +kernel
theorem dX12_parts_125 : decode cX12_parts 125 = .ok (.imul, 1) := by decide +kernel
theorem dX12_parts_126 : decode cX12_parts 126 = .ok (.bipush 8, 2) := by decide +kernel
theorem dX12_parts_128 : decode cX12_parts 128 = .ok (.iadd, 1) := by decide +kernel
theorem dX12_parts_129 : decode cX12_parts 129 = .ok (.iload 7, 2) := by decide +kernel
theorem dX12_parts_131 : decode cX12_parts 131 = .ok (.invokevirtual 353, 3) := by decide +kernel
theorem dX12_parts_134 : decode cX12_parts 134 = .ok (.istore 8, 2) := by decide +kernel
theorem dX12_parts_136 : decode cX12_parts 136 = .ok (.iload 8, 2) := by decide +kernel
theorem dX12_parts_138 : decode cX12_parts 138 = .ok (.iload_n 3, 1) := by decide +kernel
theorem dX12_parts_139 : decode cX12_parts 139 = .ok (.if_icmp .gt 6, 3) := by decide +kernel
theorem dX12_parts_142 : decode cX12_parts 142 = .ok (.goto 20, 3) := by decide +kernel
theorem dX12_parts_145 : decode cX12_parts 145 = .ok (.iload 8, 2) := by decide +kernel
theorem dX12_parts_147 : decode cX12_parts 147 = .ok (.istore_n 3, 1) := by decide +kernel
theorem dX12_parts_148 : decode cX12_parts 148 = .ok (.bipush 16, 2) := by decide +kernel
theorem dX12_parts_150 : decode cX12_parts 150 = .ok (.iload 6, 2) := by decide +kernel
theorem dX12_parts_152 : decode cX12_parts 152 = .ok (.imul, 1) := by decide +kernel
theorem dX12_parts_153 : decode cX12_parts 153 = .ok (.bipush 8, 2) := by decide +kernel
theorem dX12_parts_155 : decode cX12_parts 155 = .ok (.iadd, 1) := by decide +kernel
theorem dX12_parts_156 : decode cX12_parts 156 = .ok (.istore 4, 2) := by decide +kernel
theorem dX12_parts_158 : decode cX12_parts 158 = .ok (.iload 7, 2) := by decide +kernel
theorem dX12_parts_160 : decode cX12_parts 160 = .ok (.istore 5, 2) := by decide +kernel
theorem dX12_parts_162 : decode cX12_parts 162 = .ok (.iinc 7 8, 3) := by decide +kernel
theorem dX12_parts_165 : decode cX12_parts 165 = .ok (.goto (-81), 3) := by decide +kernel
theorem dX12_parts_168 : decode cX12_parts 168 = .ok (.iinc 6 1, 3) := by decide +kernel
theorem dX12_parts_171 : decode cX12_parts 171 = .ok (.goto (-99), 3) := by decide +kernel
theorem dX12_parts_174 : decode cX12_parts 174 = .ok (.iload 4, 2) := by decide +kernel
theorem dX12_parts_176 : decode cX12_parts 176 = .ok (.ifCond .ge 7, 3) := by decide +kernel
theorem dX12_parts_179 : decode cX12_parts 179 = .ok (.iconst (-1), 1) := by decide +kernel
theorem dX12_parts_180 : decode cX12_parts 180 = .ok (.goto 23, 3) := by decide +kernel
theorem dX12_parts_183 : decode cX12_parts 183 = .ok (.iload_n 2, 1) := by decide +kernel
theorem dX12_parts_184 : decode cX12_parts 184 = .ok (.ifCond .ne 8, 3) := by decide +kernel
theorem dX12_parts_187 : decode cX12_parts 187 = .ok (.iload 4, 2) := by decide +kernel
theorem dX12_parts_189 : decode cX12_parts 189 = .ok (.goto 14, 3) := by decide +kernel
theorem dX12_parts_192 : decode cX12_parts 192 = .ok (.iload_n 2, 1) := by decide +kernel
theorem dX12_parts_193 : decode cX12_parts 193 = .ok (.iconst 1, 1) := by decide +kernel
theorem dX12_parts_194 : decode cX12_parts 194 = .ok (.if_icmp .ne 8, 3) := by decide +kernel
theorem dX12_parts_197 : decode cX12_parts 197 = .ok (.iload 5, 2) := by decide +kernel
theorem dX12_parts_199 : decode cX12_parts 199 = .ok (.goto 4, 3) := by decide +kernel
theorem dX12_parts_202 : decode cX12_parts 202 = .ok (.iload_n 3, 1) := by decide +kernel
theorem dX12_parts_203 : decode cX12_parts 203 = .ok (.ireturn, 1) := by decide +kernel
theorem dX12_image_0 : decode cX12_image 0 = .ok (.aload_n 0, 1) := by decide +kernel
theorem dX12_image_1 : decode cX12_image 1 = .ok (.getfield 7, 3) := by decide +kernel
theorem dX12_image_4 : decode cX12_image 4 = .ok (.aload_n 0, 1) := by decide +kernel
theorem dX12_image_5 : decode cX12_image 5 = .ok (.getfield 13, 3) := by decide +kernel
theorem dX12_image_8 : decode cX12_image 8 = .ok (.invokestatic 67, 3) := by decide +kernel
theorem dX12_image_11 : decode cX12_image 11 = .ok (.aload_n 0, 1) := by decide +kernel
theorem dX12_image_12 : decode cX12_image 12 = .ok (.getfield 7, 3) := by decide +kernel
theorem dX12_image_15 : decode cX12_image 15 = .ok (.iconst 3, 1) := by decide +kernel
theorem dX12_image_16 : decode cX12_image 16 = .ok (.iaload, 1) := by decide +kernel
theorem dX12_image_17 : decode cX12_image 17 = .ok (.ireturn, 1) := by decide +kernel
theorem dX12_back_0 : decode cX12_back 0 = .ok (.aload_n 0, 1) := by decide +kernel
theorem dX12_back_1 : decode cX12_back 1 = .ok (.getfield 13, 3) := by decide +kernel
theorem dX12_back_4 : decode cX12_back 4 = .ok (.aload_n 0, 1) := by decide +kernel
theorem dX12_back_5 : decode cX12_back 5 = .ok (.getfield 7, 3) := by decide +kernel
theorem dX12_back_8 : decode cX12_back 8 = .ok (.invokestatic 67, 3) := by decide +kernel
theorem dX12_back_11 : decode cX12_back 11 = .ok (.aload_n 0, 1) := by decide +kernel
theorem dX12_back_12 : decode cX12_back 12 = .ok (.getfield 7, 3) := by decide +kernel
theorem dX12_back_15 : decode cX12_back 15 = .ok (.iconst 3, 1) := by decide +kernel
theorem dX12_back_16 : decode cX12_back 16 = .ok (.iaload, 1) := by decide +kernel
theorem dX12_back_17 : decode cX12_back 17 = .ok (.ireturn, 1) := by decide +kernel
theorem dX12_about_0 : decode cX12_about 0 = .ok (.iload_n 1, 1) := by decide +kernel
theorem dX12_about_1 : decode cX12_about 1 = .ok (.tableswitch 146 0 8 #[51, 56, 61, 68, 75, 82, 89, 96, 101], 51) := by decide +kernel
theorem dX12_about_52 : decode cX12_about 52 = .ok (.aload_n 0, 1) := by decide +kernel
theorem dX12_about_53 : decode cX12_about 53 = .ok (.getfield 61, 3) := by decide +kernel
theorem dX12_about_56 : decode cX12_about 56 = .ok (.ireturn, 1) := by decide +kernel
theorem dX12_about_57 : decode cX12_about 57 = .ok (.aload_n 0, 1) := by decide +kernel
theorem dX12_about_58 : decode cX12_about 58 = .ok (.getfield 64, 3) := by decide +kernel
theorem dX12_about_61 : decode cX12_about 61 = .ok (.ireturn, 1) := by decide +kernel
theorem dX12_about_62 : decode cX12_about 62 = .ok (.aload_n 0, 1) := by decide +kernel
theorem dX12_about_63 : decode cX12_about 63 = .ok (.getfield 7, 3) := by decide +kernel
theorem dX12_about_66 : decode cX12_about 66 = .ok (.iconst 0, 1) := by decide +kernel
theorem dX12_about_67 : decode cX12_about 67 = .ok (.iaload, 1) := by decide +kernel
