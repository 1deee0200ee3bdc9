theorem dX12_init_141 : decode cX12_init 141 = .ok (.iconst 4, 1) := by decide +kernel
theorem dX12_init_142 : decode cX12_init 142 = .ok (.goto 15, 3) := by decide +kernel
theorem dX12_init_145 : decode cX12_init 145 = .ok (.iload_n 1, 1) := by decide +kernel
theorem dX12_init_146 : decode cX12_init 146 = .ok (.bipush 24, 2) := by decide +kernel
theorem dX12_init_148 : decode cX12_init 148 = .ok (.if_icmp .le 8, 3) := by decide +kernel
theorem dX12_init_151 : decode cX12_init 151 = .ok (.bipush 24, 2) := by decide +kernel
theorem dX12_init_153 : decode cX12_init 153 = .ok (.goto 4, 3) := by decide +kernel
theorem dX12_init_156 : decode cX12_init 156 = .ok (.iload_n 1, 1) := by decide +kernel
theorem dX12_init_157 : decode cX12_init 157 = .ok (.putfield 61, 3) := by decide +kernel
theorem dX12_init_160 : decode cX12_init 160 = .ok (.aload_n 0, 1) := by decide +kernel
theorem dX12_init_161 : decode cX12_init 161 = .ok (.iload_n 2, 1) := by decide +kernel
theorem dX12_init_162 : decode cX12_init 162 = .ok (.iconst 4, 1) := by decide +kernel
theorem dX12_init_163 : decode cX12_init 163 = .ok (.if_icmp .ge 7, 3) := by decide +kernel
theorem dX12_init_166 : decode cX12_init 166 = .ok (.iconst 4, 1) := by decide +kernel
theorem dX12_init_167 : decode cX12_init 167 = .ok (.goto 15, 3) := by decide +kernel
theorem dX12_init_170 : decode cX12_init 170 = .ok (.iload_n 2, 1) := by decide +kernel
theorem dX12_init_171 : decode cX12_init 171 = .ok (.bipush 24, 2) := by decide +kernel
theorem dX12_init_173 : decode cX12_init 173 = .ok (.if_icmp .le 8, 3) := by decide +kernel
theorem dX12_init_176 : decode cX12_init 176 = .ok (.bipush 24, 2) := by decide +kernel
theorem dX12_init_178 : decode cX12_init 178 = .ok (.goto 4, 3) := by decide +kernel
theorem dX12_init_181 : decode cX12_init 181 = .ok (.iload_n 2, 1) := by decide +kernel
theorem dX12_init_182 : decode cX12_init 182 = .ok (.putfield 64, 3) := by decide +kernel
theorem dX12_init_185 : decode cX12_init 185 = .ok (.aload_n 0, 1) := by decide +kernel
theorem dX12_init_186 : decode cX12_init 186 = .ok (.getfield 7, 3) := by decide +kernel
theorem dX12_init_189 : decode cX12_init 189 = .ok (.sipush 880, 3) := by decide +kernel
theorem dX12_init_192 : decode cX12_init 192 = .ok (.iconst (-1), 1) := by decide +kernel
theorem dX12_init_193 : decode cX12_init 193 = .ok (.iastore, 1) := by decide +kernel
theorem dX12_init_194 : decode cX12_init 194 = .ok (.aload_n 0, 1) := by decide +kernel
theorem dX12_init_195 : decode cX12_init 195 = .ok (.getfield 7, 3) := by decide +kernel
theorem dX12_init_198 : decode cX12_init 198 = .ok (.aload_n 0, 1) := by decide +kernel
theorem dX12_init_199 : decode cX12_init 199 = .ok (.getfield 13, 3) := by decide +kernel
theorem dX12_init_202 : decode cX12_init 202 = .ok (.invokestatic 67, 3) := by decide +kernel
theorem dX12_init_205 : decode cX12_init 205 = .ok (.return_, 1) := by decide +kernel
theorem dX12_copy_0 : decode cX12_copy 0 = .ok (.iconst 0, 1) := by decide +kernel
theorem dX12_copy_1 : decode cX12_copy 1 = .ok (.istore_n 2, 1) := by decide +kernel
theorem dX12_copy_2 : decode cX12_copy 2 = .ok (.iload_n 2, 1) := by decide +kernel
theorem dX12_copy_3 : decode cX12_copy 3 = .ok (.sipush 3170, 3) := by decide +kernel
theorem dX12_copy_6 : decode cX12_copy 6 = .ok (.if_icmp .ge 15, 3) := by decide +kernel
theorem dX12_copy_9 : decode cX12_copy 9 = .ok (.aload_n 1, 1) := by decide +kernel
theorem dX12_copy_10 : decode cX12_copy 10 = .ok (.iload_n 2, 1) := by decide +kernel
theorem dX12_copy_11 : decode cX12_copy 11 = .ok (.aload_n 0, 1) := by decide +kernel
theorem dX12_copy_12 : decode cX12_copy 12 = .ok (.iload_n 2, 1) := by decide +kernel
theorem dX12_copy_13 : decode cX12_copy 13 = .ok (.iaload, 1) := by decide +kernel
theorem dX12_copy_14 : decode cX12_copy 14 = .ok (.iastore, 1) := by decide +kernel
theorem dX12_copy_15 : decode cX12_copy 15 = .ok (.iinc 2 1, 3) := by decide +kernel
theorem dX12_copy_18 : decode cX12_copy 18 = .ok (.goto (-16), 3) := by decide +kernel
theorem dX12_copy_21 : decode cX12_copy 21 = .ok (.return_, 1) := by decide +kernel
theorem dX12_isIn_0 : decode cX12_isIn 0 = .ok (.iload_n 0, 1) := by decide +kernel
theorem dX12_isIn_1 : decode cX12_isIn 1 = .ok (.iload_n 1, 1) := by decide +kernel
theorem dX12_isIn_2 : decode cX12_isIn 2 = .ok (.if_icmp .lt 12, 3) := by decide +kernel
theorem dX12_isIn_5 : decode cX12_isIn 5 = .ok (.iload_n 0, 1) := by decide +kernel
theorem dX12_isIn_6 : decode cX12_isIn 6 = .ok (.iload_n 2, 1) := by decide +kernel
theorem dX12_isIn_7 : decode cX12_isIn 7 = .ok (.if_icmp .gt 7, 3) := by decide +kernel
theorem dX12_isIn_10 : decode cX12_isIn 10 = .ok (.iconst 1, 1) := by decide +kernel
theorem dX12_isIn_11 : decode cX12_isIn 11 = .ok (.goto 4, 3) := by decide +kernel
theorem dX12_isIn_14 : decode cX12_isIn 14 = .ok (.iconst 0, 1) := by decide +kernel
theorem dX12_isIn_15 : decode cX12_isIn 15 = .ok (.ireturn, 1) := by decide +kernel
theorem dX12_isCell_0 : decode cX12_isCell 0 = .ok (.iload_n 1, 1) := by decide +kernel
theorem dX12_isCell_1 : decode cX12_isCell 1 = .ok (.iconst 0, 1) := by decide +kernel
theorem dX12_isCell_2 : decode cX12_isCell 2 = .ok (.aload_n 0, 1) := by decide +kernel
theorem dX12_isCell_3 : decode cX12_isCell 3 = .ok (.getfield 61, 3) := by decide +kernel
theorem dX12_isCell_6 : decode cX12_isCell 6 = .ok (.aload_n 0, 1) := by decide +kernel
theorem dX12_isCell_7 : decode cX12_isCell 7 = .ok (.getfield 64, 3) := by decide +kernel
theorem dX12_isCell_10 : decode cX12_isCell 10 = .ok (.imul, 1) := by decide +kernel
theorem dX12_isCell_11 : decode cX12_isCell 11 = .ok (.iconst 1, 1) := by decide +kernel
theorem dX12_isCell_12 : decode cX12_isCell 12 = .ok (.isub, 1) := by decide +kernel
theorem dX12_isCell_13 : decode cX12_isCell 13 = .ok (.invokestatic 71, 3) := by decide +kernel
theorem dX12_isCell_16 : decode cX12_isCell 16 = .ok (.ireturn, 1) := by decide +kernel
theorem dX12_isSide_0 : decode cX12_isSide 0 = .ok (.iload_n 0, 1) := by decide +kernel
theorem dX12_isSide_1 : decode cX12_isSide 1 = .ok (.iconst 0, 1) := by decide +kernel
theorem dX12_isSide_2 : decode cX12_isSide 2 = .ok (.bipush 63, 2) := by decide +kernel
theorem dX12_isSide_4 : decode cX12_isSide 4 = .ok (.invokestatic 71, 3) := by decide +kernel
theorem dX12_isSide_7 : decode cX12_isSide 7 = .ok (.ireturn, 1) := by decide +kernel
theorem dX12_isTick_0 : decode cX12_isTick 0 = .ok (.iload_n 0, 1) := by decide +kernel
theorem dX12_isTick_1 : decode cX12_isTick 1 = .ok (.iconst 0, 1) := by decide +kernel
theorem dX12_isTick_2 : decode cX12_isTick 2 = .ok (.sipush 999, 3) := by decide +kernel
theorem dX12_isTick_5 : decode cX12_isTick 5 = .ok (.invokestatic 71, 3) := by decide +kernel
theorem dX12_isTick_8 : decode cX12_isTick 8 = .ok (.ireturn, 1) := by decide +kernel
theorem dX12_isPlace_0 : decode cX12_isPlace 0 = .ok (.iload_n 1, 1) := by decide +kernel
theorem dX12_isPlace_1 : decode cX12_isPlace 1 = .ok (.iconst 0, 1) := by decide +kernel
theorem dX12_isPlace_2 : decode cX12_isPlace 2 = .ok (.bipush 16, 2) := by decide +kernel
theorem dX12_isPlace_4 : decode cX12_isPlace 4 = .ok (.aload_n 0, 1) := by decide +kernel
theorem dX12_isPlace_5 : decode cX12_isPlace 5 = .ok (.getfield 61, 3) := by decide +kernel
theorem dX12_isPlace_8 : decode cX12_isPlace 8 = .ok (.imul, 1) := by decide +kernel
theorem dX12_isPlace_9 : decode cX12_isPlace 9 = .ok (.iconst 1, 1) := by decide +kernel
theorem dX12_isPlace_10 : decode cX12_isPlace 10 = .ok (.isub, 1) := by decide +kernel
theorem dX12_isPlace_11 : decode cX12_isPlace 11 = .ok (.invokestatic 71, 3) := by decide +kernel
theorem dX12_isPlace_14 : decode cX12_isPlace 14 = .ok (.ifCond .eq 24, 3) := by decide +kernel
theorem dX12_isPlace_17 : decode cX12_isPlace 17 = .ok (.iload_n 2, 1) := by decide +kernel
theorem dX12_isPlace_18 : decode cX12_isPlace 18 = .ok (.iconst 0, 1) := by decide +kernel
theorem dX12_isPlace_19 : decode cX12_isPlace 19 = .ok (.bipush 16, 2) := by decide +kernel
theorem dX12_isPlace_21 : decode cX12_isPlace 21 = .ok (.aload_n 0, 1) := by decide +kernel
theorem dX12_isPlace_22 : decode cX12_isPlace 22 = .ok (.getfield 64, 3) := by decide +kernel
theorem dX12_isPlace_25 : decode cX12_isPlace 25 = .ok (.imul, 1) := by decide +kernel
theorem dX12_isPlace_26 : decode cX12_isPlace 26 = .ok (.iconst 1, 1) := by decide +kernel
theorem dX12_isPlace_27 : decode cX12_isPlace 27 = .ok (.isub, 1) := by decide +kernel
theorem dX12_isPlace_28 : decode cX12_isPlace 28 = .ok (.invokestatic 71, 3) := by decide +kernel
theorem dX12_isPlace_31 : decode cX12_isPlace 31 = .ok (.ifCond .eq 7, 3) := by decide +kernel
theorem dX12_isPlace_34 : decode cX12_isPlace 34 = .ok (.iconst 1, 1) := by decide +kernel
theorem dX12_isPlace_35 : decode cX12_isPlace 35 = .ok (.goto 4, 3) := by decide +kernel
theorem dX12_isPlace_38 : decode cX12_isPlace 38 = .ok (.iconst 0, 1) := by decide +kernel
theorem dX12_isPlace_39 : decode cX12_isPlace 39 = .ok (.ireturn, 1) := by decide +kernel
theorem dX12_abs_0 : decode cX12_abs 0 = .ok (.iload_n 0, 1) := by decide +kernel
theorem dX12_abs_1 : decode cX12_abs 1 = .ok (.ifCond .ge 8, 3) := by decide +kernel
theorem dX12_abs_4 : decode cX12_abs 4 = .ok (.iload_n 0, 1) := by decide +kernel
theorem dX12_abs_5 : decode cX12_abs 5 = .ok (.ineg, 1) := by decide +kernel
theorem dX12_abs_6 : decode cX12_abs 6 = .ok (.goto 4, 3) := by decide +kernel
theorem dX12_abs_9 : decode cX12_abs 9 = .ok (.iload_n 0, 1) := by decide +kernel
theorem dX12_abs_10 : decode cX12_abs 10 = .ok (.ireturn, 1) := by decide +kernel
theorem dX12_floor_0 : decode cX12_floor 0 = .ok (.iload_n 0, 1) := by decide +kernel
theorem dX12_floor_1 : decode cX12_floor 1 = .ok (.ifCond .lt 9, 3) := by decide +kernel
theorem dX12_floor_4 : decode cX12_floor 4 = .ok (.iload_n 0, 1) := by decide +kernel
theorem dX12_floor_5 : decode cX12_floor 5 = .ok (.iload_n 1, 1) := by decide +kernel
theorem dX12_floor_6 : decode cX12_floor 6 = .ok (.idiv, 1) := by decide +kernel
theorem dX12_floor_7 : decode cX12_floor 7 = .ok (.goto 11, 3) := by decide +kernel
theorem dX12_floor_10 : decode cX12_floor 10 = .ok (.iload_n 1, 1) := by decide +kernel
theorem dX12_floor_11 : decode cX12_floor 11 = .ok (.iconst 1, 1) := by decide +kernel
theorem dX12_floor_12 : decode cX12_floor 12 = .ok (.isub, 1) := by decide +kernel
theorem dX12_floor_13 : decode cX12_floor 13 = .ok (.iload_n 0, 1) := by decide +kernel
theorem dX12_floor_14 : decode cX12_floor 14 = .ok (.isub, 1) := by decide +kernel
theorem dX12_floor_15 : decode cX12_floor 15 = .ok (.iload_n 1, 1) := by decide +kernel
theorem dX12_floor_16 : decode cX12_floor 16 = .ok (.idiv, 1) := by decide +kernel
theorem dX12_floor_17 : decode cX12_floor 17 = .ok (.ineg, 1) := by decide +kernel
theorem dX12_floor_18 : decode cX12_floor 18 = .ok (.ireturn, 1) := by decide +kernel
theorem dX12_mark_0 : decode cX12_mark 0 = .ok (.aload_n 0, 1) := by decide +kernel
theorem dX12_mark_1 : decode cX12_mark 1 = .ok (.iload_n 1, 1) := by decide +kernel
theorem dX12_mark_2 : decode cX12_mark 2 = .ok (.invokevirtual 75, 3) := by decide +kernel
theorem dX12_mark_5 : decode cX12_mark 5 = .ok (.ifCond .eq 14, 3) := by decide +kernel
theorem dX12_mark_8 : decode cX12_mark 8 = .ok (.iload_n 2, 1) := by decide +kernel
theorem dX12_mark_9 : decode cX12_mark 9 = .ok (.iconst 0, 1) := by decide +kernel
theorem dX12_mark_10 : decode cX12_mark 10 = .ok (.sipush 255, 3) := by decide +kernel
theorem dX12_mark_13 : decode cX12_mark 13 = .ok (.invokestatic 71, 3) := by decide +kernel
theorem dX12_mark_16 : decode cX12_mark 16 = .ok (.ifCond .ne 5, 3) := by decide +kernel
theorem dX12_mark_19 : decode cX12_mark 19 = .ok (.iconst 0, 1) := by decide +kernel
theorem dX12_mark_20 : decode cX12_mark 20 = .ok (.ireturn, 1) := by decide +kernel
theorem dX12_mark_21 : decode cX12_mark 21 = .ok (.aload_n 0, 1) := by decide +kernel
theorem dX12_mark_22 : decode cX12_mark 22 = .ok (.getfield 7, 3) := by decide +kernel
theorem dX12_mark_25 : decode cX12_mark 25 = .ok (.bipush 10, 2) := by decide +kernel
theorem dX12_mark_27 : decode cX12_mark 27 = .ok (.iload_n 1, 1) := by decide +kernel
theorem dX12_mark_28 : decode cX12_mark 28 = .ok (.iadd, 1) := by decide +kernel
theorem dX12_mark_29 : decode cX12_mark 29 = .ok (.iload_n 2, 1) := by decide +kernel
theorem dX12_mark_30 : decode cX12_mark 30 = .ok (.iastore, 1) := by decide +kernel
theorem dX12_mark_31 : decode cX12_mark 31 = .ok (.iconst 1, 1) := by decide +kernel
theorem dX12_mark_32 : decode cX12_mark 32 = .ok (.ireturn, 1) := by decide +kernel
theorem dX12_body_0 : decode cX12_body 0 = .ok (.aload_n 0, 1) := by decide +kernel
theorem dX12_body_1 : decode cX12_body 1 = .ok (.iload_n 1, 1) := by decide +kernel
theorem dX12_body_2 : decode cX12_body 2 = .ok (.invokevirtual 75, 3) := by decide +kernel
theorem dX12_body_5 : decode cX12_body 5 = .ok (.ifCond .eq 46, 3) := by decide +kernel
theorem dX12_body_8 : decode cX12_body 8 = .ok (.iload_n 2, 1) := by decide +kernel
theorem dX12_body_9 : decode cX12_body 9 = .ok (.bipush (-2), 2) := by decide +kernel
theorem dX12_body_11 : decode cX12_body 11 = .ok (.iconst 2, 1) := by decide +kernel
theorem dX12_body_12 : decode cX12_body 12 = .ok (.invokestatic 71, 3) := by decide +kernel
theorem dX12_body_15 : decode cX12_body 15 = .ok (.ifCond .eq 36, 3) := by decide +kernel
theorem dX12_body_18 : decode cX12_body 18 = .ok (.iload_n 3, 1) := by decide +kernel
theorem dX12_body_19 : decode cX12_body 19 = .ok (.bipush (-2), 2) := by decide +kernel
theorem dX12_body_21 : decode cX12_body 21 = .ok (.iconst 2, 1) := by decide +kernel
theorem dX12_body_22 : decode cX12_body 22 = .ok (.invokestatic 71, 3) := by decide +kernel
theorem dX12_body_25 : decode cX12_body 25 = .ok (.ifCond .eq 26, 3) := by decide +kernel
theorem dX12_body_28 : decode cX12_body 28 = .ok (.iload 4, 2) := by decide +kernel
theorem dX12_body_30 : decode cX12_body 30 = .ok (.iconst 1, 1) := by decide +kernel
theorem dX12_body_31 : decode cX12_body 31 = .ok (.sipush 255, 3) := by decide +kernel
theorem dX12_body_34 : decode cX12_body 34 = .ok (.invokestatic 71, 3) := by decide +kernel
theorem dX12_body_37 : decode cX12_body 37 = .ok (.ifCond .eq 14, 3) := by decide +kernel
theorem dX12_body_40 : decode cX12_body 40 = .ok (.aload_n 0, 1) := by decide +kernel
theorem dX12_body_41 : decode cX12_body 41 = .ok (.getfield 7, 3) := by decide +kernel
theorem dX12_body_44 : decode cX12_body 44 = .ok (.iconst 0, 1) := by decide +kernel
theorem dX12_body_45 : decode cX12_body 45 = .ok (.iaload, 1) := by decide +kernel
theorem dX12_body_46 : decode cX12_body 46 = .ok (.bipush 6, 2) := by decide +kernel
theorem dX12_body_48 : decode cX12_body 48 = .ok (.if_icmp .ne 5, 3) := by decide +kernel
theorem dX12_body_51 : decode cX12_body 51 = .ok (.iconst (-1), 1) := by decide +kernel
theorem dX12_body_52 : decode cX12_body 52 = .ok (.ireturn, 1) := by decide +kernel
theorem dX12_body_53 : decode cX12_body 53 = .ok (.sipush 590, 3) := by decide +kernel
theorem dX12_body_56 : decode cX12_body 56 = .ok (.iconst 4, 1) := by decide +kernel
theorem dX12_body_57 : decode cX12_body 57 = .ok (.aload_n 0, 1) := by decide +kernel
theorem dX12_body_58 : decode cX12_body 58 = .ok (.getfield 7, 3) := by decide +kernel
theorem dX12_body_61 : decode cX12_body 61 = .ok (.iconst 0, 1) := by decide +kernel
theorem dX12_body_62 : decode cX12_body 62 = .ok (.iaload, 1) := by decide +kernel
theorem dX12_body_63 : decode cX12_body 63 = .ok (.imul, 1) := by decide +kernel
theorem dX12_body_64 : decode cX12_body 64 = .ok (.iadd, 1) := by decide +kernel
theorem dX12_body_65 : decode cX12_body 65 = .ok (.istore 5, 2) := by decide +kernel
theorem dX12_body_67 : decode cX12_body 67 = .ok (.aload_n 0, 1) := by decide +kernel
theorem dX12_body_68 : decode cX12_body 68 = .ok (.getfield 7, 3) := by decide +kernel
theorem dX12_body_71 : decode cX12_body 71 = .ok (.iload 5, 2) := by decide +kernel
theorem dX12_body_73 : decode cX12_body 73 = .ok (.iload_n 1, 1) := by decide +kernel
theorem dX12_body_74 : decode cX12_body 74 = .ok (.iastore, 1) := by decide +kernel
theorem dX12_body_75 : decode cX12_body 75 = .ok (.aload_n 0, 1) := by decide +kernel
theorem dX12_body_76 : decode cX12_body 76 = .ok (.getfield 7, 3) := by decide +kernel
theorem dX12_body_79 : decode cX12_body 79 = .ok (.iload 5, 2) := by decide +kernel
theorem dX12_body_81 : decode cX12_body 81 = .ok (.iconst 1, 1) := by decide +kernel
theorem dX12_body_82 : decode cX12_body 82 = .ok (.iadd, 1) := by decide +kernel
theorem dX12_body_83 : decode cX12_body 83 = .ok (.iload_n 2, 1) := by decide +kernel
theorem dX12_body_84 : decode cX12_body 84 = .ok (.iastore, 1) := by decide +kernel
theorem dX12_body_85 : decode cX12_body 85 = .ok (.aload_n 0, 1) := by decide +kernel
theorem dX12_body_86 : decode cX12_body 86 = .ok (.getfield 7, 3) := by decide +kernel
theorem dX12_body_89 : decode cX12_body 89 = .ok (.iload 5, 2) := by decide +kernel
theorem dX12_body_91 : decode cX12_body 91 = .ok (.iconst 2, 1) := by decide +kernel
theorem dX12_body_92 : decode cX12_body 92 = .ok (.iadd, 1) := by decide +kernel
theorem dX12_body_93 : decode cX12_body 93 = .ok (.iload_n 3, 1) := by decide +kernel
theorem dX12_body_94 : decode cX12_body 94 = .ok (.iastore, 1) := by decide +kernel
theorem dX12_body_95 : decode cX12_body 95 = .ok (.aload_n 0, 1) := by decide +kernel
theorem dX12_body_96 : decode cX12_body 96 = .ok (.getfield 7, 3) := by decide +kernel
theorem dX12_body_99 : decode cX12_body 99 = .ok (.iload 5, 2) := by decide +kernel
theorem dX12_body_101 : decode cX12_body 101 = .ok (.iconst 3, 1) := by decide +kernel
theorem dX12_body_102 : decode cX12_body 102 = .ok (.iadd, 1) := by decide +kernel
theorem dX12_body_103 : decode cX12_body 103 = .ok (.iload 4, 2) := by decide +kernel
theorem dX12_body_105 : decode cX12_body 105 = .ok (.iastore, 1) := by decide +kernel
theorem dX12_body_106 : decode cX12_body 106 = .ok (.aload_n 0, 1) := by decide +kernel
theorem dX12_body_107 : decode cX12_body 107 = .ok (.getfield 7, 3) := by decide +kernel
theorem dX12_body_110 : decode cX12_body 110 = .ok (.iconst 0, 1) := by decide +kernel
theorem dX12_body_111 : decode cX12_body 111 = .ok (.dup2, 1) := by decide +kernel
theorem dX12_body_112 : decode cX12_body 112 = .ok (.iaload, 1) := by decide +kernel
theorem dX12_body_113 : decode cX12_body 113 = .ok (.iconst 1, 1) := by decide +kernel
theorem dX12_body_114 : decode cX12_body 114 = .ok (.iadd, 1) := by decide +kernel
theorem dX12_body_115 : decode cX12_body 115 = .ok (.iastore, 1) := by decide +kernel
theorem dX12_body_116 : decode cX12_body 116 = .ok (.aload_n 0, 1) := by decide +kernel
theorem dX12_body_117 : decode cX12_body 117 = .ok (.getfield 7, 3) := by decide +kernel
theorem dX12_body_120 : decode cX12_body 120 = .ok (.iconst 0, 1) := by decide +kernel
theorem dX12_body_121 : decode cX12_body 121 = .ok (.iaload, 1) := by decide +kernel
theorem dX12_body_122 : decode cX12_body 122 = .ok (.iconst 1, 1) := by decide +kernel
theorem dX12_body_123 : decode cX12_body 123 = .ok (.isub, 1) := by decide +kernel
theorem dX12_body_124 : decode cX12_body 124 = .ok (.ireturn, 1) := by decide +kernel
theorem dX12_bodyAt_0 : decode cX12_bodyAt 0 = .ok (.aload_n 0, 1) := by decide +kernel
theorem dX12_bodyAt_1 : decode cX12_bodyAt 1 = .ok (.getfield 7, 3) := by decide +kernel
theorem dX12_bodyAt_4 : decode cX12_bodyAt 4 = .ok (.sipush 590, 3) := by decide +kernel
theorem dX12_bodyAt_7 : decode cX12_bodyAt 7 = .ok (.iconst 4, 1) := by decide +kernel
theorem dX12_bodyAt_8 : decode cX12_bodyAt 8 = .ok (.iload_n 1, 1) := by decide +kernel
theorem dX12_bodyAt_9 : decode cX12_bodyAt 9 = .ok (.imul, 1) := by decide +kernel
theorem dX12_bodyAt_10 : decode cX12_bodyAt 10 = .ok (.iadd, 1) := by decide +kernel
theorem dX12_bodyAt_11 : decode cX12_bodyAt 11 = .ok (.iaload, 1) := by decide +kernel
theorem dX12_bodyAt_12 : decode cX12_bodyAt 12 = .ok (.aload_n 0, 1) := by decide +kernel
theorem dX12_bodyAt_13 : decode cX12_bodyAt 13 = .ok (.getfield 61, 3) := by decide +kernel
theorem dX12_bodyAt_16 : decode cX12_bodyAt 16 = .ok (.irem, 1) := by decide +kernel
theorem dX12_bodyAt_17 : decode cX12_bodyAt 17 = .ok (.iload_n 2, 1) := by decide +kernel
theorem dX12_bodyAt_18 : decode cX12_bodyAt 18 = .ok (.aload_n 0, 1) := by decide +kernel
theorem dX12_bodyAt_19 : decode cX12_bodyAt 19 = .ok (.getfield 7, 3) := by decide +kernel
theorem dX12_bodyAt_22 : decode cX12_bodyAt 22 = .ok (.sipush 590, 3) := by decide +kernel
theorem dX12_bodyAt_25 : decode cX12_bodyAt 25 = .ok (.iconst 4, 1) := by decide +kernel
theorem dX12_bodyAt_26 : decode cX12_bodyAt 26 = .ok (.iload_n 1, 1) := by decide +kernel
theorem dX12_bodyAt_27 : decode cX12_bodyAt 27 = .ok (.imul, 1) := by decide +kernel
theorem dX12_bodyAt_28 : decode cX12_bodyAt 28 = .ok (.iadd, 1) := by decide +kernel
theorem dX12_bodyAt_29 : decode cX12_bodyAt 29 = .ok (.iconst 1, 1) := by decide +kernel
theorem dX12_bodyAt_30 : decode cX12_bodyAt 30 = .ok (.iadd, 1) := by decide +kernel
theorem dX12_bodyAt_31 : decode cX12_bodyAt 31 = .ok (.iaload, 1) := by decide +kernel
theorem dX12_bodyAt_32 : decode cX12_bodyAt 32 = .ok (.imul, 1) := by decide +kernel
theorem dX12_bodyAt_33 : decode cX12_bodyAt 33 = .ok (.iadd, 1) := by decide +kernel
theorem dX12_bodyAt_34 : decode cX12_bodyAt 34 = .ok (.istore_n 3, 1) := by decide +kernel
theorem dX12_bodyAt_35 : decode cX12_bodyAt 35 = .ok (.aload_n 0, 1) := by decide +kernel
theorem dX12_bodyAt_36 : decode cX12_bodyAt 36 = .ok (.getfield 7, 3) := by decide +kernel
theorem dX12_bodyAt_39 : decode cX12_bodyAt 39 = .ok (.sipush 590, 3) := by decide +kernel
theorem dX12_bodyAt_42 : decode cX12_bodyAt 42 = .ok (.iconst 4, 1) := by decide +kernel
theorem dX12_bodyAt_43 : decode cX12_bodyAt 43 = .ok (.iload_n 1, 1) := by decide +kernel
theorem dX12_bodyAt_44 : decode cX12_bodyAt 44 = .ok (.imul, 1) := by decide +kernel
theorem dX12_bodyAt_45 : decode cX12_bodyAt 45 = .ok (.iadd, 1) := by decide +kernel
theorem dX12_bodyAt_46 : decode cX12_bodyAt 46 = .ok (.iaload, 1) := by decide +kernel
theorem dX12_bodyAt_47 : decode cX12_bodyAt 47 = .ok (.aload_n 0, 1) := by decide +kernel
theorem dX12_bodyAt_48 : decode cX12_bodyAt 48 = .ok (.getfield 61, 3) := by decide +kernel
theorem dX12_bodyAt_51 : decode cX12_bodyAt 51 = .ok (.idiv, 1) := by decide +kernel
theorem dX12_bodyAt_52 : decode cX12_bodyAt 52 = .ok (.iload_n 2, 1) := by decide +kernel
theorem dX12_bodyAt_53 : decode cX12_bodyAt 53 = .ok (.aload_n 0, 1) := by decide +kernel
theorem dX12_bodyAt_54 : decode cX12_bodyAt 54 = .ok (.getfield 7, 3) := by decide +kernel
theorem dX12_bodyAt_57 : decode cX12_bodyAt 57 = .ok (.sipush 590, 3) := by decide +kernel
theorem dX12_bodyAt_60 : decode cX12_bodyAt 60 = .ok (.iconst 4, 1) := by decide +kernel
theorem dX12_bodyAt_61 : decode cX12_bodyAt 61 = .ok (.iload_n 1, 1) := by decide +kernel
theorem dX12_bodyAt_62 : decode cX12_bodyAt 62 = .ok (.imul, 1) := by decide +kernel
theorem dX12_bodyAt_63 : decode cX12_bodyAt 63 = .ok (.iadd, 1) := by decide +kernel
theorem dX12_bodyAt_64 : decode cX12_bodyAt 64 = .ok (.iconst 2, 1) := by decide +kernel
theorem dX12_bodyAt_65 : decode cX12_bodyAt 65 = .ok (.iadd, 1) := by decide +kernel
theorem dX12_bodyAt_66 : decode cX12_bodyAt 66 = .ok (.iaload, 1) := by decide +kernel
theorem dX12_bodyAt_67 : decode cX12_bodyAt 67 = .ok (.imul, 1) := by decide +kernel
theorem dX12_bodyAt_68 : decode cX12_bodyAt 68 = .ok (.iadd, 1) := by decide +kernel
theorem dX12_bodyAt_69 : decode cX12_bodyAt 69 = .ok (.istore 4, 2) := by decide +kernel
theorem dX12_bodyAt_71 : decode cX12_bodyAt 71 = .ok (.iload_n 3, 1) := by decide +kernel
theorem dX12_bodyAt_72 : decode cX12_bodyAt 72 = .ok (.iconst 0, 1) := by decide +kernel
theorem dX12_bodyAt_73 : decode cX12_bodyAt 73 = .ok (.aload_n 0, 1) := by decide +kernel
theorem dX12_bodyAt_74 : decode cX12_bodyAt 74 = .ok (.getfield 61, 3) := by decide +kernel
theorem dX12_bodyAt_77 : decode cX12_bodyAt 77 = .ok (.iconst 1, 1) := by decide +kernel
theorem dX12_bodyAt_78 : decode cX12_bodyAt 78 = .ok (.isub, 1) := by decide +kernel
theorem dX12_bodyAt_79 : decode cX12_bodyAt 79 = .ok (.invokestatic 71, 3) := by decide +kernel
theorem dX12_bodyAt_82 : decode cX12_bodyAt 82 = .ok (.ifCond .eq 30, 3) := by decide +kernel
theorem dX12_bodyAt_85 : decode cX12_bodyAt 85 = .ok (.iload 4, 2) := by decide +kernel
theorem dX12_bodyAt_87 : decode cX12_bodyAt 87 = .ok (.iconst 0, 1) := by decide +kernel
theorem dX12_bodyAt_88 : decode cX12_bodyAt 88 = .ok (.aload_n 0, 1) := by decide +kernel
theorem dX12_bodyAt_89 : decode cX12_bodyAt 89 = .ok (.getfield 64, 3) := by decide +kernel
theorem dX12_bodyAt_92 : decode cX12_bodyAt 92 = .ok (.iconst 1, 1) := by decide +kernel
theorem dX12_bodyAt_93 : decode cX12_bodyAt 93 = .ok (.isub, 1) := by decide +kernel
theorem dX12_bodyAt_94 : decode cX12_bodyAt 94 = .ok (.invokestatic 71, 3) := by decide +kernel
theorem dX12_bodyAt_97 : decode cX12_bodyAt 97 = .ok (.ifCond .eq 15, 3) := by decide +kernel
theorem dX12_bodyAt_100 : decode cX12_bodyAt 100 = .ok (.iload 4, 2) := by decide +kernel
theorem dX12_bodyAt_102 : decode cX12_bodyAt 102 = .ok (.aload_n 0, 1) := by decide +kernel
theorem dX12_bodyAt_103 : decode cX12_bodyAt 103 = .ok (.getfield 61, 3) := by decide +kernel
theorem dX12_bodyAt_106 : decode cX12_bodyAt 106 = .ok (.imul, 1) := by decide +kernel
theorem dX12_bodyAt_107 : decode cX12_bodyAt 107 = .ok (.iload_n 3, 1) := by decide +kernel
theorem dX12_bodyAt_108 : decode cX12_bodyAt 108 = .ok (.iadd, 1) := by decide +kernel
theorem dX12_bodyAt_109 : decode cX12_bodyAt 109 = .ok (.goto 4, 3) := by decide +kernel
theorem dX12_bodyAt_112 : decode cX12_bodyAt 112 = .ok (.iconst (-1), 1) := by decide +kernel
theorem dX12_bodyAt_113 : decode cX12_bodyAt 113 = .ok (.ireturn, 1) := by decide +kernel
theorem dX12_markAt_0 : decode cX12_markAt 0 = .ok (.iconst 0, 1) := by decide +kernel
theorem dX12_markAt_1 : decode cX12_markAt 1 = .ok (.istore_n 3, 1) := by decide +kernel
theorem dX12_markAt_2 : decode cX12_markAt 2 = .ok (.iload_n 3, 1) := by decide +kernel
theorem dX12_markAt_3 : decode cX12_markAt 3 = .ok (.aload_n 0, 1) := by decide +kernel
theorem dX12_markAt_4 : decode cX12_markAt 4 = .ok (.getfield 7, 3) := by decide +kernel
theorem dX12_markAt_7 : decode cX12_markAt 7 = .ok (.iconst 0, 1) := by decide +kernel
theorem dX12_markAt_8 : decode cX12_markAt 8 = .ok (.iaload, 1) := by decide +kernel
theorem dX12_markAt_9 : decode cX12_markAt 9 = .ok (.if_icmp .ge 34, 3) := by decide +kernel
theorem dX12_markAt_12 : decode cX12_markAt 12 = .ok (.aload_n 0, 1) := by decide +kernel
theorem dX12_markAt_13 : decode cX12_markAt 13 = .ok (.iload_n 3, 1) := by decide +kernel
theorem dX12_markAt_14 : decode cX12_markAt 14 = .ok (.iload_n 2, 1) := by decide +kernel
theorem dX12_markAt_15 : decode cX12_markAt 15 = .ok (.invokevirtual 79, 3) := by decide +kernel
theorem dX12_markAt_18 : decode cX12_markAt 18 = .ok (.iload_n 1, 1) := by decide +kernel
theorem dX12_markAt_19 : decode cX12_markAt 19 = .ok (.if_icmp .ne 18, 3) := by decide +kernel
theorem dX12_markAt_22 : decode cX12_markAt 22 = .ok (.aload_n 0, 1) := by decide +kernel
theorem dX12_markAt_23 : decode cX12_markAt 23 = .ok (.getfield 7, 3) := by decide +kernel
theorem dX12_markAt_26 : decode cX12_markAt 26 = .ok (.sipush 590, 3) := by decide +kernel
theorem dX12_markAt_29 : decode cX12_markAt 29 = .ok (.iconst 4, 1) := by decide +kernel
theorem dX12_markAt_30 : decode cX12_markAt 30 = .ok (.iload_n 3, 1) := by decide +kernel
theorem dX12_markAt_31 : decode cX12_markAt 31 = .ok (.imul, 1) := by decide +kernel
theorem dX12_markAt_32 : decode cX12_markAt 32 = .ok (.iadd, 1) := by decide +kernel
theorem dX12_markAt_33 : decode cX12_markAt 33 = .ok (.iconst 3, 1) := by decide +kernel
theorem dX12_markAt_34 : decode cX12_markAt 34 = .ok (.iadd, 1) := by decide +kernel
theorem dX12_markAt_35 : decode cX12_markAt 35 = .ok (.iaload, 1) := by decide +kernel
theorem dX12_markAt_36 : decode cX12_markAt 36 = .ok (.ireturn, 1) := by decide +kernel
theorem dX12_markAt_37 : decode cX12_markAt 37 = .ok (.iinc 3 1, 3) := by decide +kernel
theorem dX12_markAt_40 : decode cX12_markAt 40 = .ok (.goto (-38), 3) := by decide +kernel
theorem dX12_markAt_43 : decode cX12_markAt 43 = .ok (.aload_n 0, 1) := by decide +kernel
theorem dX12_markAt_44 : decode cX12_markAt 44 = .ok (.getfield 7, 3) := by decide +kernel
theorem dX12_markAt_47 : decode cX12_markAt 47 = .ok (.bipush 10, 2) := by decide +kernel
theorem dX12_markAt_49 : decode cX12_markAt 49 = .ok (.iload_n 1, 1) := by decide +kernel
theorem dX12_markAt_50 : decode cX12_markAt 50 = .ok (.iadd, 1) := by decide +kernel
theorem dX12_markAt_51 : decode cX12_markAt 51 = .ok (.iaload, 1) := by decide +kernel
theorem dX12_markAt_52 : decode cX12_markAt 52 = .ok (.ireturn, 1) := by decide +kernel
theorem dX12_markOf_0 : decode cX12_markOf 0 = .ok (.aload_n 0, 1) := by decide +kernel
theorem dX12_markOf_1 : decode cX12_markOf 1 = .ok (.iload_n 1, 1) := by decide +kernel
theorem dX12_markOf_2 : decode cX12_markOf 2 = .ok (.invokevirtual 75, 3) := by decide +kernel
theorem dX12_markOf_5 : decode cX12_markOf 5 = .ok (.ifCond .eq 19, 3) := by decide +kernel
theorem dX12_markOf_8 : decode cX12_markOf 8 = .ok (.iload_n 2, 1) := by decide +kernel
theorem dX12_markOf_9 : decode cX12_markOf 9 = .ok (.invokestatic 83, 3) := by decide +kernel
theorem dX12_markOf_12 : decode cX12_markOf 12 = .ok (.ifCond .eq 12, 3) := by decide +kernel
theorem dX12_markOf_15 : decode cX12_markOf 15 = .ok (.aload_n 0, 1) := by decide +kernel
theorem dX12_markOf_16 : decode cX12_markOf 16 = .ok (.iload_n 1, 1) := by decide +kernel
theorem dX12_markOf_17 : decode cX12_markOf 17 = .ok (.iload_n 2, 1) := by decide +kernel
theorem dX12_markOf_18 : decode cX12_markOf 18 = .ok (.invokevirtual 86, 3) := by decide +kernel
theorem dX12_markOf_21 : decode cX12_markOf 21 = .ok (.goto 4, 3) := by decide +kernel
theorem dX12_markOf_24 : decode cX12_markOf 24 = .ok (.iconst (-1), 1) := by decide +kernel
theorem dX12_markOf_25 : decode cX12_markOf 25 = .ok (.ireturn, 1) := by decide +kernel
theorem dX12_lay_0 : decode cX12_lay 0 = .ok (.iconst 0, 1) := by decide +kernel
theorem dX12_lay_1 : decode cX12_lay 1 = .ok (.istore_n 2, 1) := by decide +kernel
theorem dX12_lay_2 : decode cX12_lay 2 = .ok (.iload_n 2, 1) := by decide +kernel
theorem dX12_lay_3 : decode cX12_lay 3 = .ok (.aload_n 0, 1) := by decide +kernel
theorem dX12_lay_4 : decode cX12_lay 4 = .ok (.getfield 61, 3) := by decide +kernel
theorem dX12_lay_7 : decode cX12_lay 7 = .ok (.aload_n 0, 1) := by decide +kernel
theorem dX12_lay_8 : decode cX12_lay 8 = .ok (.getfield 64, 3) := by decide +kernel
theorem dX12_lay_11 : decode cX12_lay 11 = .ok (.imul, 1) := by decide +kernel
theorem dX12_lay_12 : decode cX12_lay 12 = .ok (.if_icmp .ge 24, 3) := by decide +kernel
theorem dX12_lay_15 : decode cX12_lay 15 = .ok (.aload_n 0, 1) := by decide +kernel
theorem dX12_lay_16 : decode cX12_lay 16 = .ok (.getfield 19, 3) := by decide +kernel
theorem dX12_lay_19 : decode cX12_lay 19 = .ok (.iload_n 2, 1) := by decide +kernel
theorem dX12_lay_20 : decode cX12_lay 20 = .ok (.aload_n 0, 1) := by decide +kernel
theorem dX12_lay_21 : decode cX12_lay 21 = .ok (.getfield 7, 3) := by decide +kernel
theorem dX12_lay_24 : decode cX12_lay 24 = .ok (.bipush 10, 2) := by decide +kernel
theorem dX12_lay_26 : decode cX12_lay 26 = .ok (.iload_n 2, 1) := by decide +kernel
theorem dX12_lay_27 : decode cX12_lay 27 = .ok (.iadd, 1) := by decide +kernel
theorem dX12_lay_28 : decode cX12_lay 28 = .ok (.iaload, 1) := by decide +kernel
theorem dX12_lay_29 : decode cX12_lay 29 = .ok (.iastore, 1) := by decide +kernel
theorem dX12_lay_30 : decode cX12_lay 30 = .ok (.iinc 2 1, 3) := by decide +kernel
theorem dX12_lay_33 : decode cX12_lay 33 = .ok (.goto (-31), 3) := by decide +kernel
theorem dX12_lay_36 : decode cX12_lay 36 = .ok (.aload_n 0, 1) := by decide +kernel
theorem dX12_lay_37 : decode cX12_lay 37 = .ok (.getfield 7, 3) := by decide +kernel
theorem dX12_lay_40 : decode cX12_lay 40 = .ok (.iconst 0, 1) := by decide +kernel
theorem dX12_lay_41 : decode cX12_lay 41 = .ok (.iaload, 1) := by decide +kernel
theorem dX12_lay_42 : decode cX12_lay 42 = .ok (.iconst 1, 1) := by decide +kernel
theorem dX12_lay_43 : decode cX12_lay 43 = .ok (.isub, 1) := by decide +kernel
theorem dX12_lay_44 : decode cX12_lay 44 = .ok (.istore_n 2, 1) := by decide +kernel
theorem dX12_lay_45 : decode cX12_lay 45 = .ok (.iload_n 2, 1) := by decide +kernel
theorem dX12_lay_46 : decode cX12_lay 46 = .ok (.ifCond .lt 43, 3) := by decide +kernel
theorem dX12_lay_49 : decode cX12_lay 49 = .ok (.aload_n 0, 1) := by decide +kernel
theorem dX12_lay_50 : decode cX12_lay 50 = .ok (.iload_n 2, 1) := by decide +kernel
theorem dX12_lay_51 : decode cX12_lay 51 = .ok (.iload_n 1, 1) := by decide +kernel
theorem dX12_lay_52 : decode cX12_lay 52 = .ok (.invokevirtual 79, 3) := by decide +kernel
theorem dX12_lay_55 : decode cX12_lay 55 = .ok (.ifCond .lt 28, 3) := by decide +kernel
theorem dX12_lay_58 : decode cX12_lay 58 = .ok (.aload_n 0, 1) := by decide +kernel
theorem dX12_lay_59 : decode cX12_lay 59 = .ok (.getfield 19, 3) := by decide +kernel
theorem dX12_lay_62 : decode cX12_lay 62 = .ok (.aload_n 0, 1) := by decide +kernel
theorem dX12_lay_63 : decode cX12_lay 63 = .ok (.iload_n 2, 1) := by decide +kernel
theorem dX12_lay_64 : decode cX12_lay 64 = .ok (.iload_n 1, 1) := by decide +kernel
theorem dX12_lay_65 : decode cX12_lay 65 = .ok (.invokevirtual 79, 3) := by decide +kernel
theorem dX12_lay_68 : decode cX12_lay 68 = .ok (.aload_n 0, 1) := by decide +kernel
theorem dX12_lay_69 : decode cX12_lay 69 = .ok (.getfield 7, 3) := by decide +kernel
theorem dX12_lay_72 : decode cX12_lay 72 = .ok (.sipush 590, 3) := by decide +kernel
theorem dX12_lay_75 : decode cX12_lay 75 = .ok (.iconst 4, 1) := by decide +kernel
theorem dX12_lay_76 : decode cX12_lay 76 = .ok (.iload_n 2, 1) := by decide +kernel
theorem dX12_lay_77 : decode cX12_lay 77 = .ok (.imul, 1) := by decide +kernel
theorem dX12_lay_78 : decode cX12_lay 78 = .ok (.iadd, 1) := by decide +kernel
theorem dX12_lay_79 : decode cX12_lay 79 = .ok (.iconst 3, 1) := by decide +kernel
theorem dX12_lay_80 : decode cX12_lay 80 = .ok (.iadd, 1) := by decide +kernel
theorem dX12_lay_81 : decode cX12_lay 81 = .ok (.iaload, 1) := by decide +kernel
theorem dX12_lay_82 : decode cX12_lay 82 = .ok (.iastore, 1) := by decide +kernel
theorem dX12_lay_83 : decode cX12_lay 83 = .ok (.iinc 2 (-1), 3) := by decide +kernel
theorem dX12_lay_86 : decode cX12_lay 86 = .ok (.goto (-41), 3) := by decide +kernel
theorem dX12_lay_89 : decode cX12_lay 89 = .ok (.return_, 1) := by decide +kernel
theorem dX12_wayX_0 : decode cX12_wayX 0 = .ok (.iconst 2, 1) := by decide +kernel
theorem dX12_wayX_1 : decode cX12_wayX 1 = .ok (.iload_n 0, 1) := by decide +kernel
theorem dX12_wayX_2 : decode cX12_wayX 2 = .ok (.bipush 16, 2) := by decide +kernel
theorem dX12_wayX_4 : decode cX12_wayX 4 = .ok (.irem, 1) := by decide +kernel
theorem dX12_wayX_5 : decode cX12_wayX 5 = .ok (.imul, 1) := by decide +kernel
theorem dX12_wayX_6 : decode cX12_wayX 6 = .ok (.bipush 16, 2) := by decide +kernel
theorem dX12_wayX_8 : decode cX12_wayX 8 = .ok (.isub, 1) := by decide +kernel
theorem dX12_wayX_9 : decode cX12_wayX 9 = .ok (.istore_n 1, 1) := by decide +kernel
theorem dX12_wayX_10 : decode cX12_wayX 10 = .ok (.iload_n 0, 1) := by decide +kernel
theorem dX12_wayX_11 : decode cX12_wayX 11 = .ok (.bipush 16, 2) := by decide +kernel
theorem dX12_wayX_13 : decode cX12_wayX 13 = .ok (.idiv, 1) := by decide +kernel
theorem dX12_wayX_14 : decode cX12_wayX 14 = .ok (.istore_n 2, 1) := by decide +kernel
theorem dX12_wayX_15 : decode cX12_wayX 15 = .ok (.iload_n 2, 1) := by decide +kernel
theorem dX12_wayX_16 : decode cX12_wayX 16 = .ok (.ifCond .ne 8, 3) := by decide +kernel
theorem dX12_wayX_19 : decode cX12_wayX 19 = .ok (.bipush 16, 2) := by decide +kernel
theorem dX12_wayX_21 : decode cX12_wayX 21 = .ok (.goto 24, 3) := by decide +kernel
theorem dX12_wayX_24 : decode cX12_wayX 24 = .ok (.iload_n 2, 1) := by decide +kernel
theorem dX12_wayX_25 : decode cX12_wayX 25 = .ok (.iconst 1, 1) := by decide +kernel
theorem dX12_wayX_26 : decode cX12_wayX 26 = .ok (.if_icmp .ne 8, 3) := by decide +kernel
theorem dX12_wayX_29 : decode cX12_wayX 29 = .ok (.iload_n 1, 1) := by decide +kernel
theorem dX12_wayX_30 : decode cX12_wayX 30 = .ok (.ineg, 1) := by decide +kernel
theorem dX12_wayX_31 : decode cX12_wayX 31 = .ok (.goto 14, 3) := by decide +kernel
theorem dX12_wayX_34 : decode cX12_wayX 34 = .ok (.iload_n 2, 1) := by decide +kernel
theorem dX12_wayX_35 : decode cX12_wayX 35 = .ok (.iconst 2, 1) := by decide +kernel
theorem dX12_wayX_36 : decode cX12_wayX 36 = .ok (.if_icmp .ne 8, 3) := by decide +kernel
theorem dX12_wayX_39 : decode cX12_wayX 39 = .ok (.bipush (-16), 2) := by decide +kernel
theorem dX12_wayX_41 : decode cX12_wayX 41 = .ok (.goto 4, 3) := by decide +kernel
theorem dX12_wayX_44 : decode cX12_wayX 44 = .ok (.iload_n 1, 1) := by decide +kernel
theorem dX12_wayX_45 : decode cX12_wayX 45 = .ok (.ireturn, 1) := by decide +kernel
theorem dX12_wayY_0 : decode cX12_wayY 0 = .ok (.iconst 2, 1) := by decide +kernel
theorem dX12_wayY_1 : decode cX12_wayY 1 = .ok (.iload_n 0, 1) := by decide +kernel
theorem dX12_wayY_2 : decode cX12_wayY 2 = .ok (.bipush 16, 2) := by decide +kernel
theorem dX12_wayY_4 : decode cX12_wayY 4 = .ok (.irem, 1) := by decide +kernel
theorem dX12_wayY_5 : decode cX12_wayY 5 = .ok (.imul, 1) := by decide +kernel
theorem dX12_wayY_6 : decode cX12_wayY 6 = .ok (.bipush 16, 2) := by decide +kernel
theorem dX12_wayY_8 : decode cX12_wayY 8 = .ok (.isub, 1) := by decide +kernel
theorem dX12_wayY_9 : decode cX12_wayY 9 = .ok (.istore_n 1, 1) := by decide +kernel
theorem dX12_wayY_10 : decode cX12_wayY 10 = .ok (.iload_n 0, 1) := by decide +kernel
theorem dX12_wayY_11 : decode cX12_wayY 11 = .ok (.bipush 16, 2) := by decide +kernel
theorem dX12_wayY_13 : decode cX12_wayY 13 = .ok (.idiv, 1) := by decide +kernel
theorem dX12_wayY_14 : decode cX12_wayY 14 = .ok (.istore_n 2, 1) := by decide +kernel
theorem dX12_wayY_15 : decode cX12_wayY 15 = .ok (.iload_n 2, 1) := by decide +kernel
theorem dX12_wayY_16 : decode cX12_wayY 16 = .ok (.ifCond .ne 7, 3) := by decide +kernel
theorem dX12_wayY_19 : decode cX12_wayY 19 = .ok (.iload_n 1, 1) := by decide +kernel
theorem dX12_wayY_20 : decode cX12_wayY 20 = .ok (.goto 25, 3) := by decide +kernel
theorem dX12_wayY_23 : decode cX12_wayY 23 = .ok (.iload_n 2, 1) := by decide +kernel
theorem dX12_wayY_24 : decode cX12_wayY 24 = .ok (.iconst 1, 1) := by decide +kernel
theorem dX12_wayY_25 : decode cX12_wayY 25 = .ok (.if_icmp .ne 8, 3) := by decide +kernel
theorem dX12_wayY_28 : decode cX12_wayY 28 = .ok (.bipush 16, 2) := by decide +kernel
theorem dX12_wayY_30 : decode cX12_wayY 30 = .ok (.goto 15, 3) := by decide +kernel
theorem dX12_wayY_33 : decode cX12_wayY 33 = .ok (.iload_n 2, 1) := by decide +kernel
theorem dX12_wayY_34 : decode cX12_wayY 34 = .ok (.iconst 2, 1) := by decide +kernel
theorem dX12_wayY_35 : decode cX12_wayY 35 = .ok (.if_icmp .ne 8, 3) := by decide +kernel
theorem dX12_wayY_38 : decode cX12_wayY 38 = .ok (.iload_n 1, 1) := by decide +kernel
theorem dX12_wayY_39 : decode cX12_wayY 39 = .ok (.ineg, 1) := by decide +kernel
theorem dX12_wayY_40 : decode cX12_wayY 40 = .ok (.goto 5, 3) := by decide +kernel
theorem dX12_wayY_43 : decode cX12_wayY 43 = .ok (.bipush (-16), 2) := by decide +kernel
theorem dX12_wayY_45 : decode cX12_wayY 45 = .ok (.ireturn, 1) := by decide +kernel
theorem dX12_shoot_0 : decode cX12_shoot 0 = .ok (.aload_n 0, 1) := by decide +kernel
theorem dX12_shoot_1 : decode cX12_shoot 1 = .ok (.getfield 22, 3) := by decide +kernel
theorem dX12_shoot_4 : decode cX12_shoot 4 = .ok (.iload_n 3, 1) := by decide +kernel
theorem dX12_shoot_5 : decode cX12_shoot 5 = .ok (.iconst 0, 1) := by decide +kernel
theorem dX12_shoot_6 : decode cX12_shoot 6 = .ok (.iastore, 1) := by decide +kernel
theorem dX12_shoot_7 : decode cX12_shoot 7 = .ok (.aload_n 0, 1) := by decide +kernel
theorem dX12_shoot_8 : decode cX12_shoot 8 = .ok (.getfield 25, 3) := by decide +kernel
theorem dX12_shoot_11 : decode cX12_shoot 11 = .ok (.iload_n 3, 1) := by decide +kernel
theorem dX12_shoot_12 : decode cX12_shoot 12 = .ok (.bipush 41, 2) := by decide +kernel
theorem dX12_shoot_14 : decode cX12_shoot 14 = .ok (.iastore, 1) := by decide +kernel
theorem dX12_shoot_15 : decode cX12_shoot 15 = .ok (.iconst 1, 1) := by decide +kernel
theorem dX12_shoot_16 : decode cX12_shoot 16 = .ok (.istore 4, 2) := by decide +kernel
theorem dX12_shoot_18 : decode cX12_shoot 18 = .ok (.iload 4, 2) := by decide +kernel
theorem dX12_shoot_20 : decode cX12_shoot 20 = .ok (.bipush 40, 2) := by decide +kernel
theorem dX12_shoot_22 : decode cX12_shoot 22 = .ok (.if_icmp .gt 123, 3) := by decide +kernel
theorem dX12_shoot_25 : decode cX12_shoot 25 = .ok (.iload_n 1, 1) := by decide +kernel
theorem dX12_shoot_26 : decode cX12_shoot 26 = .ok (.iload 4, 2) := by decide +kernel
theorem dX12_shoot_28 : decode cX12_shoot 28 = .ok (.iload_n 3, 1) := by decide +kernel
theorem dX12_shoot_29 : decode cX12_shoot 29 = .ok (.invokestatic 89, 3) := by decide +kernel
theorem dX12_shoot_32 : decode cX12_shoot 32 = .ok (.imul, 1) := by decide +kernel
theorem dX12_shoot_33 : decode cX12_shoot 33 = .ok (.iadd, 1) := by decide +kernel
theorem dX12_shoot_34 : decode cX12_shoot 34 = .ok (.bipush 16, 2) := by decide +kernel
theorem dX12_shoot_36 : decode cX12_shoot 36 = .ok (.invokestatic 93, 3) := by decide +kernel
theorem dX12_shoot_39 : decode cX12_shoot 39 = .ok (.istore 5, 2) := by decide +kernel
theorem dX12_shoot_41 : decode cX12_shoot 41 = .ok (.iload_n 2, 1) := by decide +kernel
theorem dX12_shoot_42 : decode cX12_shoot 42 = .ok (.iload 4, 2) := by decide +kernel
theorem dX12_shoot_44 : decode cX12_shoot 44 = .ok (.iload_n 3, 1) := by decide +kernel
theorem dX12_shoot_45 : decode cX12_shoot 45 = .ok (.invokestatic 96, 3) := by decide +kernel
theorem dX12_shoot_48 : decode cX12_shoot 48 = .ok (.imul, 1) := by decide +kernel
theorem dX12_shoot_49 : decode cX12_shoot 49 = .ok (.iadd, 1) := by decide +kernel
theorem dX12_shoot_50 : decode cX12_shoot 50 = .ok (.bipush 16, 2) := by decide +kernel
theorem dX12_shoot_52 : decode cX12_shoot 52 = .ok (.invokestatic 93, 3) := by decide +kernel
theorem dX12_shoot_55 : decode cX12_shoot 55 = .ok (.istore 6, 2) := by decide +kernel
theorem dX12_shoot_57 : decode cX12_shoot 57 = .ok (.iload 5, 2) := by decide +kernel
theorem dX12_shoot_59 : decode cX12_shoot 59 = .ok (.iconst 0, 1) := by decide +kernel
theorem dX12_shoot_60 : decode cX12_shoot 60 = .ok (.aload_n 0, 1) := by decide +kernel
theorem dX12_shoot_61 : decode cX12_shoot 61 = .ok (.getfield 61, 3) := by decide +kernel
theorem dX12_shoot_64 : decode cX12_shoot 64 = .ok (.iconst 1, 1) := by decide +kernel
theorem dX12_shoot_65 : decode cX12_shoot 65 = .ok (.isub, 1) := by decide +kernel
theorem dX12_shoot_66 : decode cX12_shoot 66 = .ok (.invokestatic 71, 3) := by decide +kernel
theorem dX12_shoot_69 : decode cX12_shoot 69 = .ok (.ifCond .eq 18, 3) := by decide +kernel
theorem dX12_shoot_72 : decode cX12_shoot 72 = .ok (.iload 6, 2) := by decide +kernel
theorem dX12_shoot_74 : decode cX12_shoot 74 = .ok (.iconst 0, 1) := by decide +kernel
theorem dX12_shoot_75 : decode cX12_shoot 75 = .ok (.aload_n 0, 1) := by decide +kernel
theorem dX12_shoot_76 : decode cX12_shoot 76 = .ok (.getfield 64, 3) := by decide +kernel
theorem dX12_shoot_79 : decode cX12_shoot 79 = .ok (.iconst 1, 1) := by decide +kernel
theorem dX12_shoot_80 : decode cX12_shoot 80 = .ok (.isub, 1) := by decide +kernel
theorem dX12_shoot_81 : decode cX12_shoot 81 = .ok (.invokestatic 71, 3) := by decide +kernel
theorem dX12_shoot_84 : decode cX12_shoot 84 = .ok (.ifCond .ne 4, 3) := by decide +kernel
theorem dX12_shoot_87 : decode cX12_shoot 87 = .ok (.return_, 1) := by decide +kernel
theorem dX12_shoot_88 : decode cX12_shoot 88 = .ok (.aload_n 0, 1) := by decide +kernel
theorem dX12_shoot_89 : decode cX12_shoot 89 = .ok (.getfield 19, 3) := by decide +kernel
theorem dX12_shoot_92 : decode cX12_shoot 92 = .ok (.iload 6, 2) := by decide +kernel
theorem dX12_shoot_94 : decode cX12_shoot 94 = .ok (.aload_n 0, 1) := by decide +kernel
theorem dX12_shoot_95 : decode cX12_shoot 95 = .ok (.getfield 61, 3) := by decide +kernel
theorem dX12_shoot_98 : decode cX12_shoot 98 = .ok (.imul, 1) := by decide +kernel
theorem dX12_shoot_99 : decode cX12_shoot 99 = .ok (.iload 5, 2) := by decide +kernel
theorem dX12_shoot_101 : decode cX12_shoot 101 = .ok (.iadd, 1) := by decide +kernel
theorem dX12_shoot_102 : decode cX12_shoot 102 = .ok (.iaload, 1) := by decide +kernel
theorem dX12_shoot_103 : decode cX12_shoot 103 = .ok (.ifCond .ne 6, 3) := by decide +kernel
theorem dX12_shoot_106 : decode cX12_shoot 106 = .ok (.goto 33, 3) := by decide +kernel
theorem dX12_shoot_109 : decode cX12_shoot 109 = .ok (.aload_n 0, 1) := by decide +kernel
theorem dX12_shoot_110 : decode cX12_shoot 110 = .ok (.getfield 22, 3) := by decide +kernel
theorem dX12_shoot_113 : decode cX12_shoot 113 = .ok (.iload_n 3, 1) := by decide +kernel
theorem dX12_shoot_114 : decode cX12_shoot 114 = .ok (.aload_n 0, 1) := by decide +kernel
theorem dX12_shoot_115 : decode cX12_shoot 115 = .ok (.getfield 19, 3) := by decide +kernel
theorem dX12_shoot_118 : decode cX12_shoot 118 = .ok (.iload 6, 2) := by decide +kernel
theorem dX12_shoot_120 : decode cX12_shoot 120 = .ok (.aload_n 0, 1) := by decide +kernel
theorem dX12_shoot_121 : decode cX12_shoot 121 = .ok (.getfield 61, 3) := by decide +kernel
theorem dX12_shoot_124 : decode cX12_shoot 124 = .ok (.imul, 1) := by decide +kernel
theorem dX12_shoot_125 : decode cX12_shoot 125 = .ok (.iload 5, 2) := by decide +kernel
theorem dX12_shoot_127 : decode cX12_shoot 127 = .ok (.iadd, 1) := by decide +kernel
theorem dX12_shoot_128 : decode cX12_shoot 128 = .ok (.iaload, 1) := by decide +kernel
theorem dX12_shoot_129 : decode cX12_shoot 129 = .ok (.iastore, 1) := by decide +kernel
theorem dX12_shoot_130 : decode cX12_shoot 130 = .ok (.aload_n 0, 1) := by decide +kernel
theorem dX12_shoot_131 : decode cX12_shoot 131 = .ok (.getfield 25, 3) := by decide +kernel
theorem dX12_shoot_134 : decode cX12_shoot 134 = .ok (.iload_n 3, 1) := by decide +kernel
theorem dX12_shoot_135 : decode cX12_shoot 135 = .ok (.iload 4, 2) := by decide +kernel
theorem dX12_shoot_137 : decode cX12_shoot 137 = .ok (.iastore, 1) := by decide +kernel
theorem dX12_shoot_138 : decode cX12_shoot 138 = .ok (.return_, 1) := by decide +kernel
theorem dX12_shoot_139 : decode cX12_shoot 139 = .ok (.iinc 4 1, 3) := by decide +kernel
theorem dX12_shoot_142 : decode cX12_shoot 142 = .ok (.goto (-124), 3) := by decide +kernel
theorem dX12_shoot_145 : decode cX12_shoot 145 = .ok (.return_, 1) := by decide +kernel
theorem dX12_look_0 : decode cX12_look 0 = .ok (.aload_n 0, 1) := by decide +kernel
theorem dX12_look_1 : decode cX12_look 1 = .ok (.iload_n 3, 1) := by decide +kernel
theorem dX12_look_2 : decode cX12_look 2 = .ok (.invokevirtual 99, 3) := by decide +kernel
theorem dX12_look_5 : decode cX12_look 5 = .ok (.iconst 0, 1) := by decide +kernel
theorem dX12_look_6 : decode cX12_look 6 = .ok (.istore 4, 2) := by decide +kernel
theorem dX12_look_8 : decode cX12_look 8 = .ok (.iload 4, 2) := by decide +kernel
theorem dX12_look_10 : decode cX12_look 10 = .ok (.bipush 64, 2) := by decide +kernel
theorem dX12_look_12 : decode cX12_look 12 = .ok (.if_icmp .ge 17, 3) := by decide +kernel
theorem dX12_look_15 : decode cX12_look 15 = .ok (.aload_n 0, 1) := by decide +kernel
theorem dX12_look_16 : decode cX12_look 16 = .ok (.iload_n 1, 1) := by decide +kernel
theorem dX12_look_17 : decode cX12_look 17 = .ok (.iload_n 2, 1) := by decide +kernel
theorem dX12_look_18 : decode cX12_look 18 = .ok (.iload 4, 2) := by decide +kernel
theorem dX12_look_20 : decode cX12_look 20 = .ok (.invokevirtual 103, 3) := by decide +kernel
theorem dX12_look_23 : decode cX12_look 23 = .ok (.iinc 4 1, 3) := by decide +kernel
theorem dX12_look_26 : decode cX12_look 26 = .ok (.goto (-18), 3) := by decide +kernel
theorem dX12_look_29 : decode cX12_look 29 = .ok (.return_, 1) := by decide +kernel
theorem dX12_ray_0 : decode cX12_ray 0 = .ok (.aload_n 0, 1) := by decide +kernel
theorem dX12_ray_1 : decode cX12_ray 1 = .ok (.iload_n 1, 1) := by decide +kernel
theorem dX12_ray_2 : decode cX12_ray 2 = .ok (.iload_n 2, 1) := by decide +kernel
theorem dX12_ray_3 : decode cX12_ray 3 = .ok (.invokevirtual 107, 3) := by decide +kernel
theorem dX12_ray_6 : decode cX12_ray 6 = .ok (.ifCond .eq 18, 3) := by decide +kernel
theorem dX12_ray_9 : decode cX12_ray 9 = .ok (.iload_n 3, 1) := by decide +kernel
theorem dX12_ray_10 : decode cX12_ray 10 = .ok (.invokestatic 111, 3) := by decide +kernel
theorem dX12_ray_13 : decode cX12_ray 13 = .ok (.ifCond .eq 11, 3) := by decide +kernel
theorem dX12_ray_16 : decode cX12_ray 16 = .ok (.iload 4, 2) := by decide +kernel
theorem dX12_ray_18 : decode cX12_ray 18 = .ok (.invokestatic 83, 3) := by decide +kernel
theorem dX12_ray_21 : decode cX12_ray 21 = .ok (.ifCond .ne 5, 3) := by decide +kernel
theorem dX12_ray_24 : decode cX12_ray 24 = .ok (.iconst (-1), 1) := by decide +kernel
theorem dX12_ray_25 : decode cX12_ray 25 = .ok (.ireturn, 1) := by decide +kernel
theorem dX12_ray_26 : decode cX12_ray 26 = .ok (.aload_n 0, 1) := by decide +kernel
theorem dX12_ray_27 : decode cX12_ray 27 = .ok (.iload 4, 2) := by decide +kernel
theorem dX12_ray_29 : decode cX12_ray 29 = .ok (.invokevirtual 99, 3) := by decide +kernel
theorem dX12_ray_32 : decode cX12_ray 32 = .ok (.aload_n 0, 1) := by decide +kernel
theorem dX12_ray_33 : decode cX12_ray 33 = .ok (.iload_n 1, 1) := by decide +kernel
theorem dX12_ray_34 : decode cX12_ray 34 = .ok (.iload_n 2, 1) := by decide +kernel
theorem dX12_ray_35 : decode cX12_ray 35 = .ok (.iload_n 3, 1) := by decide +kernel
theorem dX12_ray_36 : decode cX12_ray 36 = .ok (.invokevirtual 103, 3) := by decide +kernel
theorem dX12_ray_39 : decode cX12_ray 39 = .ok (.iload 5, 2) := by decide +kernel
theorem dX12_ray_41 : decode cX12_ray 41 = .ok (.ifCond .eq 12, 3) := by decide +kernel
theorem dX12_ray_44 : decode cX12_ray 44 = .ok (.aload_n 0, 1) := by decide +kernel
theorem dX12_ray_45 : decode cX12_ray 45 = .ok (.getfield 25, 3) := by decide +kernel
theorem dX12_ray_48 : decode cX12_ray 48 = .ok (.iload_n 3, 1) := by decide +kernel
theorem dX12_ray_49 : decode cX12_ray 49 = .ok (.iaload, 1) := by decide +kernel
theorem dX12_ray_50 : decode cX12_ray 50 = .ok (.goto 9, 3) := by decide +kernel
theorem dX12_ray_53 : decode cX12_ray 53 = .ok (.aload_n 0, 1) := by decide +kernel
theorem dX12_ray_54 : decode cX12_ray 54 = .ok (.getfield 22, 3) := by decide +kernel
theorem dX12_ray_57 : decode cX12_ray 57 = .ok (.iload_n 3, 1) := by decide +kernel
theorem dX12_ray_58 : decode cX12_ray 58 = .ok (.iaload, 1) := by decide +kernel
theorem dX12_ray_59 : decode cX12_ray 59 = .ok (.ireturn, 1) := by decide +kernel
theorem dX12_lens_0 : decode cX12_lens 0 = .ok (.iload_n 1, 1) := by decide +kernel
theorem dX12_lens_1 : decode cX12_lens 1 = .ok (.invokestatic 111, 3) := by decide +kernel
theorem dX12_lens_4 : decode cX12_lens 4 = .ok (.ifCond .eq 24, 3) := by decide +kernel
theorem dX12_lens_7 : decode cX12_lens 7 = .ok (.iload_n 2, 1) := by decide +kernel
theorem dX12_lens_8 : decode cX12_lens 8 = .ok (.iconst 0, 1) := by decide +kernel
theorem dX12_lens_9 : decode cX12_lens 9 = .ok (.bipush 7, 2) := by decide +kernel
theorem dX12_lens_11 : decode cX12_lens 11 = .ok (.invokestatic 71, 3) := by decide +kernel
theorem dX12_lens_14 : decode cX12_lens 14 = .ok (.ifCond .eq 14, 3) := by decide +kernel
theorem dX12_lens_17 : decode cX12_lens 17 = .ok (.aload_n 0, 1) := by decide +kernel
theorem dX12_lens_18 : decode cX12_lens 18 = .ok (.getfield 7, 3) := by decide +kernel
theorem dX12_lens_21 : decode cX12_lens 21 = .ok (.iconst 1, 1) := by decide +kernel
theorem dX12_lens_22 : decode cX12_lens 22 = .ok (.iaload, 1) := by decide +kernel
theorem dX12_lens_23 : decode cX12_lens 23 = .ok (.bipush 16, 2) := by decide +kernel
theorem dX12_lens_25 : decode cX12_lens 25 = .ok (.if_icmp .ne 5, 3) := by decide +kernel
theorem dX12_lens_28 : decode cX12_lens 28 = .ok (.iconst (-1), 1) := by decide +kernel
theorem dX12_lens_29 : decode cX12_lens 29 = .ok (.ireturn, 1) := by decide +kernel
theorem dX12_lens_30 : decode cX12_lens 30 = .ok (.aload_n 0, 1) := by decide +kernel
theorem dX12_lens_31 : decode cX12_lens 31 = .ok (.getfield 7, 3) := by decide +kernel
theorem dX12_lens_34 : decode cX12_lens 34 = .ok (.sipush 620, 3) := by decide +kernel
theorem dX12_lens_37 : decode cX12_lens 37 = .ok (.iconst 2, 1) := by decide +kernel
theorem dX12_lens_38 : decode cX12_lens 38 = .ok (.aload_n 0, 1) := by decide +kernel
theorem dX12_lens_39 : decode cX12_lens 39 = .ok (.getfield 7, 3) := by decide +kernel
theorem dX12_lens_42 : decode cX12_lens 42 = .ok (.iconst 1, 1) := by decide +kernel
theorem dX12_lens_43 : decode cX12_lens 43 = .ok (.iaload, 1) := by decide +kernel
theorem dX12_lens_44 : decode cX12_lens 44 = .ok (.imul, 1) := by decide +kernel
theorem dX12_lens_45 : decode cX12_lens 45 = .ok (.iadd, 1) := by decide +kernel
theorem dX12_lens_46 : decode cX12_lens 46 = .ok (.iload_n 1, 1) := by decide +kernel
theorem dX12_lens_47 : decode cX12_lens 47 = .ok (.iastore, 1) := by decide +kernel
theorem dX12_lens_48 : decode cX12_lens 48 = .ok (.aload_n 0, 1) := by decide +kernel
theorem dX12_lens_49 : decode cX12_lens 49 = .ok (.getfield 7, 3) := by decide +kernel
theorem dX12_lens_52 : decode cX12_lens 52 = .ok (.sipush 620, 3) := by decide +kernel
theorem dX12_lens_55 : decode cX12_lens 55 = .ok (.iconst 2, 1) := by decide +kernel
theorem dX12_lens_56 : decode cX12_lens 56 = .ok (.aload_n 0, 1) := by decide +kernel
theorem dX12_lens_57 : decode cX12_lens 57 = .ok (.getfield 7, 3) := by decide +kernel
theorem dX12_lens_60 : decode cX12_lens 60 = .ok (.iconst 1, 1) := by decide +kernel
theorem dX12_lens_61 : decode cX12_lens 61 = .ok (.iaload, 1) := by decide +kernel
theorem dX12_lens_62 : decode cX12_lens 62 = .ok (.imul, 1) := by decide +kernel
theorem dX12_lens_63 : decode cX12_lens 63 = .ok (.iadd, 1) := by decide +kernel
theorem dX12_lens_64 : decode cX12_lens 64 = .ok (.iconst 1, 1) := by decide +kernel
theorem dX12_lens_65 : decode cX12_lens 65 = .ok (.iadd, 1) := by decide +kernel
theorem dX12_lens_66 : decode cX12_lens 66 = .ok (.iload_n 2, 1) := by decide +kernel
theorem dX12_lens_67 : decode cX12_lens 67 = .ok (.iastore, 1) := by decide +kernel
theorem dX12_lens_68 : decode cX12_lens 68 = .ok (.aload_n 0, 1) := by decide +kernel
theorem dX12_lens_69 : decode cX12_lens 69 = .ok (.getfield 7, 3) := by decide +kernel
theorem dX12_lens_72 : decode cX12_lens 72 = .ok (.iconst 1, 1) := by decide +kernel
theorem dX12_lens_73 : decode cX12_lens 73 = .ok (.dup2, 1) := by decide +kernel
theorem dX12_lens_74 : decode cX12_lens 74 = .ok (.iaload, 1) := by decide +kernel
theorem dX12_lens_75 : decode cX12_lens 75 = .ok (.iconst 1, 1) := by decide +kernel
theorem dX12_lens_76 : decode cX12_lens 76 = .ok (.iadd, 1) := by decide +kernel
theorem dX12_lens_77 : decode cX12_lens 77 = .ok (.iastore, 1) := by decide +kernel
theorem dX12_lens_78 : decode cX12_lens 78 = .ok (.aload_n 0, 1) := by decide +kernel
theorem dX12_lens_79 : decode cX12_lens 79 = .ok (.getfield 7, 3) := by decide +kernel
theorem dX12_lens_82 : decode cX12_lens 82 = .ok (.iconst 1, 1) := by decide +kernel
theorem dX12_lens_83 : decode cX12_lens 83 = .ok (.iaload, 1) := by decide +kernel
theorem dX12_lens_84 : decode cX12_lens 84 = .ok (.iconst 1, 1) := by decide +kernel
theorem dX12_lens_85 : decode cX12_lens 85 = .ok (.isub, 1) := by decide +kernel
theorem dX12_lens_86 : decode cX12_lens 86 = .ok (.ireturn, 1) := by decide +kernel
theorem dX12_isLens_0 : decode cX12_isLens 0 = .ok (.iload_n 1, 1) := by decide +kernel
theorem dX12_isLens_1 : decode cX12_isLens 1 = .ok (.iconst 0, 1) := by decide +kernel
theorem dX12_isLens_2 : decode cX12_isLens 2 = .ok (.aload_n 0, 1) := by decide +kernel
theorem dX12_isLens_3 : decode cX12_isLens 3 = .ok (.getfield 7, 3) := by decide +kernel
theorem dX12_isLens_6 : decode cX12_isLens 6 = .ok (.iconst 1, 1) := by decide +kernel
theorem dX12_isLens_7 : decode cX12_isLens 7 = .ok (.iaload, 1) := by decide +kernel
theorem dX12_isLens_8 : decode cX12_isLens 8 = .ok (.iconst 1, 1) := by decide +kernel
theorem dX12_isLens_9 : decode cX12_isLens 9 = .ok (.isub, 1) := by decide +kernel
theorem dX12_isLens_10 : decode cX12_isLens 10 = .ok (.invokestatic 71, 3) := by decide +kernel
theorem dX12_isLens_13 : decode cX12_isLens 13 = .ok (.ireturn, 1) := by decide +kernel
theorem dX12_pair_0 : decode cX12_pair 0 = .ok (.aload_n 0, 1) := by decide +kernel
theorem dX12_pair_1 : decode cX12_pair 1 = .ok (.iload_n 1, 1) := by decide +kernel
theorem dX12_pair_2 : decode cX12_pair 2 = .ok (.invokevirtual 114, 3) := by decide +kernel
theorem dX12_pair_5 : decode cX12_pair 5 = .ok (.ifCond .eq 37, 3) := by decide +kernel
theorem dX12_pair_8 : decode cX12_pair 8 = .ok (.aload_n 0, 1) := by decide +kernel
theorem dX12_pair_9 : decode cX12_pair 9 = .ok (.iload_n 2, 1) := by decide +kernel
theorem dX12_pair_10 : decode cX12_pair 10 = .ok (.invokevirtual 114, 3) := by decide +kernel
theorem dX12_pair_13 : decode cX12_pair 13 = .ok (.ifCond .eq 29, 3) := by decide +kernel
theorem dX12_pair_16 : decode cX12_pair 16 = .ok (.iload_n 1, 1) := by decide +kernel
theorem dX12_pair_17 : decode cX12_pair 17 = .ok (.iload_n 2, 1) := by decide +kernel
theorem dX12_pair_18 : decode cX12_pair 18 = .ok (.if_icmp .eq 24, 3) := by decide +kernel
theorem dX12_pair_21 : decode cX12_pair 21 = .ok (.iload_n 3, 1) := by decide +kernel
theorem dX12_pair_22 : decode cX12_pair 22 = .ok (.iconst 1, 1) := by decide +kernel
theorem dX12_pair_23 : decode cX12_pair 23 = .ok (.bipush 8, 2) := by decide +kernel
theorem dX12_pair_25 : decode cX12_pair 25 = .ok (.invokestatic 71, 3) := by decide +kernel
theorem dX12_pair_28 : decode cX12_pair 28 = .ok (.ifCond .eq 14, 3) := by decide +kernel
theorem dX12_pair_31 : decode cX12_pair 31 = .ok (.aload_n 0, 1) := by decide +kernel
theorem dX12_pair_32 : decode cX12_pair 32 = .ok (.getfield 7, 3) := by decide +kernel
theorem dX12_pair_35 : decode cX12_pair 35 = .ok (.iconst 2, 1) := by decide +kernel
theorem dX12_pair_36 : decode cX12_pair 36 = .ok (.iaload, 1) := by decide +kernel
theorem dX12_pair_37 : decode cX12_pair 37 = .ok (.bipush 16, 2) := by decide +kernel
theorem dX12_pair_39 : decode cX12_pair 39 = .ok (.if_icmp .ne 5, 3) := by decide +kernel
theorem dX12_pair_42 : decode cX12_pair 42 = .ok (.iconst (-1), 1) := by decide +kernel
theorem dX12_pair_43 : decode cX12_pair 43 = .ok (.ireturn, 1) := by decide +kernel
theorem dX12_pair_44 : decode cX12_pair 44 = .ok (.sipush 660, 3) := by decide +kernel
theorem dX12_pair_47 : decode cX12_pair 47 = .ok (.iconst 3, 1) := by decide +kernel
theorem dX12_pair_48 : decode cX12_pair 48 = .ok (.aload_n 0, 1) := by decide +kernel
theorem dX12_pair_49 : decode cX12_pair 49 = .ok (.getfield 7, 3) := by decide +kernel
theorem dX12_pair_52 : decode cX12_pair 52 = .ok (.iconst 2, 1) := by decide +kernel
theorem dX12_pair_53 : decode cX12_pair 53 = .ok (.iaload, 1) := by decide +kernel
theorem dX12_pair_54 : decode cX12_pair 54 = .ok (.imul, 1) := by decide +kernel
theorem dX12_pair_55 : decode cX12_pair 55 = .ok (.iadd, 1) := by decide +kernel
theorem dX12_pair_56 : decode cX12_pair 56 = .ok (.istore 4, 2) := by decide +kernel
theorem dX12_pair_58 : decode cX12_pair 58 = .ok (.aload_n 0, 1) := by decide +kernel
theorem dX12_pair_59 : decode cX12_pair 59 = .ok (.getfield 7, 3) := by decide +kernel
theorem dX12_pair_62 : decode cX12_pair 62 = .ok (.iload 4, 2) := by decide +kernel
theorem dX12_pair_64 : decode cX12_pair 64 = .ok (.iload_n 1, 1) := by decide +kernel
theorem dX12_pair_65 : decode cX12_pair 65 = .ok (.iastore, 1) := by decide +kernel
theorem dX12_pair_66 : decode cX12_pair 66 = .ok (.aload_n 0, 1) := by decide +kernel
theorem dX12_pair_67 : decode cX12_pair 67 = .ok (.getfield 7, 3) := by decide +kernel
theorem dX12_pair_70 : decode cX12_pair 70 = .ok (.iload 4, 2) := by decide +kernel
theorem dX12_pair_72 : decode cX12_pair 72 = .ok (.iconst 1, 1) := by decide +kernel
theorem dX12_pair_73 : decode cX12_pair 73 = .ok (.iadd, 1) := by decide +kernel
theorem dX12_pair_74 : decode cX12_pair 74 = .ok (.iload_n 2, 1) := by decide +kernel
