theorem dX11_flown_7 : decode cX11_flown 7 = .ok (.astore_n 2, 1) := by decide +kernel
theorem dX11_flown_8 : decode cX11_flown 8 = .ok (.aload_n 2, 1) := by decide +kernel
theorem dX11_flown_9 : decode cX11_flown 9 = .ok (.getfield 253, 3) := by decide +kernel
theorem dX11_flown_12 : decode cX11_flown 12 = .ok (.ifCond .ne 5, 3) := by decide +kernel
theorem dX11_flown_15 : decode cX11_flown 15 = .ok (.iconst (-1), 1) := by decide +kernel
theorem dX11_flown_16 : decode cX11_flown 16 = .ok (.ireturn, 1) := by decide +kernel
theorem dX11_flown_17 : decode cX11_flown 17 = .ok (.iload_n 1, 1) := by decide +kernel
theorem dX11_flown_18 : decode cX11_flown 18 = .ok (.tableswitch 84 0 5 #[38, 43, 48, 53, 66, 79], 38) := by decide +kernel
theorem dX11_flown_56 : decode cX11_flown 56 = .ok (.aload_n 2, 1) := by decide +kernel
theorem dX11_flown_57 : decode cX11_flown 57 = .ok (.getfield 256, 3) := by decide +kernel
theorem dX11_flown_60 : decode cX11_flown 60 = .ok (.ireturn, 1) := by decide +kernel
theorem dX11_flown_61 : decode cX11_flown 61 = .ok (.aload_n 2, 1) := by decide +kernel
theorem dX11_flown_62 : decode cX11_flown 62 = .ok (.getfield 259, 3) := by decide +kernel
theorem dX11_flown_65 : decode cX11_flown 65 = .ok (.ireturn, 1) := by decide +kernel
theorem dX11_flown_66 : decode cX11_flown 66 = .ok (.aload_n 2, 1) := by decide +kernel
theorem dX11_flown_67 : decode cX11_flown 67 = .ok (.getfield 262, 3) := by decide +kernel
theorem dX11_flown_70 : decode cX11_flown 70 = .ok (.ireturn, 1) := by decide +kernel
theorem dX11_flown_71 : decode cX11_flown 71 = .ok (.aload_n 2, 1) := by decide +kernel
theorem dX11_flown_72 : decode cX11_flown 72 = .ok (.getfield 265, 3) := by decide +kernel
theorem dX11_flown_75 : decode cX11_flown 75 = .ok (.ifCond .eq 7, 3) := by decide +kernel
theorem dX11_flown_78 : decode cX11_flown 78 = .ok (.iconst 1, 1) := by decide +kernel
theorem dX11_flown_79 : decode cX11_flown 79 = .ok (.goto 4, 3) := by decide +kernel
theorem dX11_flown_82 : decode cX11_flown 82 = .ok (.iconst 0, 1) := by decide +kernel
theorem dX11_flown_83 : decode cX11_flown 83 = .ok (.ireturn, 1) := by decide +kernel
theorem dX11_flown_84 : decode cX11_flown 84 = .ok (.aload_n 2, 1) := by decide +kernel
theorem dX11_flown_85 : decode cX11_flown 85 = .ok (.getfield 268, 3) := by decide +kernel
theorem dX11_flown_88 : decode cX11_flown 88 = .ok (.ifCond .eq 7, 3) := by decide +kernel
theorem dX11_flown_91 : decode cX11_flown 91 = .ok (.iconst 1, 1) := by decide +kernel
theorem dX11_flown_92 : decode cX11_flown 92 = .ok (.goto 4, 3) := by decide +kernel
theorem dX11_flown_95 : decode cX11_flown 95 = .ok (.iconst 0, 1) := by decide +kernel
theorem dX11_flown_96 : decode cX11_flown 96 = .ok (.ireturn, 1) := by decide +kernel
theorem dX11_flown_97 : decode cX11_flown 97 = .ok (.aload_n 2, 1) := by decide +kernel
theorem dX11_flown_98 : decode cX11_flown 98 = .ok (.getfield 271, 3) := by decide +kernel
theorem dX11_flown_101 : decode cX11_flown 101 = .ok (.ireturn, 1) := by decide +kernel
theorem dX11_flown_102 : decode cX11_flown 102 = .ok (.iconst (-1), 1) := by decide +kernel
theorem dX11_flown_103 : decode cX11_flown 103 = .ok (.ireturn, 1) := by decide +kernel
theorem dX11_tick_0 : decode cX11_tick 0 = .ok (.aload_n 0, 1) := by decide +kernel
theorem dX11_tick_1 : decode cX11_tick 1 = .ok (.getfield 14, 3) := by decide +kernel
theorem dX11_tick_4 : decode cX11_tick 4 = .ok (.getfield 236, 3) := by decide +kernel
theorem dX11_tick_7 : decode cX11_tick 7 = .ok (.astore_n 3, 1) := by decide +kernel
theorem dX11_tick_8 : decode cX11_tick 8 = .ok (.iload_n 1, 1) := by decide +kernel
theorem dX11_tick_9 : decode cX11_tick 9 = .ok (.iconst 0, 1) := by decide +kernel
theorem dX11_tick_10 : decode cX11_tick 10 = .ok (.aload_n 3, 1) := by decide +kernel
theorem dX11_tick_11 : decode cX11_tick 11 = .ok (.getfield 248, 3) := by decide +kernel
theorem dX11_tick_14 : decode cX11_tick 14 = .ok (.iconst 1, 1) := by decide +kernel
theorem dX11_tick_15 : decode cX11_tick 15 = .ok (.isub, 1) := by decide +kernel
theorem dX11_tick_16 : decode cX11_tick 16 = .ok (.invokestatic 63, 3) := by decide +kernel
theorem dX11_tick_19 : decode cX11_tick 19 = .ok (.ifCond .ne 7, 3) := by decide +kernel
theorem dX11_tick_22 : decode cX11_tick 22 = .ok (.ldc_w 274, 3) := by decide +kernel
theorem dX11_tick_25 : decode cX11_tick 25 = .ok (.ireturn, 1) := by decide +kernel
theorem dX11_tick_26 : decode cX11_tick 26 = .ok (.iload_n 2, 1) := by decide +kernel
theorem dX11_tick_27 : decode cX11_tick 27 = .ok (.iconst 0, 1) := by decide +kernel
theorem dX11_tick_28 : decode cX11_tick 28 = .ok (.iconst 4, 1) := by decide +kernel
theorem dX11_tick_29 : decode cX11_tick 29 = .ok (.invokestatic 63, 3) := by decide +kernel
theorem dX11_tick_32 : decode cX11_tick 32 = .ok (.ifCond .eq 10, 3) := by decide +kernel
theorem dX11_tick_35 : decode cX11_tick 35 = .ok (.aload_n 3, 1) := by decide +kernel
theorem dX11_tick_36 : decode cX11_tick 36 = .ok (.iload_n 1, 1) := by decide +kernel
theorem dX11_tick_37 : decode cX11_tick 37 = .ok (.iload_n 2, 1) := by decide +kernel
theorem dX11_tick_38 : decode cX11_tick 38 = .ok (.invokevirtual 275, 3) := by decide +kernel
theorem dX11_tick_41 : decode cX11_tick 41 = .ok (.ireturn, 1) := by decide +kernel
theorem dX11_tick_42 : decode cX11_tick 42 = .ok (.iload_n 2, 1) := by decide +kernel
theorem dX11_tick_43 : decode cX11_tick 43 = .ok (.bipush 100, 2) := by decide +kernel
theorem dX11_tick_45 : decode cX11_tick 45 = .ok (.bipush 100, 2) := by decide +kernel
theorem dX11_tick_47 : decode cX11_tick 47 = .ok (.aload_n 3, 1) := by decide +kernel
theorem dX11_tick_48 : decode cX11_tick 48 = .ok (.getfield 278, 3) := by decide +kernel
theorem dX11_tick_51 : decode cX11_tick 51 = .ok (.iadd, 1) := by decide +kernel
theorem dX11_tick_52 : decode cX11_tick 52 = .ok (.iconst 1, 1) := by decide +kernel
theorem dX11_tick_53 : decode cX11_tick 53 = .ok (.isub, 1) := by decide +kernel
theorem dX11_tick_54 : decode cX11_tick 54 = .ok (.invokestatic 63, 3) := by decide +kernel
theorem dX11_tick_57 : decode cX11_tick 57 = .ok (.ifCond .eq 13, 3) := by decide +kernel
theorem dX11_tick_60 : decode cX11_tick 60 = .ok (.aload_n 3, 1) := by decide +kernel
theorem dX11_tick_61 : decode cX11_tick 61 = .ok (.iload_n 2, 1) := by decide +kernel
theorem dX11_tick_62 : decode cX11_tick 62 = .ok (.bipush 100, 2) := by decide +kernel
theorem dX11_tick_64 : decode cX11_tick 64 = .ok (.isub, 1) := by decide +kernel
theorem dX11_tick_65 : decode cX11_tick 65 = .ok (.iload_n 1, 1) := by decide +kernel
theorem dX11_tick_66 : decode cX11_tick 66 = .ok (.invokevirtual 279, 3) := by decide +kernel
theorem dX11_tick_69 : decode cX11_tick 69 = .ok (.ireturn, 1) := by decide +kernel
theorem dX11_tick_70 : decode cX11_tick 70 = .ok (.iload_n 2, 1) := by decide +kernel
theorem dX11_tick_71 : decode cX11_tick 71 = .ok (.sipush 200, 3) := by decide +kernel
theorem dX11_tick_74 : decode cX11_tick 74 = .ok (.sipush 200, 3) := by decide +kernel
theorem dX11_tick_77 : decode cX11_tick 77 = .ok (.aload_n 3, 1) := by decide +kernel
theorem dX11_tick_78 : decode cX11_tick 78 = .ok (.getfield 282, 3) := by decide +kernel
theorem dX11_tick_81 : decode cX11_tick 81 = .ok (.iadd, 1) := by decide +kernel
theorem dX11_tick_82 : decode cX11_tick 82 = .ok (.iconst 1, 1) := by decide +kernel
theorem dX11_tick_83 : decode cX11_tick 83 = .ok (.isub, 1) := by decide +kernel
theorem dX11_tick_84 : decode cX11_tick 84 = .ok (.invokestatic 63, 3) := by decide +kernel
theorem dX11_tick_87 : decode cX11_tick 87 = .ok (.ifCond .eq 21, 3) := by decide +kernel
theorem dX11_tick_90 : decode cX11_tick 90 = .ok (.aload_n 3, 1) := by decide +kernel
theorem dX11_tick_91 : decode cX11_tick 91 = .ok (.aload_n 0, 1) := by decide +kernel
theorem dX11_tick_92 : decode cX11_tick 92 = .ok (.getfield 14, 3) := by decide +kernel
theorem dX11_tick_95 : decode cX11_tick 95 = .ok (.getfield 103, 3) := by decide +kernel
theorem dX11_tick_98 : decode cX11_tick 98 = .ok (.iload_n 2, 1) := by decide +kernel
theorem dX11_tick_99 : decode cX11_tick 99 = .ok (.sipush 200, 3) := by decide +kernel
theorem dX11_tick_102 : decode cX11_tick 102 = .ok (.isub, 1) := by decide +kernel
theorem dX11_tick_103 : decode cX11_tick 103 = .ok (.iload_n 1, 1) := by decide +kernel
theorem dX11_tick_104 : decode cX11_tick 104 = .ok (.invokevirtual 283, 3) := by decide +kernel
theorem dX11_tick_107 : decode cX11_tick 107 = .ok (.ireturn, 1) := by decide +kernel
theorem dX11_tick_108 : decode cX11_tick 108 = .ok (.ldc_w 274, 3) := by decide +kernel
theorem dX11_tick_111 : decode cX11_tick 111 = .ok (.ireturn, 1) := by decide +kernel
theorem dX11_safe_0 : decode cX11_safe 0 = .ok (.aload_n 0, 1) := by decide +kernel
theorem dX11_safe_1 : decode cX11_safe 1 = .ok (.getfield 14, 3) := by decide +kernel
theorem dX11_safe_4 : decode cX11_safe 4 = .ok (.iload_n 1, 1) := by decide +kernel
theorem dX11_safe_5 : decode cX11_safe 5 = .ok (.invokevirtual 226, 3) := by decide +kernel
theorem dX11_safe_8 : decode cX11_safe 8 = .ok (.ifCond .eq 24, 3) := by decide +kernel
theorem dX11_safe_11 : decode cX11_safe 11 = .ok (.iload 7, 2) := by decide +kernel
theorem dX11_safe_13 : decode cX11_safe 13 = .ok (.iconst 1, 1) := by decide +kernel
theorem dX11_safe_14 : decode cX11_safe 14 = .ok (.bipush 60, 2) := by decide +kernel
theorem dX11_safe_16 : decode cX11_safe 16 = .ok (.invokestatic 63, 3) := by decide +kernel
theorem dX11_safe_19 : decode cX11_safe 19 = .ok (.ifCond .eq 13, 3) := by decide +kernel
theorem dX11_safe_22 : decode cX11_safe 22 = .ok (.iload 8, 2) := by decide +kernel
theorem dX11_safe_24 : decode cX11_safe 24 = .ok (.iconst 0, 1) := by decide +kernel
theorem dX11_safe_25 : decode cX11_safe 25 = .ok (.iconst 1, 1) := by decide +kernel
theorem dX11_safe_26 : decode cX11_safe 26 = .ok (.invokestatic 63, 3) := by decide +kernel
theorem dX11_safe_29 : decode cX11_safe 29 = .ok (.ifCond .ne 5, 3) := by decide +kernel
theorem dX11_safe_32 : decode cX11_safe 32 = .ok (.iconst (-1), 1) := by decide +kernel
theorem dX11_safe_33 : decode cX11_safe 33 = .ok (.ireturn, 1) := by decide +kernel
theorem dX11_safe_34 : decode cX11_safe 34 = .ok (.aload_n 0, 1) := by decide +kernel
theorem dX11_safe_35 : decode cX11_safe 35 = .ok (.iload_n 2, 1) := by decide +kernel
theorem dX11_safe_36 : decode cX11_safe 36 = .ok (.iload 4, 2) := by decide +kernel
theorem dX11_safe_38 : decode cX11_safe 38 = .ok (.iload 5, 2) := by decide +kernel
theorem dX11_safe_40 : decode cX11_safe 40 = .ok (.invokevirtual 147, 3) := by decide +kernel
theorem dX11_safe_43 : decode cX11_safe 43 = .ok (.ifCond .eq 27, 3) := by decide +kernel
theorem dX11_safe_46 : decode cX11_safe 46 = .ok (.aload_n 0, 1) := by decide +kernel
theorem dX11_safe_47 : decode cX11_safe 47 = .ok (.iload_n 3, 1) := by decide +kernel
theorem dX11_safe_48 : decode cX11_safe 48 = .ok (.iload 4, 2) := by decide +kernel
theorem dX11_safe_50 : decode cX11_safe 50 = .ok (.iload 6, 2) := by decide +kernel
theorem dX11_safe_52 : decode cX11_safe 52 = .ok (.invokevirtual 147, 3) := by decide +kernel
theorem dX11_safe_55 : decode cX11_safe 55 = .ok (.ifCond .eq 15, 3) := by decide +kernel
theorem dX11_safe_58 : decode cX11_safe 58 = .ok (.iload_n 2, 1) := by decide +kernel
theorem dX11_safe_59 : decode cX11_safe 59 = .ok (.iload_n 3, 1) := by decide +kernel
theorem dX11_safe_60 : decode cX11_safe 60 = .ok (.if_icmp .gt 10, 3) := by decide +kernel
theorem dX11_safe_63 : decode cX11_safe 63 = .ok (.iload 5, 2) := by decide +kernel
theorem dX11_safe_65 : decode cX11_safe 65 = .ok (.iload 6, 2) := by decide +kernel
theorem dX11_safe_67 : decode cX11_safe 67 = .ok (.if_icmp .le 5, 3) := by decide +kernel
theorem dX11_safe_70 : decode cX11_safe 70 = .ok (.iconst (-1), 1) := by decide +kernel
theorem dX11_safe_71 : decode cX11_safe 71 = .ok (.ireturn, 1) := by decide +kernel
theorem dX11_safe_72 : decode cX11_safe 72 = .ok (.iload 6, 2) := by decide +kernel
theorem dX11_safe_74 : decode cX11_safe 74 = .ok (.iload 5, 2) := by decide +kernel
theorem dX11_safe_76 : decode cX11_safe 76 = .ok (.isub, 1) := by decide +kernel
theorem dX11_safe_77 : decode cX11_safe 77 = .ok (.iconst 1, 1) := by decide +kernel
theorem dX11_safe_78 : decode cX11_safe 78 = .ok (.iadd, 1) := by decide +kernel
theorem dX11_safe_79 : decode cX11_safe 79 = .ok (.istore 9, 2) := by decide +kernel
theorem dX11_safe_81 : decode cX11_safe 81 = .ok (.iload_n 3, 1) := by decide +kernel
theorem dX11_safe_82 : decode cX11_safe 82 = .ok (.iload_n 2, 1) := by decide +kernel
theorem dX11_safe_83 : decode cX11_safe 83 = .ok (.isub, 1) := by decide +kernel
theorem dX11_safe_84 : decode cX11_safe 84 = .ok (.bipush 16, 2) := by decide +kernel
theorem dX11_safe_86 : decode cX11_safe 86 = .ok (.idiv, 1) := by decide +kernel
theorem dX11_safe_87 : decode cX11_safe 87 = .ok (.iconst 1, 1) := by decide +kernel
theorem dX11_safe_88 : decode cX11_safe 88 = .ok (.iadd, 1) := by decide +kernel
theorem dX11_safe_89 : decode cX11_safe 89 = .ok (.iload 9, 2) := by decide +kernel
theorem dX11_safe_91 : decode cX11_safe 91 = .ok (.imul, 1) := by decide +kernel
theorem dX11_safe_92 : decode cX11_safe 92 = .ok (.istore 10, 2) := by decide +kernel
theorem dX11_safe_94 : decode cX11_safe 94 = .ok (.iload 10, 2) := by decide +kernel
theorem dX11_safe_96 : decode cX11_safe 96 = .ok (.bipush 64, 2) := by decide +kernel
theorem dX11_safe_98 : decode cX11_safe 98 = .ok (.if_icmp .le 5, 3) := by decide +kernel
theorem dX11_safe_101 : decode cX11_safe 101 = .ok (.iconst (-1), 1) := by decide +kernel
theorem dX11_safe_102 : decode cX11_safe 102 = .ok (.ireturn, 1) := by decide +kernel
theorem dX11_safe_103 : decode cX11_safe 103 = .ok (.aload_n 0, 1) := by decide +kernel
theorem dX11_safe_104 : decode cX11_safe 104 = .ok (.getfield 39, 3) := by decide +kernel
theorem dX11_safe_107 : decode cX11_safe 107 = .ok (.ldc 232, 2) := by decide +kernel
theorem dX11_safe_109 : decode cX11_safe 109 = .ok (.invokevirtual 233, 3) := by decide +kernel
theorem dX11_safe_112 : decode cX11_safe 112 = .ok (.iload_n 2, 1) := by decide +kernel
theorem dX11_safe_113 : decode cX11_safe 113 = .ok (.istore 11, 2) := by decide +kernel
theorem dX11_safe_115 : decode cX11_safe 115 = .ok (.iload 11, 2) := by decide +kernel
theorem dX11_safe_117 : decode cX11_safe 117 = .ok (.iload_n 3, 1) := by decide +kernel
theorem dX11_safe_118 : decode cX11_safe 118 = .ok (.if_icmp .gt 76, 3) := by decide +kernel
theorem dX11_safe_121 : decode cX11_safe 121 = .ok (.iload 5, 2) := by decide +kernel
theorem dX11_safe_123 : decode cX11_safe 123 = .ok (.istore 12, 2) := by decide +kernel
theorem dX11_safe_125 : decode cX11_safe 125 = .ok (.iload 12, 2) := by decide +kernel
theorem dX11_safe_127 : decode cX11_safe 127 = .ok (.iload 6, 2) := by decide +kernel
theorem dX11_safe_129 : decode cX11_safe 129 = .ok (.if_icmp .gt 59, 3) := by decide +kernel
theorem dX11_safe_132 : decode cX11_safe 132 = .ok (.aload_n 0, 1) := by decide +kernel
theorem dX11_safe_133 : decode cX11_safe 133 = .ok (.getfield 14, 3) := by decide +kernel
theorem dX11_safe_136 : decode cX11_safe 136 = .ok (.getfield 23, 3) := by decide +kernel
theorem dX11_safe_139 : decode cX11_safe 139 = .ok (.iload 11, 2) := by decide +kernel
theorem dX11_safe_141 : decode cX11_safe 141 = .ok (.iload 4, 2) := by decide +kernel
theorem dX11_safe_143 : decode cX11_safe 143 = .ok (.iconst 0, 1) := by decide +kernel
theorem dX11_safe_144 : decode cX11_safe 144 = .ok (.invokevirtual 229, 3) := by decide +kernel
theorem dX11_safe_147 : decode cX11_safe 147 = .ok (.ifCond .eq 35, 3) := by decide +kernel
theorem dX11_safe_150 : decode cX11_safe 150 = .ok (.aload_n 0, 1) := by decide +kernel
theorem dX11_safe_151 : decode cX11_safe 151 = .ok (.getfield 39, 3) := by decide +kernel
theorem dX11_safe_154 : decode cX11_safe 154 = .ok (.iload_n 1, 1) := by decide +kernel
theorem dX11_safe_155 : decode cX11_safe 155 = .ok (.iload 11, 2) := by decide +kernel
theorem dX11_safe_157 : decode cX11_safe 157 = .ok (.iload 4, 2) := by decide +kernel
theorem dX11_safe_159 : decode cX11_safe 159 = .ok (.iload 12, 2) := by decide +kernel
theorem dX11_safe_161 : decode cX11_safe 161 = .ok (.iload 7, 2) := by decide +kernel
theorem dX11_safe_163 : decode cX11_safe 163 = .ok (.invokevirtual 287, 3) := by decide +kernel
theorem dX11_safe_166 : decode cX11_safe 166 = .ok (.ifCond .eq 16, 3) := by decide +kernel
theorem dX11_safe_169 : decode cX11_safe 169 = .ok (.iload 8, 2) := by decide +kernel
theorem dX11_safe_171 : decode cX11_safe 171 = .ok (.ifCond .ne 8, 3) := by decide +kernel
theorem dX11_safe_174 : decode cX11_safe 174 = .ok (.iload 11, 2) := by decide +kernel
theorem dX11_safe_176 : decode cX11_safe 176 = .ok (.goto 5, 3) := by decide +kernel
theorem dX11_safe_179 : decode cX11_safe 179 = .ok (.iload 12, 2) := by decide +kernel
theorem dX11_safe_181 : decode cX11_safe 181 = .ok (.ireturn, 1) := by decide +kernel
theorem dX11_safe_182 : decode cX11_safe 182 = .ok (.iinc 12 1, 3) := by decide +kernel
theorem dX11_safe_185 : decode cX11_safe 185 = .ok (.goto (-60), 3) := by decide +kernel
theorem dX11_safe_188 : decode cX11_safe 188 = .ok (.iinc 11 16, 3) := by decide +kernel
theorem dX11_safe_191 : decode cX11_safe 191 = .ok (.goto (-76), 3) := by decide +kernel
theorem dX11_safe_194 : decode cX11_safe 194 = .ok (.iconst (-1), 1) := by decide +kernel
theorem dX11_safe_195 : decode cX11_safe 195 = .ok (.ireturn, 1) := by decide +kernel
theorem dX11_read_0 : decode cX11_read 0 = .ok (.aload_n 0, 1) := by decide +kernel
theorem dX11_read_1 : decode cX11_read 1 = .ok (.getfield 14, 3) := by decide +kernel
theorem dX11_read_4 : decode cX11_read 4 = .ok (.getfield 291, 3) := by decide +kernel
theorem dX11_read_7 : decode cX11_read 7 = .ok (.astore 4, 2) := by decide +kernel
theorem dX11_read_9 : decode cX11_read 9 = .ok (.aload_n 0, 1) := by decide +kernel
theorem dX11_read_10 : decode cX11_read 10 = .ok (.iload_n 1, 1) := by decide +kernel
theorem dX11_read_11 : decode cX11_read 11 = .ok (.iload_n 2, 1) := by decide +kernel
theorem dX11_read_12 : decode cX11_read 12 = .ok (.iload_n 3, 1) := by decide +kernel
theorem dX11_read_13 : decode cX11_read 13 = .ok (.invokevirtual 147, 3) := by decide +kernel
theorem dX11_read_16 : decode cX11_read 16 = .ok (.ifCond .eq 13, 3) := by decide +kernel
theorem dX11_read_19 : decode cX11_read 19 = .ok (.aload 4, 2) := by decide +kernel
theorem dX11_read_21 : decode cX11_read 21 = .ok (.getfield 295, 3) := by decide +kernel
theorem dX11_read_24 : decode cX11_read 24 = .ok (.bipush 6, 2) := by decide +kernel
theorem dX11_read_26 : decode cX11_read 26 = .ok (.if_icmp .lt 5, 3) := by decide +kernel
theorem dX11_read_29 : decode cX11_read 29 = .ok (.iconst (-1), 1) := by decide +kernel
theorem dX11_read_30 : decode cX11_read 30 = .ok (.ireturn, 1) := by decide +kernel
theorem dX11_read_31 : decode cX11_read 31 = .ok (.aload 4, 2) := by decide +kernel
theorem dX11_read_33 : decode cX11_read 33 = .ok (.getfield 295, 3) := by decide +kernel
theorem dX11_read_36 : decode cX11_read 36 = .ok (.istore 5, 2) := by decide +kernel
theorem dX11_read_38 : decode cX11_read 38 = .ok (.aload 4, 2) := by decide +kernel
theorem dX11_read_40 : decode cX11_read 40 = .ok (.getfield 298, 3) := by decide +kernel
theorem dX11_read_43 : decode cX11_read 43 = .ok (.iload 5, 2) := by decide +kernel
theorem dX11_read_45 : decode cX11_read 45 = .ok (.iload_n 1, 1) := by decide +kernel
theorem dX11_read_46 : decode cX11_read 46 = .ok (.iastore, 1) := by decide +kernel
theorem dX11_read_47 : decode cX11_read 47 = .ok (.aload 4, 2) := by decide +kernel
theorem dX11_read_49 : decode cX11_read 49 = .ok (.getfield 300, 3) := by decide +kernel
theorem dX11_read_52 : decode cX11_read 52 = .ok (.iload 5, 2) := by decide +kernel
theorem dX11_read_54 : decode cX11_read 54 = .ok (.iload_n 2, 1) := by decide +kernel
theorem dX11_read_55 : decode cX11_read 55 = .ok (.iastore, 1) := by decide +kernel
theorem dX11_read_56 : decode cX11_read 56 = .ok (.aload 4, 2) := by decide +kernel
theorem dX11_read_58 : decode cX11_read 58 = .ok (.getfield 302, 3) := by decide +kernel
theorem dX11_read_61 : decode cX11_read 61 = .ok (.iload 5, 2) := by decide +kernel
theorem dX11_read_63 : decode cX11_read 63 = .ok (.iload_n 3, 1) := by decide +kernel
theorem dX11_read_64 : decode cX11_read 64 = .ok (.iastore, 1) := by decide +kernel
theorem dX11_read_65 : decode cX11_read 65 = .ok (.aload 4, 2) := by decide +kernel
theorem dX11_read_67 : decode cX11_read 67 = .ok (.getfield 304, 3) := by decide +kernel
theorem dX11_read_70 : decode cX11_read 70 = .ok (.iload 5, 2) := by decide +kernel
theorem dX11_read_72 : decode cX11_read 72 = .ok (.iconst 0, 1) := by decide +kernel
theorem dX11_read_73 : decode cX11_read 73 = .ok (.iastore, 1) := by decide +kernel
theorem dX11_read_74 : decode cX11_read 74 = .ok (.aload 4, 2) := by decide +kernel
theorem dX11_read_76 : decode cX11_read 76 = .ok (.iload 5, 2) := by decide +kernel
theorem dX11_read_78 : decode cX11_read 78 = .ok (.iconst 1, 1) := by decide +kernel
theorem dX11_read_79 : decode cX11_read 79 = .ok (.iadd, 1) := by decide +kernel
theorem dX11_read_80 : decode cX11_read 80 = .ok (.putfield 295, 3) := by decide +kernel
theorem dX11_read_83 : decode cX11_read 83 = .ok (.iload 5, 2) := by decide +kernel
theorem dX11_read_85 : decode cX11_read 85 = .ok (.ireturn, 1) := by decide +kernel
theorem dX11_turned_0 : decode cX11_turned 0 = .ok (.aload_n 0, 1) := by decide +kernel
theorem dX11_turned_1 : decode cX11_turned 1 = .ok (.getfield 14, 3) := by decide +kernel
theorem dX11_turned_4 : decode cX11_turned 4 = .ok (.getfield 291, 3) := by decide +kernel
theorem dX11_turned_7 : decode cX11_turned 7 = .ok (.astore_n 3, 1) := by decide +kernel
theorem dX11_turned_8 : decode cX11_turned 8 = .ok (.iload_n 1, 1) := by decide +kernel
theorem dX11_turned_9 : decode cX11_turned 9 = .ok (.iconst 0, 1) := by decide +kernel
theorem dX11_turned_10 : decode cX11_turned 10 = .ok (.aload_n 3, 1) := by decide +kernel
theorem dX11_turned_11 : decode cX11_turned 11 = .ok (.getfield 295, 3) := by decide +kernel
theorem dX11_turned_14 : decode cX11_turned 14 = .ok (.iconst 1, 1) := by decide +kernel
theorem dX11_turned_15 : decode cX11_turned 15 = .ok (.isub, 1) := by decide +kernel
theorem dX11_turned_16 : decode cX11_turned 16 = .ok (.invokestatic 63, 3) := by decide +kernel
theorem dX11_turned_19 : decode cX11_turned 19 = .ok (.ifCond .eq 14, 3) := by decide +kernel
theorem dX11_turned_22 : decode cX11_turned 22 = .ok (.iload_n 2, 1) := by decide +kernel
theorem dX11_turned_23 : decode cX11_turned 23 = .ok (.bipush (-8), 2) := by decide +kernel
theorem dX11_turned_25 : decode cX11_turned 25 = .ok (.bipush 8, 2) := by decide +kernel
theorem dX11_turned_27 : decode cX11_turned 27 = .ok (.invokestatic 63, 3) := by decide +kernel
theorem dX11_turned_30 : decode cX11_turned 30 = .ok (.ifCond .ne 5, 3) := by decide +kernel
theorem dX11_turned_33 : decode cX11_turned 33 = .ok (.iconst (-1), 1) := by decide +kernel
theorem dX11_turned_34 : decode cX11_turned 34 = .ok (.ireturn, 1) := by decide +kernel
theorem dX11_turned_35 : decode cX11_turned 35 = .ok (.aload_n 3, 1) := by decide +kernel
theorem dX11_turned_36 : decode cX11_turned 36 = .ok (.getfield 304, 3) := by decide +kernel
theorem dX11_turned_39 : decode cX11_turned 39 = .ok (.iload_n 1, 1) := by decide +kernel
theorem dX11_turned_40 : decode cX11_turned 40 = .ok (.iaload, 1) := by decide +kernel
theorem dX11_turned_41 : decode cX11_turned 41 = .ok (.istore 4, 2) := by decide +kernel
theorem dX11_turned_43 : decode cX11_turned 43 = .ok (.iload 4, 2) := by decide +kernel
theorem dX11_turned_45 : decode cX11_turned 45 = .ok (.bipush 20, 2) := by decide +kernel
theorem dX11_turned_47 : decode cX11_turned 47 = .ok (.if_icmp .lt 5, 3) := by decide +kernel
theorem dX11_turned_50 : decode cX11_turned 50 = .ok (.iconst (-1), 1) := by decide +kernel
theorem dX11_turned_51 : decode cX11_turned 51 = .ok (.ireturn, 1) := by decide +kernel
theorem dX11_turned_52 : decode cX11_turned 52 = .ok (.aload_n 3, 1) := by decide +kernel
theorem dX11_turned_53 : decode cX11_turned 53 = .ok (.getfield 307, 3) := by decide +kernel
theorem dX11_turned_56 : decode cX11_turned 56 = .ok (.iload_n 1, 1) := by decide +kernel
theorem dX11_turned_57 : decode cX11_turned 57 = .ok (.bipush 20, 2) := by decide +kernel
theorem dX11_turned_59 : decode cX11_turned 59 = .ok (.imul, 1) := by decide +kernel
theorem dX11_turned_60 : decode cX11_turned 60 = .ok (.iload 4, 2) := by decide +kernel
theorem dX11_turned_62 : decode cX11_turned 62 = .ok (.iadd, 1) := by decide +kernel
theorem dX11_turned_63 : decode cX11_turned 63 = .ok (.iload_n 2, 1) := by decide +kernel
theorem dX11_turned_64 : decode cX11_turned 64 = .ok (.iastore, 1) := by decide +kernel
theorem dX11_turned_65 : decode cX11_turned 65 = .ok (.aload_n 3, 1) := by decide +kernel
theorem dX11_turned_66 : decode cX11_turned 66 = .ok (.getfield 304, 3) := by decide +kernel
theorem dX11_turned_69 : decode cX11_turned 69 = .ok (.iload_n 1, 1) := by decide +kernel
theorem dX11_turned_70 : decode cX11_turned 70 = .ok (.iload 4, 2) := by decide +kernel
theorem dX11_turned_72 : decode cX11_turned 72 = .ok (.iconst 1, 1) := by decide +kernel
theorem dX11_turned_73 : decode cX11_turned 73 = .ok (.iadd, 1) := by decide +kernel
theorem dX11_turned_74 : decode cX11_turned 74 = .ok (.iastore, 1) := by decide +kernel
theorem dX11_turned_75 : decode cX11_turned 75 = .ok (.iload 4, 2) := by decide +kernel
theorem dX11_turned_77 : decode cX11_turned 77 = .ok (.iconst 1, 1) := by decide +kernel
theorem dX11_turned_78 : decode cX11_turned 78 = .ok (.iadd, 1) := by decide +kernel
theorem dX11_turned_79 : decode cX11_turned 79 = .ok (.ireturn, 1) := by decide +kernel
theorem dX11_kept_0 : decode cX11_kept 0 = .ok (.aload_n 0, 1) := by decide +kernel
theorem dX11_kept_1 : decode cX11_kept 1 = .ok (.getfield 39, 3) := by decide +kernel
theorem dX11_kept_4 : decode cX11_kept 4 = .ok (.ldc 232, 2) := by decide +kernel
theorem dX11_kept_6 : decode cX11_kept 6 = .ok (.invokevirtual 233, 3) := by decide +kernel
theorem dX11_kept_9 : decode cX11_kept 9 = .ok (.aload_n 0, 1) := by decide +kernel
theorem dX11_kept_10 : decode cX11_kept 10 = .ok (.getfield 14, 3) := by decide +kernel
theorem dX11_kept_13 : decode cX11_kept 13 = .ok (.iload_n 1, 1) := by decide +kernel
theorem dX11_kept_14 : decode cX11_kept 14 = .ok (.invokevirtual 226, 3) := by decide +kernel
theorem dX11_kept_17 : decode cX11_kept 17 = .ok (.ifCond .eq 20, 3) := by decide +kernel
theorem dX11_kept_20 : decode cX11_kept 20 = .ok (.aload_n 0, 1) := by decide +kernel
theorem dX11_kept_21 : decode cX11_kept 21 = .ok (.getfield 39, 3) := by decide +kernel
theorem dX11_kept_24 : decode cX11_kept 24 = .ok (.iload_n 1, 1) := by decide +kernel
theorem dX11_kept_25 : decode cX11_kept 25 = .ok (.invokevirtual 310, 3) := by decide +kernel
theorem dX11_kept_28 : decode cX11_kept 28 = .ok (.ifCond .eq 7, 3) := by decide +kernel
theorem dX11_kept_31 : decode cX11_kept 31 = .ok (.iconst 1, 1) := by decide +kernel
theorem dX11_kept_32 : decode cX11_kept 32 = .ok (.goto 4, 3) := by decide +kernel
theorem dX11_kept_35 : decode cX11_kept 35 = .ok (.iconst 0, 1) := by decide +kernel
theorem dX11_kept_36 : decode cX11_kept 36 = .ok (.ireturn, 1) := by decide +kernel
theorem dX11_kept_37 : decode cX11_kept 37 = .ok (.iload_n 1, 1) := by decide +kernel
theorem dX11_kept_38 : decode cX11_kept 38 = .ok (.iconst (-1), 1) := by decide +kernel
theorem dX11_kept_39 : decode cX11_kept 39 = .ok (.if_icmp .ne 16, 3) := by decide +kernel
theorem dX11_kept_42 : decode cX11_kept 42 = .ok (.aload_n 0, 1) := by decide +kernel
theorem dX11_kept_43 : decode cX11_kept 43 = .ok (.getfield 39, 3) := by decide +kernel
theorem dX11_kept_46 : decode cX11_kept 46 = .ok (.invokevirtual 313, 3) := by decide +kernel
theorem dX11_kept_49 : decode cX11_kept 49 = .ok (.invokestatic 316, 3) := by decide +kernel
theorem dX11_kept_52 : decode cX11_kept 52 = .ok (.goto 4, 3) := by decide +kernel
theorem dX11_kept_55 : decode cX11_kept 55 = .ok (.iconst (-1), 1) := by decide +kernel
theorem dX11_kept_56 : decode cX11_kept 56 = .ok (.ireturn, 1) := by decide +kernel
theorem dX11_parts_0 : decode cX11_parts 0 = .ok (.aload_n 0, 1) := by decide +kernel
theorem dX11_parts_1 : decode cX11_parts 1 = .ok (.getfield 14, 3) := by decide +kernel
theorem dX11_parts_4 : decode cX11_parts 4 = .ok (.getfield 23, 3) := by decide +kernel
theorem dX11_parts_7 : decode cX11_parts 7 = .ok (.astore_n 3, 1) := by decide +kernel
theorem dX11_parts_8 : decode cX11_parts 8 = .ok (.iload_n 1, 1) := by decide +kernel
theorem dX11_parts_9 : decode cX11_parts 9 = .ok (.iconst 0, 1) := by decide +kernel
theorem dX11_parts_10 : decode cX11_parts 10 = .ok (.aload_n 3, 1) := by decide +kernel
theorem dX11_parts_11 : decode cX11_parts 11 = .ok (.getfield 184, 3) := by decide +kernel
theorem dX11_parts_14 : decode cX11_parts 14 = .ok (.iconst 1, 1) := by decide +kernel
theorem dX11_parts_15 : decode cX11_parts 15 = .ok (.isub, 1) := by decide +kernel
theorem dX11_parts_16 : decode cX11_parts 16 = .ok (.invokestatic 63, 3) := by decide +kernel
theorem dX11_parts_19 : decode cX11_parts 19 = .ok (.ifCond .eq 12, 3) := by decide +kernel
theorem dX11_parts_22 : decode cX11_parts 22 = .ok (.iload_n 2, 1) := by decide +kernel
theorem dX11_parts_23 : decode cX11_parts 23 = .ok (.iconst 0, 1) := by decide +kernel
theorem dX11_parts_24 : decode cX11_parts 24 = .ok (.iconst 2, 1) := by decide +kernel
theorem dX11_parts_25 : decode cX11_parts 25 = .ok (.invokestatic 63, 3) := by decide +kernel
theorem dX11_parts_28 : decode cX11_parts 28 = .ok (.ifCond .ne 5, 3) := by decide +kernel
theorem dX11_parts_31 : decode cX11_parts 31 = .ok (.iconst (-1), 1) := by decide +kernel
theorem dX11_parts_32 : decode cX11_parts 32 = .ok (.ireturn, 1) := by decide +kernel
theorem dX11_parts_33 : decode cX11_parts 33 = .ok (.aload_n 0, 1) := by decide +kernel
theorem dX11_parts_34 : decode cX11_parts 34 = .ok (.getfield 39, 3) := by decide +kernel
theorem dX11_parts_37 : decode cX11_parts 37 = .ok (.ldc 232, 2) := by decide +kernel
theorem dX11_parts_39 : decode cX11_parts 39 = .ok (.invokevirtual 233, 3) := by decide +kernel
theorem dX11_parts_42 : decode cX11_parts 42 = .ok (.aload_n 0, 1) := by decide +kernel
theorem dX11_parts_43 : decode cX11_parts 43 = .ok (.getfield 39, 3) := by decide +kernel
theorem dX11_parts_46 : decode cX11_parts 46 = .ok (.invokevirtual 313, 3) := by decide +kernel
theorem dX11_parts_49 : decode cX11_parts 49 = .ok (.istore 4, 2) := by decide +kernel
theorem dX11_parts_51 : decode cX11_parts 51 = .ok (.iconst 1, 1) := by decide +kernel
theorem dX11_parts_52 : decode cX11_parts 52 = .ok (.istore 5, 2) := by decide +kernel
theorem dX11_parts_54 : decode cX11_parts 54 = .ok (.iconst (-1), 1) := by decide +kernel
theorem dX11_parts_55 : decode cX11_parts 55 = .ok (.istore 6, 2) := by decide +kernel
theorem dX11_parts_57 : decode cX11_parts 57 = .ok (.iconst (-1), 1) := by decide +kernel
theorem dX11_parts_58 : decode cX11_parts 58 = .ok (.istore 7, 2) := by decide +kernel
theorem dX11_parts_60 : decode cX11_parts 60 = .ok (.iload_n 1, 1) := by decide +kernel
theorem dX11_parts_61 : decode cX11_parts 61 = .ok (.bipush 16, 2) := by decide +kernel
theorem dX11_parts_63 : decode cX11_parts 63 = .ok (.imul, 1) := by decide +kernel
theorem dX11_parts_64 : decode cX11_parts 64 = .ok (.bipush 8, 2) := by decide +kernel
theorem dX11_parts_66 : decode cX11_parts 66 = .ok (.iadd, 1) := by decide +kernel
theorem dX11_parts_67 : decode cX11_parts 67 = .ok (.istore 8, 2) := by decide +kernel
theorem dX11_parts_69 : decode cX11_parts 69 = .ok (.bipush 8, 2) := by decide +kernel
theorem dX11_parts_71 : decode cX11_parts 71 = .ok (.istore 9, 2) := by decide +kernel
theorem dX11_parts_73 : decode cX11_parts 73 = .ok (.iload 9, 2) := by decide +kernel
theorem dX11_parts_75 : decode cX11_parts 75 = .ok (.aload_n 3, 1) := by decide +kernel
theorem dX11_parts_76 : decode cX11_parts 76 = .ok (.getfield 84, 3) := by decide +kernel
theorem dX11_parts_79 : decode cX11_parts 79 = .ok (.bipush 16, 2) := by decide +kernel
theorem dX11_parts_81 : decode cX11_parts 81 = .ok (.imul, 1) := by decide +kernel
theorem dX11_parts_82 : decode cX11_parts 82 = .ok (.if_icmp .ge 73, 3) := by decide +kernel
theorem dX11_parts_85 : decode cX11_parts 85 = .ok (.iconst 0, 1) := by decide +kernel
theorem dX11_parts_86 : decode cX11_parts 86 = .ok (.istore 10, 2) := by decide +kernel
theorem dX11_parts_88 : decode cX11_parts 88 = .ok (.iload 10, 2) := by decide +kernel
theorem dX11_parts_90 : decode cX11_parts 90 = .ok (.bipush 64, 2) := by decide +kernel
theorem dX11_parts_92 : decode cX11_parts 92 = .ok (.if_icmp .ge 57, 3) := by decide +kernel
theorem dX11_parts_95 : decode cX11_parts 95 = .ok (.aload_n 3, 1) := by decide +kernel
theorem dX11_parts_96 : decode cX11_parts 96 = .ok (.iload 9, 2) := by decide +kernel
theorem dX11_parts_98 : decode cX11_parts 98 = .ok (.iload 8, 2) := by decide +kernel
theorem dX11_parts_100 : decode cX11_parts 100 = .ok (.iconst 0, 1) := by decide +kernel
theorem dX11_parts_101 : decode cX11_parts 101 = .ok (.invokevirtual 229, 3) := by decide +kernel
theorem dX11_parts_104 : decode cX11_parts 104 = .ok (.ifCond .eq 45, 3) := by decide +kernel
theorem dX11_parts_107 : decode cX11_parts 107 = .ok (.aload_n 0, 1) := by decide +kernel
theorem dX11_parts_108 : decode cX11_parts 108 = .ok (.getfield 39, 3) := by decide +kernel
theorem dX11_parts_111 : decode cX11_parts 111 = .ok (.iload 4, 2) := by decide +kernel
theorem dX11_parts_113 : decode cX11_parts 113 = .ok (.iload 9, 2) := by decide +kernel
theorem dX11_parts_115 : decode cX11_parts 115 = .ok (.iload 8, 2) := by decide +kernel
theorem dX11_parts_117 : decode cX11_parts 117 = .ok (.iload 10, 2) := by decide +kernel
theorem dX11_parts_119 : decode cX11_parts 119 = .ok (.invokevirtual 321, 3) := by decide +kernel
theorem dX11_parts_122 : decode cX11_parts 122 = .ok (.istore 11, 2) := by decide +kernel
theorem dX11_parts_124 : decode cX11_parts 124 = .ok (.iload 11, 2) := by decide +kernel
theorem dX11_parts_126 : decode cX11_parts 126 = .ok (.iload 5, 2) := by decide +kernel
theorem dX11_parts_128 : decode cX11_parts 128 = .ok (.if_icmp .le 15, 3) := by decide +kernel
theorem dX11_parts_131 : decode cX11_parts 131 = .ok (.iload 11, 2) := by decide +kernel
theorem dX11_parts_133 : decode cX11_parts 133 = .ok (.istore 5, 2) := by decide +kernel
theorem dX11_parts_135 : decode cX11_parts 135 = .ok (.iload 9, 2) := by decide +kernel
theorem dX11_parts_137 : decode cX11_parts 137 = .ok (.istore 6, 2) := by decide +kernel
theorem dX11_parts_139 : decode cX11_parts 139 = .ok (.iload 10, 2) := by decide +kernel
theorem dX11_parts_141 : decode cX11_parts 141 = .ok (.istore 7, 2) := by decide +kernel
theorem dX11_parts_143 : decode cX11_parts 143 = .ok (.iinc 10 8, 3) := by decide +kernel
theorem dX11_parts_146 : decode cX11_parts 146 = .ok (.goto (-58), 3) := by decide +kernel
theorem dX11_parts_149 : decode cX11_parts 149 = .ok (.iinc 9 16, 3) := by decide +kernel
theorem dX11_parts_152 : decode cX11_parts 152 = .ok (.goto (-79), 3) := by decide +kernel
theorem dX11_parts_155 : decode cX11_parts 155 = .ok (.iload 6, 2) := by decide +kernel
theorem dX11_parts_157 : decode cX11_parts 157 = .ok (.iconst (-1), 1) := by decide +kernel
theorem dX11_parts_158 : decode cX11_parts 158 = .ok (.if_icmp .eq 7, 3) := by decide +kernel
theorem dX11_parts_161 : decode cX11_parts 161 = .ok (.iload_n 2, 1) := by decide +kernel
theorem dX11_parts_162 : decode cX11_parts 162 = .ok (.ifCond .ne 6, 3) := by decide +kernel
theorem dX11_parts_165 : decode cX11_parts 165 = .ok (.iload 6, 2) := by decide +kernel
theorem dX11_parts_167 : decode cX11_parts 167 = .ok (.ireturn, 1) := by decide +kernel
theorem dX11_parts_168 : decode cX11_parts 168 = .ok (.iload_n 2, 1) := by decide +kernel
theorem dX11_parts_169 : decode cX11_parts 169 = .ok (.iconst 1, 1) := by decide +kernel
theorem dX11_parts_170 : decode cX11_parts 170 = .ok (.if_icmp .ne 8, 3) := by decide +kernel
theorem dX11_parts_173 : decode cX11_parts 173 = .ok (.iload 7, 2) := by decide +kernel
theorem dX11_parts_175 : decode cX11_parts 175 = .ok (.goto 5, 3) := by decide +kernel
theorem dX11_parts_178 : decode cX11_parts 178 = .ok (.iload 5, 2) := by decide +kernel
theorem dX11_parts_180 : decode cX11_parts 180 = .ok (.ireturn, 1) := by decide +kernel
theorem dX11_image_0 : decode cX11_image 0 = .ok (.aload_n 0, 1) := by decide +kernel
theorem dX11_image_1 : decode cX11_image 1 = .ok (.getfield 18, 3) := by decide +kernel
theorem dX11_image_4 : decode cX11_image 4 = .ok (.aload_n 0, 1) := by decide +kernel
theorem dX11_image_5 : decode cX11_image 5 = .ok (.getfield 14, 3) := by decide +kernel
theorem dX11_image_8 : decode cX11_image 8 = .ok (.invokevirtual 325, 3) := by decide +kernel
theorem dX11_image_11 : decode cX11_image 11 = .ok (.aload_n 0, 1) := by decide +kernel
theorem dX11_image_12 : decode cX11_image 12 = .ok (.getfield 14, 3) := by decide +kernel
theorem dX11_image_15 : decode cX11_image 15 = .ok (.getfield 202, 3) := by decide +kernel
theorem dX11_image_18 : decode cX11_image 18 = .ok (.ireturn, 1) := by decide +kernel
theorem dX11_back_0 : decode cX11_back 0 = .ok (.aload_n 0, 1) := by decide +kernel
theorem dX11_back_1 : decode cX11_back 1 = .ok (.getfield 14, 3) := by decide +kernel
theorem dX11_back_4 : decode cX11_back 4 = .ok (.aload_n 0, 1) := by decide +kernel
theorem dX11_back_5 : decode cX11_back 5 = .ok (.getfield 18, 3) := by decide +kernel
theorem dX11_back_8 : decode cX11_back 8 = .ok (.invokevirtual 325, 3) := by decide +kernel
theorem dX11_back_11 : decode cX11_back 11 = .ok (.aload_n 0, 1) := by decide +kernel
theorem dX11_back_12 : decode cX11_back 12 = .ok (.getfield 14, 3) := by decide +kernel
theorem dX11_back_15 : decode cX11_back 15 = .ok (.getfield 202, 3) := by decide +kernel
theorem dX11_back_18 : decode cX11_back 18 = .ok (.ireturn, 1) := by decide +kernel
theorem dX11_about_0 : decode cX11_about 0 = .ok (.iload_n 1, 1) := by decide +kernel
theorem dX11_about_1 : decode cX11_about 1 = .ok (.tableswitch 141 0 8 #[51, 62, 73, 84, 95, 106, 114, 125, 130], 51) := by decide +kernel
theorem dX11_about_52 : decode cX11_about 52 = .ok (.aload_n 0, 1) := by decide +kernel
theorem dX11_about_53 : decode cX11_about 53 = .ok (.getfield 14, 3) := by decide +kernel
theorem dX11_about_56 : decode cX11_about 56 = .ok (.getfield 23, 3) := by decide +kernel
theorem dX11_about_59 : decode cX11_about 59 = .ok (.getfield 84, 3) := by decide +kernel
theorem dX11_about_62 : decode cX11_about 62 = .ok (.ireturn, 1) := by decide +kernel
theorem dX11_about_63 : decode cX11_about 63 = .ok (.aload_n 0, 1) := by decide +kernel
theorem dX11_about_64 : decode cX11_about 64 = .ok (.getfield 14, 3) := by decide +kernel
theorem dX11_about_67 : decode cX11_about 67 = .ok (.getfield 23, 3) := by decide +kernel
theorem dX11_about_70 : decode cX11_about 70 = .ok (.getfield 184, 3) := by decide +kernel
theorem dX11_about_73 : decode cX11_about 73 = .ok (.ireturn, 1) := by decide +kernel
theorem dX11_about_74 : decode cX11_about 74 = .ok (.aload_n 0, 1) := by decide +kernel
theorem dX11_about_75 : decode cX11_about 75 = .ok (.getfield 14, 3) := by decide +kernel
theorem dX11_about_78 : decode cX11_about 78 = .ok (.getfield 23, 3) := by decide +kernel
theorem dX11_about_81 : decode cX11_about 81 = .ok (.getfield 70, 3) := by decide +kernel
theorem dX11_about_84 : decode cX11_about 84 = .ok (.ireturn, 1) := by decide +kernel
theorem dX11_about_85 : decode cX11_about 85 = .ok (.aload_n 0, 1) := by decide +kernel
theorem dX11_about_86 : decode cX11_about 86 = .ok (.getfield 14, 3) := by decide +kernel
theorem dX11_about_89 : decode cX11_about 89 = .ok (.getfield 103, 3) := by decide +kernel
theorem dX11_about_92 : decode cX11_about 92 = .ok (.getfield 110, 3) := by decide +kernel
theorem dX11_about_95 : decode cX11_about 95 = .ok (.ireturn, 1) := by decide +kernel
theorem dX11_about_96 : decode cX11_about 96 = .ok (.aload_n 0, 1) := by decide +kernel
theorem dX11_about_97 : decode cX11_about 97 = .ok (.getfield 14, 3) := by decide +kernel
theorem dX11_about_100 : decode cX11_about 100 = .ok (.getfield 103, 3) := by decide +kernel
theorem dX11_about_103 : decode cX11_about 103 = .ok (.getfield 124, 3) := by decide +kernel
theorem dX11_about_106 : decode cX11_about 106 = .ok (.ireturn, 1) := by decide +kernel
theorem dX11_about_107 : decode cX11_about 107 = .ok (.aload_n 0, 1) := by decide +kernel
theorem dX11_about_108 : decode cX11_about 108 = .ok (.getfield 14, 3) := by decide +kernel
theorem dX11_about_111 : decode cX11_about 111 = .ok (.getfield 202, 3) := by decide +kernel
theorem dX11_about_114 : decode cX11_about 114 = .ok (.ireturn, 1) := by decide +kernel
theorem dX11_about_115 : decode cX11_about 115 = .ok (.aload_n 0, 1) := by decide +kernel
theorem dX11_about_116 : decode cX11_about 116 = .ok (.getfield 14, 3) := by decide +kernel
theorem dX11_about_119 : decode cX11_about 119 = .ok (.getfield 291, 3) := by decide +kernel
theorem dX11_about_122 : decode cX11_about 122 = .ok (.getfield 295, 3) := by decide +kernel
theorem dX11_about_125 : decode cX11_about 125 = .ok (.ireturn, 1) := by decide +kernel
theorem dX11_about_126 : decode cX11_about 126 = .ok (.aload_n 0, 1) := by decide +kernel
theorem dX11_about_127 : decode cX11_about 127 = .ok (.getfield 195, 3) := by decide +kernel
theorem dX11_about_130 : decode cX11_about 130 = .ok (.ireturn, 1) := by decide +kernel
theorem dX11_about_131 : decode cX11_about 131 = .ok (.aload_n 0, 1) := by decide +kernel
theorem dX11_about_132 : decode cX11_about 132 = .ok (.getfield 14, 3) := by decide +kernel
theorem dX11_about_135 : decode cX11_about 135 = .ok (.getfield 23, 3) := by decide +kernel
theorem dX11_about_138 : decode cX11_about 138 = .ok (.invokevirtual 329, 3) := by decide +kernel
theorem dX11_about_141 : decode cX11_about 141 = .ok (.ireturn, 1) := by decide +kernel
theorem dX11_about_142 : decode cX11_about 142 = .ok (.iconst (-1), 1) := by decide +kernel
theorem dX11_about_143 : decode cX11_about 143 = .ok (.ireturn, 1) := by decide +kernel
theorem dX11_putBytes_0 : decode cX11_putBytes 0 = .ok (.bipush 24, 2) := by decide +kernel
theorem dX11_putBytes_2 : decode cX11_putBytes 2 = .ok (.istore_n 2, 1) := by decide +kernel
theorem dX11_putBytes_3 : decode cX11_putBytes 3 = .ok (.iload_n 2, 1) := by decide +kernel
theorem dX11_putBytes_4 : decode cX11_putBytes 4 = .ok (.ifCond .lt 47, 3) := by decide +kernel
theorem dX11_putBytes_7 : decode cX11_putBytes 7 = .ok (.aload_n 0, 1) := by decide +kernel
theorem dX11_putBytes_8 : decode cX11_putBytes 8 = .ok (.getfield 195, 3) := by decide +kernel
theorem dX11_putBytes_11 : decode cX11_putBytes 11 = .ok (.aload_n 0, 1) := by decide +kernel
theorem dX11_putBytes_12 : decode cX11_putBytes 12 = .ok (.getfield 50, 3) := by decide +kernel
theorem dX11_putBytes_15 : decode cX11_putBytes 15 = .ok (.arraylength, 1) := by decide +kernel
theorem dX11_putBytes_16 : decode cX11_putBytes 16 = .ok (.if_icmp .ge 35, 3) := by decide +kernel
theorem dX11_putBytes_19 : decode cX11_putBytes 19 = .ok (.aload_n 0, 1) := by decide +kernel
theorem dX11_putBytes_20 : decode cX11_putBytes 20 = .ok (.getfield 50, 3) := by decide +kernel
theorem dX11_putBytes_23 : decode cX11_putBytes 23 = .ok (.aload_n 0, 1) := by decide +kernel
theorem dX11_putBytes_24 : decode cX11_putBytes 24 = .ok (.getfield 195, 3) := by decide +kernel
theorem dX11_putBytes_27 : decode cX11_putBytes 27 = .ok (.iload_n 1, 1) := by decide +kernel
theorem dX11_putBytes_28 : decode cX11_putBytes 28 = .ok (.iload_n 2, 1) := by decide +kernel
theorem dX11_putBytes_29 : decode cX11_putBytes 29 = .ok (.iushr, 1) := by decide +kernel
theorem dX11_putBytes_30 : decode cX11_putBytes 30 = .ok (.sipush 255, 3) := by decide +kernel
theorem dX11_putBytes_33 : decode cX11_putBytes 33 = .ok (.iand, 1) := by decide +kernel
theorem dX11_putBytes_34 : decode cX11_putBytes 34 = .ok (.iastore, 1) := by decide +kernel
theorem dX11_putBytes_35 : decode cX11_putBytes 35 = .ok (.aload_n 0, 1) := by decide +kernel
theorem dX11_putBytes_36 : decode cX11_putBytes 36 = .ok (.dup, 1) := by decide +kernel
theorem dX11_putBytes_37 : decode cX11_putBytes 37 = .ok (.getfield 195, 3) := by decide +kernel
theorem dX11_putBytes_40 : decode cX11_putBytes 40 = .ok (.iconst 1, 1) := by decide +kernel
theorem dX11_putBytes_41 : decode cX11_putBytes 41 = .ok (.iadd, 1) := by decide +kernel
theorem dX11_putBytes_42 : decode cX11_putBytes 42 = .ok (.putfield 195, 3) := by decide +kernel
theorem dX11_putBytes_45 : decode cX11_putBytes 45 = .ok (.iinc 2 (-8), 3) := by decide +kernel
theorem dX11_putBytes_48 : decode cX11_putBytes 48 = .ok (.goto (-45), 3) := by decide +kernel
theorem dX11_putBytes_51 : decode cX11_putBytes 51 = .ok (.return_, 1) := by decide +kernel
theorem dX11_fillTakes_0 : decode cX11_fillTakes 0 = .ok (.aload_n 0, 1) := by decide +kernel
theorem dX11_fillTakes_1 : decode cX11_fillTakes 1 = .ok (.getfield 14, 3) := by decide +kernel
theorem dX11_fillTakes_4 : decode cX11_fillTakes 4 = .ok (.getfield 103, 3) := by decide +kernel
theorem dX11_fillTakes_7 : decode cX11_fillTakes 7 = .ok (.astore_n 3, 1) := by decide +kernel
theorem dX11_fillTakes_8 : decode cX11_fillTakes 8 = .ok (.iconst 0, 1) := by decide +kernel
theorem dX11_fillTakes_9 : decode cX11_fillTakes 9 = .ok (.istore 4, 2) := by decide +kernel
theorem dX11_fillTakes_11 : decode cX11_fillTakes 11 = .ok (.iload 4, 2) := by decide +kernel
theorem dX11_fillTakes_13 : decode cX11_fillTakes 13 = .ok (.aload_n 3, 1) := by decide +kernel
theorem dX11_fillTakes_14 : decode cX11_fillTakes 14 = .ok (.getfield 110, 3) := by decide +kernel
theorem dX11_fillTakes_17 : decode cX11_fillTakes 17 = .ok (.if_icmp .ge 42, 3) := by decide +kernel
theorem dX11_fillTakes_20 : decode cX11_fillTakes 20 = .ok (.iload 4, 2) := by decide +kernel
theorem dX11_fillTakes_22 : decode cX11_fillTakes 22 = .ok (.aload_n 1, 1) := by decide +kernel
theorem dX11_fillTakes_23 : decode cX11_fillTakes 23 = .ok (.arraylength, 1) := by decide +kernel
theorem dX11_fillTakes_24 : decode cX11_fillTakes 24 = .ok (.if_icmp .ge 35, 3) := by decide +kernel
theorem dX11_fillTakes_27 : decode cX11_fillTakes 27 = .ok (.aload_n 1, 1) := by decide +kernel
theorem dX11_fillTakes_28 : decode cX11_fillTakes 28 = .ok (.iload 4, 2) := by decide +kernel
theorem dX11_fillTakes_30 : decode cX11_fillTakes 30 = .ok (.aload_n 0, 1) := by decide +kernel
theorem dX11_fillTakes_31 : decode cX11_fillTakes 31 = .ok (.getfield 30, 3) := by decide +kernel
theorem dX11_fillTakes_34 : decode cX11_fillTakes 34 = .ok (.aload_n 3, 1) := by decide +kernel
theorem dX11_fillTakes_35 : decode cX11_fillTakes 35 = .ok (.getfield 115, 3) := by decide +kernel
theorem dX11_fillTakes_38 : decode cX11_fillTakes 38 = .ok (.iload 4, 2) := by decide +kernel
theorem dX11_fillTakes_40 : decode cX11_fillTakes 40 = .ok (.iaload, 1) := by decide +kernel
theorem dX11_fillTakes_41 : decode cX11_fillTakes 41 = .ok (.aload_n 3, 1) := by decide +kernel
theorem dX11_fillTakes_42 : decode cX11_fillTakes 42 = .ok (.getfield 118, 3) := by decide +kernel
theorem dX11_fillTakes_45 : decode cX11_fillTakes 45 = .ok (.iload 4, 2) := by decide +kernel
theorem dX11_fillTakes_47 : decode cX11_fillTakes 47 = .ok (.iaload, 1) := by decide +kernel
theorem dX11_fillTakes_48 : decode cX11_fillTakes 48 = .ok (.iload_n 2, 1) := by decide +kernel
theorem dX11_fillTakes_49 : decode cX11_fillTakes 49 = .ok (.invokevirtual 150, 3) := by decide +kernel
theorem dX11_fillTakes_52 : decode cX11_fillTakes 52 = .ok (.iastore, 1) := by decide +kernel
theorem dX11_fillTakes_53 : decode cX11_fillTakes 53 = .ok (.iinc 4 1, 3) := by decide +kernel
theorem dX11_fillTakes_56 : decode cX11_fillTakes 56 = .ok (.goto (-45), 3) := by decide +kernel
theorem dX11_fillTakes_59 : decode cX11_fillTakes 59 = .ok (.return_, 1) := by decide +kernel
theorem dX11_hasTakes_0 : decode cX11_hasTakes 0 = .ok (.aload_n 0, 1) := by decide +kernel
theorem dX11_hasTakes_1 : decode cX11_hasTakes 1 = .ok (.getfield 14, 3) := by decide +kernel
theorem dX11_hasTakes_4 : decode cX11_hasTakes 4 = .ok (.getfield 103, 3) := by decide +kernel
theorem dX11_hasTakes_7 : decode cX11_hasTakes 7 = .ok (.astore_n 3, 1) := by decide +kernel
theorem dX11_hasTakes_8 : decode cX11_hasTakes 8 = .ok (.iconst 0, 1) := by decide +kernel
theorem dX11_hasTakes_9 : decode cX11_hasTakes 9 = .ok (.istore 4, 2) := by decide +kernel
theorem dX11_hasTakes_11 : decode cX11_hasTakes 11 = .ok (.iload 4, 2) := by decide +kernel
theorem dX11_hasTakes_13 : decode cX11_hasTakes 13 = .ok (.aload_n 3, 1) := by decide +kernel
theorem dX11_hasTakes_14 : decode cX11_hasTakes 14 = .ok (.getfield 110, 3) := by decide +kernel
theorem dX11_hasTakes_17 : decode cX11_hasTakes 17 = .ok (.if_icmp .ge 47, 3) := by decide +kernel
theorem dX11_hasTakes_20 : decode cX11_hasTakes 20 = .ok (.iload 4, 2) := by decide +kernel
theorem dX11_hasTakes_22 : decode cX11_hasTakes 22 = .ok (.aload_n 1, 1) := by decide +kernel
theorem dX11_hasTakes_23 : decode cX11_hasTakes 23 = .ok (.arraylength, 1) := by decide +kernel
theorem dX11_hasTakes_24 : decode cX11_hasTakes 24 = .ok (.if_icmp .ge 40, 3) := by decide +kernel
theorem dX11_hasTakes_27 : decode cX11_hasTakes 27 = .ok (.aload_n 1, 1) := by decide +kernel
theorem dX11_hasTakes_28 : decode cX11_hasTakes 28 = .ok (.iload 4, 2) := by decide +kernel
theorem dX11_hasTakes_30 : decode cX11_hasTakes 30 = .ok (.iaload, 1) := by decide +kernel
theorem dX11_hasTakes_31 : decode cX11_hasTakes 31 = .ok (.aload_n 0, 1) := by decide +kernel
theorem dX11_hasTakes_32 : decode cX11_hasTakes 32 = .ok (.getfield 30, 3) := by decide +kernel
theorem dX11_hasTakes_35 : decode cX11_hasTakes 35 = .ok (.aload_n 3, 1) := by decide +kernel
theorem dX11_hasTakes_36 : decode cX11_hasTakes 36 = .ok (.getfield 115, 3) := by decide +kernel
theorem dX11_hasTakes_39 : decode cX11_hasTakes 39 = .ok (.iload 4, 2) := by decide +kernel
theorem dX11_hasTakes_41 : decode cX11_hasTakes 41 = .ok (.iaload, 1) := by decide +kernel
theorem dX11_hasTakes_42 : decode cX11_hasTakes 42 = .ok (.aload_n 3, 1) := by decide +kernel
theorem dX11_hasTakes_43 : decode cX11_hasTakes 43 = .ok (.getfield 118, 3) := by decide +kernel
theorem dX11_hasTakes_46 : decode cX11_hasTakes 46 = .ok (.iload 4, 2) := by decide +kernel
theorem dX11_hasTakes_48 : decode cX11_hasTakes 48 = .ok (.iaload, 1) := by decide +kernel
theorem dX11_hasTakes_49 : decode cX11_hasTakes 49 = .ok (.iload_n 2, 1) := by decide +kernel
theorem dX11_hasTakes_50 : decode cX11_hasTakes 50 = .ok (.invokevirtual 150, 3) := by decide +kernel
theorem dX11_hasTakes_53 : decode cX11_hasTakes 53 = .ok (.if_icmp .eq 5, 3) := by decide +kernel
theorem dX11_hasTakes_56 : decode cX11_hasTakes 56 = .ok (.iconst 0, 1) := by decide +kernel
theorem dX11_hasTakes_57 : decode cX11_hasTakes 57 = .ok (.ireturn, 1) := by decide +kernel
theorem dX11_hasTakes_58 : decode cX11_hasTakes 58 = .ok (.iinc 4 1, 3) := by decide +kernel
theorem dX11_hasTakes_61 : decode cX11_hasTakes 61 = .ok (.goto (-50), 3) := by decide +kernel
theorem dX11_hasTakes_64 : decode cX11_hasTakes 64 = .ok (.iconst 1, 1) := by decide +kernel
theorem dX11_hasTakes_65 : decode cX11_hasTakes 65 = .ok (.ireturn, 1) := by decide +kernel
theorem dX11_isStanding_0 : decode cX11_isStanding 0 = .ok (.aload_n 0, 1) := by decide +kernel
theorem dX11_isStanding_1 : decode cX11_isStanding 1 = .ok (.getfield 14, 3) := by decide +kernel
theorem dX11_isStanding_4 : decode cX11_isStanding 4 = .ok (.getfield 23, 3) := by decide +kernel
theorem dX11_isStanding_7 : decode cX11_isStanding 7 = .ok (.iload_n 1, 1) := by decide +kernel
theorem dX11_isStanding_8 : decode cX11_isStanding 8 = .ok (.iload_n 2, 1) := by decide +kernel
theorem dX11_isStanding_9 : decode cX11_isStanding 9 = .ok (.invokevirtual 136, 3) := by decide +kernel
theorem dX11_isStanding_12 : decode cX11_isStanding 12 = .ok (.ifCond .eq 14, 3) := by decide +kernel
theorem dX11_isStanding_15 : decode cX11_isStanding 15 = .ok (.iload_n 3, 1) := by decide +kernel
theorem dX11_isStanding_16 : decode cX11_isStanding 16 = .ok (.invokestatic 107, 3) := by decide +kernel
theorem dX11_isStanding_19 : decode cX11_isStanding 19 = .ok (.ifCond .eq 7, 3) := by decide +kernel
theorem dX11_isStanding_22 : decode cX11_isStanding 22 = .ok (.iconst 1, 1) := by decide +kernel
theorem dX11_isStanding_23 : decode cX11_isStanding 23 = .ok (.goto 4, 3) := by decide +kernel
theorem dX11_isStanding_26 : decode cX11_isStanding 26 = .ok (.iconst 0, 1) := by decide +kernel
theorem dX11_isStanding_27 : decode cX11_isStanding 27 = .ok (.ireturn, 1) := by decide +kernel
theorem dX11_isWithin_0 : decode cX11_isWithin 0 = .ok (.iload_n 0, 1) := by decide +kernel
theorem dX11_isWithin_1 : decode cX11_isWithin 1 = .ok (.iload_n 1, 1) := by decide +kernel
theorem dX11_isWithin_2 : decode cX11_isWithin 2 = .ok (.if_icmp .lt 12, 3) := by decide +kernel
theorem dX11_isWithin_5 : decode cX11_isWithin 5 = .ok (.iload_n 0, 1) := by decide +kernel
theorem dX11_isWithin_6 : decode cX11_isWithin 6 = .ok (.iload_n 2, 1) := by decide +kernel
theorem dX11_isWithin_7 : decode cX11_isWithin 7 = .ok (.if_icmp .gt 7, 3) := by decide +kernel
theorem dX11_isWithin_10 : decode cX11_isWithin 10 = .ok (.iconst 1, 1) := by decide +kernel
theorem dX11_isWithin_11 : decode cX11_isWithin 11 = .ok (.goto 4, 3) := by decide +kernel
theorem dX11_isWithin_14 : decode cX11_isWithin 14 = .ok (.iconst 0, 1) := by decide +kernel
theorem dX11_isWithin_15 : decode cX11_isWithin 15 = .ok (.ireturn, 1) := by decide +kernel
theorem dX11_isSide_0 : decode cX11_isSide 0 = .ok (.iload_n 0, 1) := by decide +kernel
theorem dX11_isSide_1 : decode cX11_isSide 1 = .ok (.iconst 0, 1) := by decide +kernel
theorem dX11_isSide_2 : decode cX11_isSide 2 = .ok (.bipush 63, 2) := by decide +kernel
theorem dX11_isSide_4 : decode cX11_isSide 4 = .ok (.invokestatic 63, 3) := by decide +kernel
theorem dX11_isSide_7 : decode cX11_isSide 7 = .ok (.ireturn, 1) := by decide +kernel
theorem dX11_isTick_0 : decode cX11_isTick 0 = .ok (.iload_n 0, 1) := by decide +kernel
theorem dX11_isTick_1 : decode cX11_isTick 1 = .ok (.iconst 0, 1) := by decide +kernel
theorem dX11_isTick_2 : decode cX11_isTick 2 = .ok (.sipush 999, 3) := by decide +kernel
theorem dX11_isTick_5 : decode cX11_isTick 5 = .ok (.invokestatic 63, 3) := by decide +kernel
theorem dX11_isTick_8 : decode cX11_isTick 8 = .ok (.ireturn, 1) := by decide +kernel
theorem dX11_ceilDiv_0 : decode cX11_ceilDiv 0 = .ok (.iload_n 1, 1) := by decide +kernel
theorem dX11_ceilDiv_1 : decode cX11_ceilDiv 1 = .ok (.ifCond .le 13, 3) := by decide +kernel
theorem dX11_ceilDiv_4 : decode cX11_ceilDiv 4 = .ok (.iload_n 0, 1) := by decide +kernel
theorem dX11_ceilDiv_5 : decode cX11_ceilDiv 5 = .ok (.ineg, 1) := by decide +kernel
theorem dX11_ceilDiv_6 : decode cX11_ceilDiv 6 = .ok (.iload_n 1, 1) := by decide +kernel
theorem dX11_ceilDiv_7 : decode cX11_ceilDiv 7 = .ok (.invokestatic 332, 3) := by decide +kernel
theorem dX11_ceilDiv_10 : decode cX11_ceilDiv 10 = .ok (.ineg, 1) := by decide +kernel
theorem dX11_ceilDiv_11 : decode cX11_ceilDiv 11 = .ok (.goto 4, 3) := by decide +kernel
theorem dX11_ceilDiv_14 : decode cX11_ceilDiv 14 = .ok (.iconst 0, 1) := by decide +kernel
theorem dX11_ceilDiv_15 : decode cX11_ceilDiv 15 = .ok (.ireturn, 1) := by decide +kernel
theorem dX11_copyRow_0 : decode cX11_copyRow 0 = .ok (.aload_n 0, 1) := by decide +kernel
theorem dX11_copyRow_1 : decode cX11_copyRow 1 = .ok (.iconst 0, 1) := by decide +kernel
theorem dX11_copyRow_2 : decode cX11_copyRow 2 = .ok (.aload_n 1, 1) := by decide +kernel
theorem dX11_copyRow_3 : decode cX11_copyRow 3 = .ok (.iconst 0, 1) := by decide +kernel
theorem dX11_copyRow_4 : decode cX11_copyRow 4 = .ok (.aload_n 0, 1) := by decide +kernel
theorem dX11_copyRow_5 : decode cX11_copyRow 5 = .ok (.arraylength, 1) := by decide +kernel
theorem dX11_copyRow_6 : decode cX11_copyRow 6 = .ok (.aload_n 1, 1) := by decide +kernel
theorem dX11_copyRow_7 : decode cX11_copyRow 7 = .ok (.arraylength, 1) := by decide +kernel
theorem dX11_copyRow_8 : decode cX11_copyRow 8 = .ok (.invokestatic 175, 3) := by decide +kernel
theorem dX11_copyRow_11 : decode cX11_copyRow 11 = .ok (.invokestatic 335, 3) := by decide +kernel
theorem dX11_copyRow_14 : decode cX11_copyRow 14 = .ok (.return_, 1) := by decide +kernel
theorem dX12_init_0 : decode cX12_init 0 = .ok (.aload_n 0, 1) := by decide +kernel
theorem dX12_init_1 : decode cX12_init 1 = .ok (.invokespecial 1, 3) := by decide +kernel
theorem dX12_init_4 : decode cX12_init 4 = .ok (.aload_n 0, 1) := by decide +kernel
theorem dX12_init_5 : decode cX12_init 5 = .ok (.sipush 3170, 3) := by decide +kernel
theorem dX12_init_8 : decode cX12_init 8 = .ok (.newarray .int, 2) := by decide +kernel
theorem dX12_init_10 : decode cX12_init 10 = .ok (.putfield 7, 3) := by decide +kernel
theorem dX12_init_13 : decode cX12_init 13 = .ok (.aload_n 0, 1) := by decide +kernel
theorem dX12_init_14 : decode cX12_init 14 = .ok (.sipush 3170, 3) := by decide +kernel
theorem dX12_init_17 : decode cX12_init 17 = .ok (.newarray .int, 2) := by decide +kernel
theorem dX12_init_19 : decode cX12_init 19 = .ok (.putfield 13, 3) := by decide +kernel
theorem dX12_init_22 : decode cX12_init 22 = .ok (.aload_n 0, 1) := by decide +kernel
theorem dX12_init_23 : decode cX12_init 23 = .ok (.sipush 6400, 3) := by decide +kernel
theorem dX12_init_26 : decode cX12_init 26 = .ok (.newarray .int, 2) := by decide +kernel
theorem dX12_init_28 : decode cX12_init 28 = .ok (.putfield 16, 3) := by decide +kernel
theorem dX12_init_31 : decode cX12_init 31 = .ok (.aload_n 0, 1) := by decide +kernel
theorem dX12_init_32 : decode cX12_init 32 = .ok (.sipush 576, 3) := by decide +kernel
theorem dX12_init_35 : decode cX12_init 35 = .ok (.newarray .int, 2) := by decide +kernel
theorem dX12_init_37 : decode cX12_init 37 = .ok (.putfield 19, 3) := by decide +kernel
theorem dX12_init_40 : decode cX12_init 40 = .ok (.aload_n 0, 1) := by decide +kernel
theorem dX12_init_41 : decode cX12_init 41 = .ok (.bipush 64, 2) := by decide +kernel
theorem dX12_init_43 : decode cX12_init 43 = .ok (.newarray .int, 2) := by decide +kernel
theorem dX12_init_45 : decode cX12_init 45 = .ok (.putfield 22, 3) := by decide +kernel
theorem dX12_init_48 : decode cX12_init 48 = .ok (.aload_n 0, 1) := by decide +kernel
theorem dX12_init_49 : decode cX12_init 49 = .ok (.bipush 64, 2) := by decide +kernel
theorem dX12_init_51 : decode cX12_init 51 = .ok (.newarray .int, 2) := by decide +kernel
theorem dX12_init_53 : decode cX12_init 53 = .ok (.putfield 25, 3) := by decide +kernel
theorem dX12_init_56 : decode cX12_init 56 = .ok (.aload_n 0, 1) := by decide +kernel
theorem dX12_init_57 : decode cX12_init 57 = .ok (.bipush 16, 2) := by decide +kernel
theorem dX12_init_59 : decode cX12_init 59 = .ok (.newarray .int, 2) := by decide +kernel
theorem dX12_init_61 : decode cX12_init 61 = .ok (.putfield 28, 3) := by decide +kernel
theorem dX12_init_64 : decode cX12_init 64 = .ok (.aload_n 0, 1) := by decide +kernel
theorem dX12_init_65 : decode cX12_init 65 = .ok (.sipush 300, 3) := by decide +kernel
theorem dX12_init_68 : decode cX12_init 68 = .ok (.newarray .int, 2) := by decide +kernel
theorem dX12_init_70 : decode cX12_init 70 = .ok (.putfield 31, 3) := by decide +kernel
theorem dX12_init_73 : decode cX12_init 73 = .ok (.aload_n 0, 1) := by decide +kernel
theorem dX12_init_74 : decode cX12_init 74 = .ok (.iconst (-1), 1) := by decide +kernel
theorem dX12_init_75 : decode cX12_init 75 = .ok (.putfield 34, 3) := by decide +kernel
theorem dX12_init_78 : decode cX12_init 78 = .ok (.aload_n 0, 1) := by decide +kernel
theorem dX12_init_79 : decode cX12_init 79 = .ok (.iconst (-1), 1) := by decide +kernel
theorem dX12_init_80 : decode cX12_init 80 = .ok (.putfield 38, 3) := by decide +kernel
theorem dX12_init_83 : decode cX12_init 83 = .ok (.aload_n 0, 1) := by decide +kernel
theorem dX12_init_84 : decode cX12_init 84 = .ok (.sipush 160, 3) := by decide +kernel
theorem dX12_init_87 : decode cX12_init 87 = .ok (.newarray .int, 2) := by decide +kernel
theorem dX12_init_89 : decode cX12_init 89 = .ok (.putfield 41, 3) := by decide +kernel
theorem dX12_init_92 : decode cX12_init 92 = .ok (.aload_n 0, 1) := by decide +kernel
theorem dX12_init_93 : decode cX12_init 93 = .ok (.sipush 2280, 3) := by decide +kernel
theorem dX12_init_96 : decode cX12_init 96 = .ok (.newarray .int, 2) := by decide +kernel
theorem dX12_init_98 : decode cX12_init 98 = .ok (.putfield 44, 3) := by decide +kernel
theorem dX12_init_101 : decode cX12_init 101 = .ok (.aload_n 0, 1) := by decide +kernel
theorem dX12_init_102 : decode cX12_init 102 = .ok (.bipush 8, 2) := by decide +kernel
theorem dX12_init_104 : decode cX12_init 104 = .ok (.newarray .int, 2) := by decide +kernel
theorem dX12_init_106 : decode cX12_init 106 = .ok (.putfield 47, 3) := by decide +kernel
theorem dX12_init_109 : decode cX12_init 109 = .ok (.aload_n 0, 1) := by decide +kernel
theorem dX12_init_110 : decode cX12_init 110 = .ok (.sipush 330, 3) := by decide +kernel
theorem dX12_init_113 : decode cX12_init 113 = .ok (.newarray .long, 2) := by decide +kernel
theorem dX12_init_115 : decode cX12_init 115 = .ok (.putfield 50, 3) := by decide +kernel
theorem dX12_init_118 : decode cX12_init 118 = .ok (.aload_n 0, 1) := by decide +kernel
theorem dX12_init_119 : decode cX12_init 119 = .ok (.sipush 330, 3) := by decide +kernel
theorem dX12_init_122 : decode cX12_init 122 = .ok (.newarray .boolean, 2) := by decide +kernel
theorem dX12_init_124 : decode cX12_init 124 = .ok (.putfield 54, 3) := by decide +kernel
theorem dX12_init_127 : decode cX12_init 127 = .ok (.aload_n 0, 1) := by decide +kernel
theorem dX12_init_128 : decode cX12_init 128 = .ok (.bipush 8, 2) := by decide +kernel
theorem dX12_init_130 : decode cX12_init 130 = .ok (.newarray .boolean, 2) := by decide +kernel
theorem dX12_init_132 : decode cX12_init 132 = .ok (.putfield 58, 3) := by decide +kernel
theorem dX12_init_135 : decode cX12_init 135 = .ok (.aload_n 0, 1) := by decide +kernel
theorem dX12_init_136 : decode cX12_init 136 = .ok (.iload_n 1, 1) := by decide +kernel
theorem dX12_init_137 : decode cX12_init 137 = .ok (.iconst 4, 1) := by decide +kernel
theorem dX12_init_138 : decode cX12_init 138 = .ok (.if_icmp .ge 7, 3) := by decide +kernel
