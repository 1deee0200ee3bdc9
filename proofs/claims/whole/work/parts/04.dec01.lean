theorem dX3_step_141 : decode cX3_step 141 = .ok (.getfield 30, 3) := by decide +kernel
theorem dX3_step_144 : decode cX3_step 144 = .ok (.getfield 161, 3) := by decide +kernel
theorem dX3_step_147 : decode cX3_step 147 = .ok (.getstatic 176, 3) := by decide +kernel
theorem dX3_step_150 : decode cX3_step 150 = .ok (.aload_n 1, 1) := by decide +kernel
theorem dX3_step_151 : decode cX3_step 151 = .ok (.getfield 67, 3) := by decide +kernel
theorem dX3_step_154 : decode cX3_step 154 = .ok (.iaload, 1) := by decide +kernel
theorem dX3_step_155 : decode cX3_step 155 = .ok (.imul, 1) := by decide +kernel
theorem dX3_step_156 : decode cX3_step 156 = .ok (.bipush 16, 2) := by decide +kernel
theorem dX3_step_158 : decode cX3_step 158 = .ok (.invokestatic 171, 3) := by decide +kernel
theorem dX3_step_161 : decode cX3_step 161 = .ok (.iadd, 1) := by decide +kernel
theorem dX3_step_162 : decode cX3_step 162 = .ok (.putfield 64, 3) := by decide +kernel
theorem dX3_step_165 : decode cX3_step 165 = .ok (.aload_n 1, 1) := by decide +kernel
theorem dX3_step_166 : decode cX3_step 166 = .ok (.aload_n 0, 1) := by decide +kernel
theorem dX3_step_167 : decode cX3_step 167 = .ok (.getfield 9, 3) := by decide +kernel
theorem dX3_step_170 : decode cX3_step 170 = .ok (.getfield 113, 3) := by decide +kernel
theorem dX3_step_173 : decode cX3_step 173 = .ok (.aload_n 1, 1) := by decide +kernel
theorem dX3_step_174 : decode cX3_step 174 = .ok (.getfield 61, 3) := by decide +kernel
theorem dX3_step_177 : decode cX3_step 177 = .ok (.aload_n 1, 1) := by decide +kernel
theorem dX3_step_178 : decode cX3_step 178 = .ok (.getfield 64, 3) := by decide +kernel
theorem dX3_step_181 : decode cX3_step 181 = .ok (.aload_n 1, 1) := by decide +kernel
theorem dX3_step_182 : decode cX3_step 182 = .ok (.getfield 55, 3) := by decide +kernel
theorem dX3_step_185 : decode cX3_step 185 = .ok (.invokevirtual 122, 3) := by decide +kernel
theorem dX3_step_188 : decode cX3_step 188 = .ok (.ifCond .ne 7, 3) := by decide +kernel
theorem dX3_step_191 : decode cX3_step 191 = .ok (.iconst 1, 1) := by decide +kernel
theorem dX3_step_192 : decode cX3_step 192 = .ok (.goto 4, 3) := by decide +kernel
theorem dX3_step_195 : decode cX3_step 195 = .ok (.iconst 0, 1) := by decide +kernel
theorem dX3_step_196 : decode cX3_step 196 = .ok (.putfield 49, 3) := by decide +kernel
theorem dX3_step_199 : decode cX3_step 199 = .ok (.iconst 1, 1) := by decide +kernel
theorem dX3_step_200 : decode cX3_step 200 = .ok (.ireturn, 1) := by decide +kernel
theorem dX3_sense_0 : decode cX3_sense 0 = .ok (.aload_n 0, 1) := by decide +kernel
theorem dX3_sense_1 : decode cX3_sense 1 = .ok (.getfield 9, 3) := by decide +kernel
theorem dX3_sense_4 : decode cX3_sense 4 = .ok (.getfield 21, 3) := by decide +kernel
theorem dX3_sense_7 : decode cX3_sense 7 = .ok (.astore_n 2, 1) := by decide +kernel
theorem dX3_sense_8 : decode cX3_sense 8 = .ok (.aload_n 1, 1) := by decide +kernel
theorem dX3_sense_9 : decode cX3_sense 9 = .ok (.getfield 55, 3) := by decide +kernel
theorem dX3_sense_12 : decode cX3_sense 12 = .ok (.bipush 16, 2) := by decide +kernel
theorem dX3_sense_14 : decode cX3_sense 14 = .ok (.imul, 1) := by decide +kernel
theorem dX3_sense_15 : decode cX3_sense 15 = .ok (.istore_n 3, 1) := by decide +kernel
theorem dX3_sense_16 : decode cX3_sense 16 = .ok (.aload_n 0, 1) := by decide +kernel
theorem dX3_sense_17 : decode cX3_sense 17 = .ok (.getfield 15, 3) := by decide +kernel
theorem dX3_sense_20 : decode cX3_sense 20 = .ok (.aload_n 1, 1) := by decide +kernel
theorem dX3_sense_21 : decode cX3_sense 21 = .ok (.getfield 61, 3) := by decide +kernel
theorem dX3_sense_24 : decode cX3_sense 24 = .ok (.aload_n 1, 1) := by decide +kernel
theorem dX3_sense_25 : decode cX3_sense 25 = .ok (.getfield 64, 3) := by decide +kernel
theorem dX3_sense_28 : decode cX3_sense 28 = .ok (.aload_n 1, 1) := by decide +kernel
theorem dX3_sense_29 : decode cX3_sense 29 = .ok (.getfield 55, 3) := by decide +kernel
theorem dX3_sense_32 : decode cX3_sense 32 = .ok (.invokevirtual 179, 3) := by decide +kernel
theorem dX3_sense_35 : decode cX3_sense 35 = .ok (.iconst 0, 1) := by decide +kernel
theorem dX3_sense_36 : decode cX3_sense 36 = .ok (.istore 4, 2) := by decide +kernel
theorem dX3_sense_38 : decode cX3_sense 38 = .ok (.iload 4, 2) := by decide +kernel
theorem dX3_sense_40 : decode cX3_sense 40 = .ok (.aload_n 2, 1) := by decide +kernel
theorem dX3_sense_41 : decode cX3_sense 41 = .ok (.getfield 70, 3) := by decide +kernel
theorem dX3_sense_44 : decode cX3_sense 44 = .ok (.if_icmp .ge 55, 3) := by decide +kernel
theorem dX3_sense_47 : decode cX3_sense 47 = .ok (.iload_n 3, 1) := by decide +kernel
theorem dX3_sense_48 : decode cX3_sense 48 = .ok (.iload 4, 2) := by decide +kernel
theorem dX3_sense_50 : decode cX3_sense 50 = .ok (.iadd, 1) := by decide +kernel
theorem dX3_sense_51 : decode cX3_sense 51 = .ok (.aload_n 1, 1) := by decide +kernel
theorem dX3_sense_52 : decode cX3_sense 52 = .ok (.getfield 185, 3) := by decide +kernel
theorem dX3_sense_55 : decode cX3_sense 55 = .ok (.arraylength, 1) := by decide +kernel
theorem dX3_sense_56 : decode cX3_sense 56 = .ok (.if_icmp .ge 43, 3) := by decide +kernel
theorem dX3_sense_59 : decode cX3_sense 59 = .ok (.aload_n 1, 1) := by decide +kernel
theorem dX3_sense_60 : decode cX3_sense 60 = .ok (.getfield 185, 3) := by decide +kernel
theorem dX3_sense_63 : decode cX3_sense 63 = .ok (.iload_n 3, 1) := by decide +kernel
theorem dX3_sense_64 : decode cX3_sense 64 = .ok (.iload 4, 2) := by decide +kernel
theorem dX3_sense_66 : decode cX3_sense 66 = .ok (.iadd, 1) := by decide +kernel
theorem dX3_sense_67 : decode cX3_sense 67 = .ok (.aload_n 0, 1) := by decide +kernel
theorem dX3_sense_68 : decode cX3_sense 68 = .ok (.getfield 15, 3) := by decide +kernel
theorem dX3_sense_71 : decode cX3_sense 71 = .ok (.aload_n 2, 1) := by decide +kernel
theorem dX3_sense_72 : decode cX3_sense 72 = .ok (.getfield 188, 3) := by decide +kernel
theorem dX3_sense_75 : decode cX3_sense 75 = .ok (.iload 4, 2) := by decide +kernel
theorem dX3_sense_77 : decode cX3_sense 77 = .ok (.iaload, 1) := by decide +kernel
theorem dX3_sense_78 : decode cX3_sense 78 = .ok (.aload_n 2, 1) := by decide +kernel
theorem dX3_sense_79 : decode cX3_sense 79 = .ok (.getfield 191, 3) := by decide +kernel
theorem dX3_sense_82 : decode cX3_sense 82 = .ok (.iload 4, 2) := by decide +kernel
theorem dX3_sense_84 : decode cX3_sense 84 = .ok (.iaload, 1) := by decide +kernel
theorem dX3_sense_85 : decode cX3_sense 85 = .ok (.aload_n 1, 1) := by decide +kernel
theorem dX3_sense_86 : decode cX3_sense 86 = .ok (.getfield 67, 3) := by decide +kernel
theorem dX3_sense_89 : decode cX3_sense 89 = .ok (.invokevirtual 194, 3) := by decide +kernel
theorem dX3_sense_92 : decode cX3_sense 92 = .ok (.iastore, 1) := by decide +kernel
theorem dX3_sense_93 : decode cX3_sense 93 = .ok (.iinc 4 1, 3) := by decide +kernel
theorem dX3_sense_96 : decode cX3_sense 96 = .ok (.goto (-58), 3) := by decide +kernel
theorem dX3_sense_99 : decode cX3_sense 99 = .ok (.return_, 1) := by decide +kernel
theorem dX4_init_0 : decode cX4_init 0 = .ok (.aload_n 0, 1) := by decide +kernel
theorem dX4_init_1 : decode cX4_init 1 = .ok (.invokespecial 3, 3) := by decide +kernel
theorem dX4_init_4 : decode cX4_init 4 = .ok (.aload_n 0, 1) := by decide +kernel
theorem dX4_init_5 : decode cX4_init 5 = .ok (.new 9, 3) := by decide +kernel
theorem dX4_init_8 : decode cX4_init 8 = .ok (.dup, 1) := by decide +kernel
theorem dX4_init_9 : decode cX4_init 9 = .ok (.invokespecial 11, 3) := by decide +kernel
theorem dX4_init_12 : decode cX4_init 12 = .ok (.putfield 12, 3) := by decide +kernel
theorem dX4_init_15 : decode cX4_init 15 = .ok (.aload_n 0, 1) := by decide +kernel
theorem dX4_init_16 : decode cX4_init 16 = .ok (.sipush 300, 3) := by decide +kernel
theorem dX4_init_19 : decode cX4_init 19 = .ok (.newarray .int, 2) := by decide +kernel
theorem dX4_init_21 : decode cX4_init 21 = .ok (.putfield 18, 3) := by decide +kernel
theorem dX4_init_24 : decode cX4_init 24 = .ok (.return_, 1) := by decide +kernel
theorem dX4_parse_0 : decode cX4_parse 0 = .ok (.aload_n 0, 1) := by decide +kernel
theorem dX4_parse_1 : decode cX4_parse 1 = .ok (.getfield 12, 3) := by decide +kernel
theorem dX4_parse_4 : decode cX4_parse 4 = .ok (.aload_n 1, 1) := by decide +kernel
theorem dX4_parse_5 : decode cX4_parse 5 = .ok (.iload_n 2, 1) := by decide +kernel
theorem dX4_parse_6 : decode cX4_parse 6 = .ok (.invokevirtual 22, 3) := by decide +kernel
theorem dX4_parse_9 : decode cX4_parse 9 = .ok (.aload_n 0, 1) := by decide +kernel
theorem dX4_parse_10 : decode cX4_parse 10 = .ok (.iconst 0, 1) := by decide +kernel
theorem dX4_parse_11 : decode cX4_parse 11 = .ok (.putfield 26, 3) := by decide +kernel
theorem dX4_parse_14 : decode cX4_parse 14 = .ok (.aload_n 0, 1) := by decide +kernel
theorem dX4_parse_15 : decode cX4_parse 15 = .ok (.iconst 0, 1) := by decide +kernel
theorem dX4_parse_16 : decode cX4_parse 16 = .ok (.putfield 30, 3) := by decide +kernel
theorem dX4_parse_19 : decode cX4_parse 19 = .ok (.aload_n 0, 1) := by decide +kernel
theorem dX4_parse_20 : decode cX4_parse 20 = .ok (.iconst 0, 1) := by decide +kernel
theorem dX4_parse_21 : decode cX4_parse 21 = .ok (.putfield 33, 3) := by decide +kernel
theorem dX4_parse_24 : decode cX4_parse 24 = .ok (.aload_n 0, 1) := by decide +kernel
theorem dX4_parse_25 : decode cX4_parse 25 = .ok (.iconst 0, 1) := by decide +kernel
theorem dX4_parse_26 : decode cX4_parse 26 = .ok (.putfield 36, 3) := by decide +kernel
theorem dX4_parse_29 : decode cX4_parse 29 = .ok (.aload_n 0, 1) := by decide +kernel
theorem dX4_parse_30 : decode cX4_parse 30 = .ok (.iconst 0, 1) := by decide +kernel
theorem dX4_parse_31 : decode cX4_parse 31 = .ok (.putfield 39, 3) := by decide +kernel
theorem dX4_parse_34 : decode cX4_parse 34 = .ok (.aload_n 0, 1) := by decide +kernel
theorem dX4_parse_35 : decode cX4_parse 35 = .ok (.iconst (-1), 1) := by decide +kernel
theorem dX4_parse_36 : decode cX4_parse 36 = .ok (.putfield 42, 3) := by decide +kernel
theorem dX4_parse_39 : decode cX4_parse 39 = .ok (.iconst 0, 1) := by decide +kernel
theorem dX4_parse_40 : decode cX4_parse 40 = .ok (.istore_n 3, 1) := by decide +kernel
theorem dX4_parse_41 : decode cX4_parse 41 = .ok (.iload_n 3, 1) := by decide +kernel
theorem dX4_parse_42 : decode cX4_parse 42 = .ok (.bipush 10, 2) := by decide +kernel
theorem dX4_parse_44 : decode cX4_parse 44 = .ok (.if_icmp .gt 32, 3) := by decide +kernel
theorem dX4_parse_47 : decode cX4_parse 47 = .ok (.aload_n 0, 1) := by decide +kernel
theorem dX4_parse_48 : decode cX4_parse 48 = .ok (.getfield 39, 3) := by decide +kernel
theorem dX4_parse_51 : decode cX4_parse 51 = .ok (.ifCond .ne 25, 3) := by decide +kernel
theorem dX4_parse_54 : decode cX4_parse 54 = .ok (.aload_n 0, 1) := by decide +kernel
theorem dX4_parse_55 : decode cX4_parse 55 = .ok (.getfield 12, 3) := by decide +kernel
theorem dX4_parse_58 : decode cX4_parse 58 = .ok (.getfield 45, 3) := by decide +kernel
theorem dX4_parse_61 : decode cX4_parse 61 = .ok (.iconst (-1), 1) := by decide +kernel
theorem dX4_parse_62 : decode cX4_parse 62 = .ok (.if_icmp .eq 14, 3) := by decide +kernel
theorem dX4_parse_65 : decode cX4_parse 65 = .ok (.aload_n 0, 1) := by decide +kernel
theorem dX4_parse_66 : decode cX4_parse 66 = .ok (.iload_n 3, 1) := by decide +kernel
theorem dX4_parse_67 : decode cX4_parse 67 = .ok (.invokevirtual 48, 3) := by decide +kernel
theorem dX4_parse_70 : decode cX4_parse 70 = .ok (.iinc 3 1, 3) := by decide +kernel
theorem dX4_parse_73 : decode cX4_parse 73 = .ok (.goto (-32), 3) := by decide +kernel
theorem dX4_parse_76 : decode cX4_parse 76 = .ok (.return_, 1) := by decide +kernel
theorem dX4_copyCode_0 : decode cX4_copyCode 0 = .ok (.aload_n 0, 1) := by decide +kernel
theorem dX4_copyCode_1 : decode cX4_copyCode 1 = .ok (.getfield 18, 3) := by decide +kernel
theorem dX4_copyCode_4 : decode cX4_copyCode 4 = .ok (.aload_n 0, 1) := by decide +kernel
theorem dX4_copyCode_5 : decode cX4_copyCode 5 = .ok (.getfield 26, 3) := by decide +kernel
theorem dX4_copyCode_8 : decode cX4_copyCode 8 = .ok (.invokestatic 52, 3) := by decide +kernel
theorem dX4_copyCode_11 : decode cX4_copyCode 11 = .ok (.areturn, 1) := by decide +kernel
theorem dX4_clause_0 : decode cX4_clause 0 = .ok (.aload_n 0, 1) := by decide +kernel
theorem dX4_clause_1 : decode cX4_clause 1 = .ok (.getfield 12, 3) := by decide +kernel
theorem dX4_clause_4 : decode cX4_clause 4 = .ok (.getfield 45, 3) := by decide +kernel
theorem dX4_clause_7 : decode cX4_clause 7 = .ok (.invokestatic 58, 3) := by decide +kernel
theorem dX4_clause_10 : decode cX4_clause 10 = .ok (.istore_n 2, 1) := by decide +kernel
theorem dX4_clause_11 : decode cX4_clause 11 = .ok (.iload_n 2, 1) := by decide +kernel
theorem dX4_clause_12 : decode cX4_clause 12 = .ok (.iconst (-1), 1) := by decide +kernel
theorem dX4_clause_13 : decode cX4_clause 13 = .ok (.if_icmp .ne 12, 3) := by decide +kernel
theorem dX4_clause_16 : decode cX4_clause 16 = .ok (.aload_n 0, 1) := by decide +kernel
theorem dX4_clause_17 : decode cX4_clause 17 = .ok (.iconst 1, 1) := by decide +kernel
theorem dX4_clause_18 : decode cX4_clause 18 = .ok (.invokevirtual 62, 3) := by decide +kernel
theorem dX4_clause_21 : decode cX4_clause 21 = .ok (.pop, 1) := by decide +kernel
theorem dX4_clause_22 : decode cX4_clause 22 = .ok (.goto 121, 3) := by decide +kernel
theorem dX4_clause_25 : decode cX4_clause 25 = .ok (.iload_n 2, 1) := by decide +kernel
theorem dX4_clause_26 : decode cX4_clause 26 = .ok (.bipush 21, 2) := by decide +kernel
theorem dX4_clause_28 : decode cX4_clause 28 = .ok (.if_icmp .eq 23, 3) := by decide +kernel
theorem dX4_clause_31 : decode cX4_clause 31 = .ok (.aload_n 0, 1) := by decide +kernel
theorem dX4_clause_32 : decode cX4_clause 32 = .ok (.getfield 36, 3) := by decide +kernel
theorem dX4_clause_35 : decode cX4_clause 35 = .ok (.iload_n 2, 1) := by decide +kernel
theorem dX4_clause_36 : decode cX4_clause 36 = .ok (.ishr, 1) := by decide +kernel
theorem dX4_clause_37 : decode cX4_clause 37 = .ok (.iconst 1, 1) := by decide +kernel
theorem dX4_clause_38 : decode cX4_clause 38 = .ok (.iand, 1) := by decide +kernel
theorem dX4_clause_39 : decode cX4_clause 39 = .ok (.ifCond .eq 12, 3) := by decide +kernel
theorem dX4_clause_42 : decode cX4_clause 42 = .ok (.aload_n 0, 1) := by decide +kernel
theorem dX4_clause_43 : decode cX4_clause 43 = .ok (.iconst 4, 1) := by decide +kernel
theorem dX4_clause_44 : decode cX4_clause 44 = .ok (.invokevirtual 62, 3) := by decide +kernel
theorem dX4_clause_47 : decode cX4_clause 47 = .ok (.pop, 1) := by decide +kernel
theorem dX4_clause_48 : decode cX4_clause 48 = .ok (.goto 95, 3) := by decide +kernel
theorem dX4_clause_51 : decode cX4_clause 51 = .ok (.iload_n 1, 1) := by decide +kernel
theorem dX4_clause_52 : decode cX4_clause 52 = .ok (.bipush 10, 2) := by decide +kernel
theorem dX4_clause_54 : decode cX4_clause 54 = .ok (.if_icmp .lt 13, 3) := by decide +kernel
theorem dX4_clause_57 : decode cX4_clause 57 = .ok (.aload_n 0, 1) := by decide +kernel
theorem dX4_clause_58 : decode cX4_clause 58 = .ok (.bipush 6, 2) := by decide +kernel
theorem dX4_clause_60 : decode cX4_clause 60 = .ok (.invokevirtual 62, 3) := by decide +kernel
theorem dX4_clause_63 : decode cX4_clause 63 = .ok (.pop, 1) := by decide +kernel
theorem dX4_clause_64 : decode cX4_clause 64 = .ok (.goto 79, 3) := by decide +kernel
theorem dX4_clause_67 : decode cX4_clause 67 = .ok (.iload_n 2, 1) := by decide +kernel
theorem dX4_clause_68 : decode cX4_clause 68 = .ok (.bipush 21, 2) := by decide +kernel
theorem dX4_clause_70 : decode cX4_clause 70 = .ok (.if_icmp .ne 17, 3) := by decide +kernel
theorem dX4_clause_73 : decode cX4_clause 73 = .ok (.aload_n 0, 1) := by decide +kernel
theorem dX4_clause_74 : decode cX4_clause 74 = .ok (.getfield 12, 3) := by decide +kernel
theorem dX4_clause_77 : decode cX4_clause 77 = .ok (.invokevirtual 68, 3) := by decide +kernel
theorem dX4_clause_80 : decode cX4_clause 80 = .ok (.aload_n 0, 1) := by decide +kernel
theorem dX4_clause_81 : decode cX4_clause 81 = .ok (.invokevirtual 71, 3) := by decide +kernel
theorem dX4_clause_84 : decode cX4_clause 84 = .ok (.goto 59, 3) := by decide +kernel
theorem dX4_clause_87 : decode cX4_clause 87 = .ok (.aload_n 0, 1) := by decide +kernel
theorem dX4_clause_88 : decode cX4_clause 88 = .ok (.dup, 1) := by decide +kernel
theorem dX4_clause_89 : decode cX4_clause 89 = .ok (.getfield 36, 3) := by decide +kernel
theorem dX4_clause_92 : decode cX4_clause 92 = .ok (.iconst 1, 1) := by decide +kernel
theorem dX4_clause_93 : decode cX4_clause 93 = .ok (.iload_n 2, 1) := by decide +kernel
theorem dX4_clause_94 : decode cX4_clause 94 = .ok (.ishl, 1) := by decide +kernel
theorem dX4_clause_95 : decode cX4_clause 95 = .ok (.ior, 1) := by decide +kernel
theorem dX4_clause_96 : decode cX4_clause 96 = .ok (.putfield 36, 3) := by decide +kernel
theorem dX4_clause_99 : decode cX4_clause 99 = .ok (.aload_n 0, 1) := by decide +kernel
theorem dX4_clause_100 : decode cX4_clause 100 = .ok (.getfield 12, 3) := by decide +kernel
theorem dX4_clause_103 : decode cX4_clause 103 = .ok (.invokevirtual 68, 3) := by decide +kernel
theorem dX4_clause_106 : decode cX4_clause 106 = .ok (.iload_n 2, 1) := by decide +kernel
theorem dX4_clause_107 : decode cX4_clause 107 = .ok (.bipush 24, 2) := by decide +kernel
theorem dX4_clause_109 : decode cX4_clause 109 = .ok (.if_icmp .ne 10, 3) := by decide +kernel
theorem dX4_clause_112 : decode cX4_clause 112 = .ok (.aload_n 0, 1) := by decide +kernel
theorem dX4_clause_113 : decode cX4_clause 113 = .ok (.invokevirtual 74, 3) := by decide +kernel
theorem dX4_clause_116 : decode cX4_clause 116 = .ok (.goto 7, 3) := by decide +kernel
theorem dX4_clause_119 : decode cX4_clause 119 = .ok (.aload_n 0, 1) := by decide +kernel
theorem dX4_clause_120 : decode cX4_clause 120 = .ok (.invokevirtual 78, 3) := by decide +kernel
theorem dX4_clause_123 : decode cX4_clause 123 = .ok (.istore_n 3, 1) := by decide +kernel
theorem dX4_clause_124 : decode cX4_clause 124 = .ok (.iload_n 3, 1) := by decide +kernel
theorem dX4_clause_125 : decode cX4_clause 125 = .ok (.ifCond .eq 18, 3) := by decide +kernel
theorem dX4_clause_128 : decode cX4_clause 128 = .ok (.aload_n 0, 1) := by decide +kernel
theorem dX4_clause_129 : decode cX4_clause 129 = .ok (.bipush 59, 2) := by decide +kernel
theorem dX4_clause_131 : decode cX4_clause 131 = .ok (.invokevirtual 81, 3) := by decide +kernel
theorem dX4_clause_134 : decode cX4_clause 134 = .ok (.ifCond .eq 9, 3) := by decide +kernel
theorem dX4_clause_137 : decode cX4_clause 137 = .ok (.aload_n 0, 1) := by decide +kernel
theorem dX4_clause_138 : decode cX4_clause 138 = .ok (.iload_n 2, 1) := by decide +kernel
theorem dX4_clause_139 : decode cX4_clause 139 = .ok (.iconst 0, 1) := by decide +kernel
theorem dX4_clause_140 : decode cX4_clause 140 = .ok (.invokevirtual 84, 3) := by decide +kernel
theorem dX4_clause_143 : decode cX4_clause 143 = .ok (.return_, 1) := by decide +kernel
theorem dX4_letClause_0 : decode cX4_letClause 0 = .ok (.aload_n 0, 1) := by decide +kernel
theorem dX4_letClause_1 : decode cX4_letClause 1 = .ok (.getfield 12, 3) := by decide +kernel
theorem dX4_letClause_4 : decode cX4_letClause 4 = .ok (.getfield 88, 3) := by decide +kernel
theorem dX4_letClause_7 : decode cX4_letClause 7 = .ok (.bipush 65, 2) := by decide +kernel
theorem dX4_letClause_9 : decode cX4_letClause 9 = .ok (.isub, 1) := by decide +kernel
theorem dX4_letClause_10 : decode cX4_letClause 10 = .ok (.istore_n 1, 1) := by decide +kernel
theorem dX4_letClause_11 : decode cX4_letClause 11 = .ok (.aload_n 0, 1) := by decide +kernel
theorem dX4_letClause_12 : decode cX4_letClause 12 = .ok (.getfield 12, 3) := by decide +kernel
theorem dX4_letClause_15 : decode cX4_letClause 15 = .ok (.getfield 45, 3) := by decide +kernel
theorem dX4_letClause_18 : decode cX4_letClause 18 = .ok (.bipush (-4), 2) := by decide +kernel
theorem dX4_letClause_20 : decode cX4_letClause 20 = .ok (.if_icmp .eq 12, 3) := by decide +kernel
theorem dX4_letClause_23 : decode cX4_letClause 23 = .ok (.aload_n 0, 1) := by decide +kernel
theorem dX4_letClause_24 : decode cX4_letClause 24 = .ok (.iconst 1, 1) := by decide +kernel
theorem dX4_letClause_25 : decode cX4_letClause 25 = .ok (.invokevirtual 62, 3) := by decide +kernel
theorem dX4_letClause_28 : decode cX4_letClause 28 = .ok (.pop, 1) := by decide +kernel
theorem dX4_letClause_29 : decode cX4_letClause 29 = .ok (.goto 65, 3) := by decide +kernel
theorem dX4_letClause_32 : decode cX4_letClause 32 = .ok (.aload_n 0, 1) := by decide +kernel
theorem dX4_letClause_33 : decode cX4_letClause 33 = .ok (.getfield 33, 3) := by decide +kernel
theorem dX4_letClause_36 : decode cX4_letClause 36 = .ok (.iload_n 1, 1) := by decide +kernel
theorem dX4_letClause_37 : decode cX4_letClause 37 = .ok (.ishr, 1) := by decide +kernel
theorem dX4_letClause_38 : decode cX4_letClause 38 = .ok (.iconst 1, 1) := by decide +kernel
theorem dX4_letClause_39 : decode cX4_letClause 39 = .ok (.iand, 1) := by decide +kernel
theorem dX4_letClause_40 : decode cX4_letClause 40 = .ok (.ifCond .eq 12, 3) := by decide +kernel
theorem dX4_letClause_43 : decode cX4_letClause 43 = .ok (.aload_n 0, 1) := by decide +kernel
theorem dX4_letClause_44 : decode cX4_letClause 44 = .ok (.iconst 4, 1) := by decide +kernel
theorem dX4_letClause_45 : decode cX4_letClause 45 = .ok (.invokevirtual 62, 3) := by decide +kernel
theorem dX4_letClause_48 : decode cX4_letClause 48 = .ok (.pop, 1) := by decide +kernel
theorem dX4_letClause_49 : decode cX4_letClause 49 = .ok (.goto 45, 3) := by decide +kernel
theorem dX4_letClause_52 : decode cX4_letClause 52 = .ok (.aload_n 0, 1) := by decide +kernel
theorem dX4_letClause_53 : decode cX4_letClause 53 = .ok (.getfield 12, 3) := by decide +kernel
theorem dX4_letClause_56 : decode cX4_letClause 56 = .ok (.invokevirtual 68, 3) := by decide +kernel
theorem dX4_letClause_59 : decode cX4_letClause 59 = .ok (.aload_n 0, 1) := by decide +kernel
theorem dX4_letClause_60 : decode cX4_letClause 60 = .ok (.invokevirtual 78, 3) := by decide +kernel
theorem dX4_letClause_63 : decode cX4_letClause 63 = .ok (.ifCond .eq 31, 3) := by decide +kernel
theorem dX4_letClause_66 : decode cX4_letClause 66 = .ok (.aload_n 0, 1) := by decide +kernel
theorem dX4_letClause_67 : decode cX4_letClause 67 = .ok (.bipush 59, 2) := by decide +kernel
theorem dX4_letClause_69 : decode cX4_letClause 69 = .ok (.invokevirtual 81, 3) := by decide +kernel
theorem dX4_letClause_72 : decode cX4_letClause 72 = .ok (.ifCond .eq 22, 3) := by decide +kernel
theorem dX4_letClause_75 : decode cX4_letClause 75 = .ok (.aload_n 0, 1) := by decide +kernel
theorem dX4_letClause_76 : decode cX4_letClause 76 = .ok (.bipush 21, 2) := by decide +kernel
theorem dX4_letClause_78 : decode cX4_letClause 78 = .ok (.iload_n 1, 1) := by decide +kernel
theorem dX4_letClause_79 : decode cX4_letClause 79 = .ok (.invokevirtual 84, 3) := by decide +kernel
theorem dX4_letClause_82 : decode cX4_letClause 82 = .ok (.aload_n 0, 1) := by decide +kernel
theorem dX4_letClause_83 : decode cX4_letClause 83 = .ok (.dup, 1) := by decide +kernel
theorem dX4_letClause_84 : decode cX4_letClause 84 = .ok (.getfield 33, 3) := by decide +kernel
theorem dX4_letClause_87 : decode cX4_letClause 87 = .ok (.iconst 1, 1) := by decide +kernel
theorem dX4_letClause_88 : decode cX4_letClause 88 = .ok (.iload_n 1, 1) := by decide +kernel
theorem dX4_letClause_89 : decode cX4_letClause 89 = .ok (.ishl, 1) := by decide +kernel
theorem dX4_letClause_90 : decode cX4_letClause 90 = .ok (.ior, 1) := by decide +kernel
theorem dX4_letClause_91 : decode cX4_letClause 91 = .ok (.putfield 33, 3) := by decide +kernel
theorem dX4_letClause_94 : decode cX4_letClause 94 = .ok (.return_, 1) := by decide +kernel
theorem dX4_either_0 : decode cX4_either 0 = .ok (.iconst 0, 1) := by decide +kernel
theorem dX4_either_1 : decode cX4_either 1 = .ok (.istore_n 1, 1) := by decide +kernel
theorem dX4_either_2 : decode cX4_either 2 = .ok (.aload_n 0, 1) := by decide +kernel
theorem dX4_either_3 : decode cX4_either 3 = .ok (.invokevirtual 91, 3) := by decide +kernel
theorem dX4_either_6 : decode cX4_either 6 = .ok (.istore_n 2, 1) := by decide +kernel
theorem dX4_either_7 : decode cX4_either 7 = .ok (.iconst 0, 1) := by decide +kernel
theorem dX4_either_8 : decode cX4_either 8 = .ok (.istore_n 3, 1) := by decide +kernel
theorem dX4_either_9 : decode cX4_either 9 = .ok (.iload_n 3, 1) := by decide +kernel
theorem dX4_either_10 : decode cX4_either 10 = .ok (.sipush 300, 3) := by decide +kernel
theorem dX4_either_13 : decode cX4_either 13 = .ok (.if_icmp .ge 90, 3) := by decide +kernel
theorem dX4_either_16 : decode cX4_either 16 = .ok (.iload_n 2, 1) := by decide +kernel
theorem dX4_either_17 : decode cX4_either 17 = .ok (.ifCond .eq 86, 3) := by decide +kernel
theorem dX4_either_20 : decode cX4_either 20 = .ok (.aload_n 0, 1) := by decide +kernel
theorem dX4_either_21 : decode cX4_either 21 = .ok (.getfield 12, 3) := by decide +kernel
theorem dX4_either_24 : decode cX4_either 24 = .ok (.getfield 45, 3) := by decide +kernel
theorem dX4_either_27 : decode cX4_either 27 = .ok (.invokestatic 94, 3) := by decide +kernel
theorem dX4_either_30 : decode cX4_either 30 = .ok (.ifCond .eq 73, 3) := by decide +kernel
theorem dX4_either_33 : decode cX4_either 33 = .ok (.aload_n 0, 1) := by decide +kernel
theorem dX4_either_34 : decode cX4_either 34 = .ok (.getfield 12, 3) := by decide +kernel
theorem dX4_either_37 : decode cX4_either 37 = .ok (.getfield 45, 3) := by decide +kernel
theorem dX4_either_40 : decode cX4_either 40 = .ok (.ldc 97, 2) := by decide +kernel
theorem dX4_either_42 : decode cX4_either 42 = .ok (.if_icmp .ne 7, 3) := by decide +kernel
theorem dX4_either_45 : decode cX4_either 45 = .ok (.iconst 1, 1) := by decide +kernel
theorem dX4_either_46 : decode cX4_either 46 = .ok (.goto 4, 3) := by decide +kernel
theorem dX4_either_49 : decode cX4_either 49 = .ok (.iconst 0, 1) := by decide +kernel
theorem dX4_either_50 : decode cX4_either 50 = .ok (.istore 4, 2) := by decide +kernel
theorem dX4_either_52 : decode cX4_either 52 = .ok (.iload 4, 2) := by decide +kernel
theorem dX4_either_54 : decode cX4_either 54 = .ok (.ifCond .ne 14, 3) := by decide +kernel
theorem dX4_either_57 : decode cX4_either 57 = .ok (.iload_n 1, 1) := by decide +kernel
theorem dX4_either_58 : decode cX4_either 58 = .ok (.ifCond .eq 10, 3) := by decide +kernel
theorem dX4_either_61 : decode cX4_either 61 = .ok (.aload_n 0, 1) := by decide +kernel
theorem dX4_either_62 : decode cX4_either 62 = .ok (.bipush 20, 2) := by decide +kernel
theorem dX4_either_64 : decode cX4_either 64 = .ok (.iconst 0, 1) := by decide +kernel
theorem dX4_either_65 : decode cX4_either 65 = .ok (.invokevirtual 84, 3) := by decide +kernel
theorem dX4_either_68 : decode cX4_either 68 = .ok (.aload_n 0, 1) := by decide +kernel
theorem dX4_either_69 : decode cX4_either 69 = .ok (.getfield 12, 3) := by decide +kernel
theorem dX4_either_72 : decode cX4_either 72 = .ok (.invokevirtual 68, 3) := by decide +kernel
theorem dX4_either_75 : decode cX4_either 75 = .ok (.aload_n 0, 1) := by decide +kernel
theorem dX4_either_76 : decode cX4_either 76 = .ok (.invokevirtual 91, 3) := by decide +kernel
theorem dX4_either_79 : decode cX4_either 79 = .ok (.istore_n 2, 1) := by decide +kernel
theorem dX4_either_80 : decode cX4_either 80 = .ok (.iload 4, 2) := by decide +kernel
theorem dX4_either_82 : decode cX4_either 82 = .ok (.ifCond .eq 13, 3) := by decide +kernel
theorem dX4_either_85 : decode cX4_either 85 = .ok (.aload_n 0, 1) := by decide +kernel
theorem dX4_either_86 : decode cX4_either 86 = .ok (.bipush 19, 2) := by decide +kernel
theorem dX4_either_88 : decode cX4_either 88 = .ok (.iconst 0, 1) := by decide +kernel
theorem dX4_either_89 : decode cX4_either 89 = .ok (.invokevirtual 84, 3) := by decide +kernel
theorem dX4_either_92 : decode cX4_either 92 = .ok (.goto 5, 3) := by decide +kernel
theorem dX4_either_95 : decode cX4_either 95 = .ok (.iconst 1, 1) := by decide +kernel
theorem dX4_either_96 : decode cX4_either 96 = .ok (.istore_n 1, 1) := by decide +kernel
theorem dX4_either_97 : decode cX4_either 97 = .ok (.iinc 3 1, 3) := by decide +kernel
theorem dX4_either_100 : decode cX4_either 100 = .ok (.goto (-91), 3) := by decide +kernel
theorem dX4_either_103 : decode cX4_either 103 = .ok (.iload_n 1, 1) := by decide +kernel
theorem dX4_either_104 : decode cX4_either 104 = .ok (.ifCond .eq 10, 3) := by decide +kernel
theorem dX4_either_107 : decode cX4_either 107 = .ok (.aload_n 0, 1) := by decide +kernel
theorem dX4_either_108 : decode cX4_either 108 = .ok (.bipush 20, 2) := by decide +kernel
theorem dX4_either_110 : decode cX4_either 110 = .ok (.iconst 0, 1) := by decide +kernel
theorem dX4_either_111 : decode cX4_either 111 = .ok (.invokevirtual 84, 3) := by decide +kernel
theorem dX4_either_114 : decode cX4_either 114 = .ok (.iload_n 2, 1) := by decide +kernel
theorem dX4_either_115 : decode cX4_either 115 = .ok (.ireturn, 1) := by decide +kernel
theorem dX4_ask_0 : decode cX4_ask 0 = .ok (.iconst 0, 1) := by decide +kernel
theorem dX4_ask_1 : decode cX4_ask 1 = .ok (.istore_n 1, 1) := by decide +kernel
theorem dX4_ask_2 : decode cX4_ask 2 = .ok (.iload_n 1, 1) := by decide +kernel
theorem dX4_ask_3 : decode cX4_ask 3 = .ok (.bipush 8, 2) := by decide +kernel
theorem dX4_ask_5 : decode cX4_ask 5 = .ok (.if_icmp .gt 30, 3) := by decide +kernel
theorem dX4_ask_8 : decode cX4_ask 8 = .ok (.aload_n 0, 1) := by decide +kernel
theorem dX4_ask_9 : decode cX4_ask 9 = .ok (.getfield 12, 3) := by decide +kernel
theorem dX4_ask_12 : decode cX4_ask 12 = .ok (.getfield 45, 3) := by decide +kernel
theorem dX4_ask_15 : decode cX4_ask 15 = .ok (.ldc 98, 2) := by decide +kernel
theorem dX4_ask_17 : decode cX4_ask 17 = .ok (.if_icmp .ne 18, 3) := by decide +kernel
theorem dX4_ask_20 : decode cX4_ask 20 = .ok (.aload_n 0, 1) := by decide +kernel
theorem dX4_ask_21 : decode cX4_ask 21 = .ok (.invokevirtual 99, 3) := by decide +kernel
theorem dX4_ask_24 : decode cX4_ask 24 = .ok (.ifCond .ne 5, 3) := by decide +kernel
theorem dX4_ask_27 : decode cX4_ask 27 = .ok (.iconst 0, 1) := by decide +kernel
theorem dX4_ask_28 : decode cX4_ask 28 = .ok (.ireturn, 1) := by decide +kernel
theorem dX4_ask_29 : decode cX4_ask 29 = .ok (.iinc 1 1, 3) := by decide +kernel
theorem dX4_ask_32 : decode cX4_ask 32 = .ok (.goto (-30), 3) := by decide +kernel
theorem dX4_ask_35 : decode cX4_ask 35 = .ok (.aload_n 0, 1) := by decide +kernel
theorem dX4_ask_36 : decode cX4_ask 36 = .ok (.invokevirtual 78, 3) := by decide +kernel
theorem dX4_ask_39 : decode cX4_ask 39 = .ok (.ifCond .ne 5, 3) := by decide +kernel
theorem dX4_ask_42 : decode cX4_ask 42 = .ok (.iconst 0, 1) := by decide +kernel
theorem dX4_ask_43 : decode cX4_ask 43 = .ok (.ireturn, 1) := by decide +kernel
theorem dX4_ask_44 : decode cX4_ask 44 = .ok (.aload_n 0, 1) := by decide +kernel
theorem dX4_ask_45 : decode cX4_ask 45 = .ok (.getfield 12, 3) := by decide +kernel
theorem dX4_ask_48 : decode cX4_ask 48 = .ok (.getfield 45, 3) := by decide +kernel
theorem dX4_ask_51 : decode cX4_ask 51 = .ok (.invokestatic 102, 3) := by decide +kernel
theorem dX4_ask_54 : decode cX4_ask 54 = .ok (.istore_n 2, 1) := by decide +kernel
theorem dX4_ask_55 : decode cX4_ask 55 = .ok (.iload_n 2, 1) := by decide +kernel
theorem dX4_ask_56 : decode cX4_ask 56 = .ok (.iconst (-1), 1) := by decide +kernel
theorem dX4_ask_57 : decode cX4_ask 57 = .ok (.if_icmp .ne 9, 3) := by decide +kernel
theorem dX4_ask_60 : decode cX4_ask 60 = .ok (.aload_n 0, 1) := by decide +kernel
theorem dX4_ask_61 : decode cX4_ask 61 = .ok (.iconst 1, 1) := by decide +kernel
theorem dX4_ask_62 : decode cX4_ask 62 = .ok (.invokevirtual 62, 3) := by decide +kernel
theorem dX4_ask_65 : decode cX4_ask 65 = .ok (.ireturn, 1) := by decide +kernel
theorem dX4_ask_66 : decode cX4_ask 66 = .ok (.aload_n 0, 1) := by decide +kernel
theorem dX4_ask_67 : decode cX4_ask 67 = .ok (.getfield 12, 3) := by decide +kernel
theorem dX4_ask_70 : decode cX4_ask 70 = .ok (.invokevirtual 68, 3) := by decide +kernel
theorem dX4_ask_73 : decode cX4_ask 73 = .ok (.aload_n 0, 1) := by decide +kernel
theorem dX4_ask_74 : decode cX4_ask 74 = .ok (.invokevirtual 78, 3) := by decide +kernel
theorem dX4_ask_77 : decode cX4_ask 77 = .ok (.ifCond .ne 5, 3) := by decide +kernel
theorem dX4_ask_80 : decode cX4_ask 80 = .ok (.iconst 0, 1) := by decide +kernel
theorem dX4_ask_81 : decode cX4_ask 81 = .ok (.ireturn, 1) := by decide +kernel
theorem dX4_ask_82 : decode cX4_ask 82 = .ok (.aload_n 0, 1) := by decide +kernel
theorem dX4_ask_83 : decode cX4_ask 83 = .ok (.iload_n 2, 1) := by decide +kernel
theorem dX4_ask_84 : decode cX4_ask 84 = .ok (.iconst 0, 1) := by decide +kernel
theorem dX4_ask_85 : decode cX4_ask 85 = .ok (.invokevirtual 84, 3) := by decide +kernel
theorem dX4_ask_88 : decode cX4_ask 88 = .ok (.iconst 0, 1) := by decide +kernel
theorem dX4_ask_89 : decode cX4_ask 89 = .ok (.istore_n 3, 1) := by decide +kernel
theorem dX4_ask_90 : decode cX4_ask 90 = .ok (.iload_n 3, 1) := by decide +kernel
theorem dX4_ask_91 : decode cX4_ask 91 = .ok (.iload_n 1, 1) := by decide +kernel
theorem dX4_ask_92 : decode cX4_ask 92 = .ok (.if_icmp .ge 16, 3) := by decide +kernel
theorem dX4_ask_95 : decode cX4_ask 95 = .ok (.aload_n 0, 1) := by decide +kernel
theorem dX4_ask_96 : decode cX4_ask 96 = .ok (.bipush 6, 2) := by decide +kernel
theorem dX4_ask_98 : decode cX4_ask 98 = .ok (.iconst 0, 1) := by decide +kernel
theorem dX4_ask_99 : decode cX4_ask 99 = .ok (.invokevirtual 84, 3) := by decide +kernel
theorem dX4_ask_102 : decode cX4_ask 102 = .ok (.iinc 3 1, 3) := by decide +kernel
theorem dX4_ask_105 : decode cX4_ask 105 = .ok (.goto (-15), 3) := by decide +kernel
theorem dX4_ask_108 : decode cX4_ask 108 = .ok (.aload_n 0, 1) := by decide +kernel
theorem dX4_ask_109 : decode cX4_ask 109 = .ok (.dup, 1) := by decide +kernel
theorem dX4_ask_110 : decode cX4_ask 110 = .ok (.getfield 30, 3) := by decide +kernel
theorem dX4_ask_113 : decode cX4_ask 113 = .ok (.iload_n 1, 1) := by decide +kernel
theorem dX4_ask_114 : decode cX4_ask 114 = .ok (.isub, 1) := by decide +kernel
theorem dX4_ask_115 : decode cX4_ask 115 = .ok (.putfield 30, 3) := by decide +kernel
theorem dX4_ask_118 : decode cX4_ask 118 = .ok (.iconst 1, 1) := by decide +kernel
theorem dX4_ask_119 : decode cX4_ask 119 = .ok (.ireturn, 1) := by decide +kernel
theorem dX4_sum_0 : decode cX4_sum 0 = .ok (.iconst (-1), 1) := by decide +kernel
theorem dX4_sum_1 : decode cX4_sum 1 = .ok (.istore_n 1, 1) := by decide +kernel
theorem dX4_sum_2 : decode cX4_sum 2 = .ok (.aload_n 0, 1) := by decide +kernel
theorem dX4_sum_3 : decode cX4_sum 3 = .ok (.invokevirtual 105, 3) := by decide +kernel
theorem dX4_sum_6 : decode cX4_sum 6 = .ok (.istore_n 2, 1) := by decide +kernel
theorem dX4_sum_7 : decode cX4_sum 7 = .ok (.iconst 0, 1) := by decide +kernel
theorem dX4_sum_8 : decode cX4_sum 8 = .ok (.istore_n 3, 1) := by decide +kernel
theorem dX4_sum_9 : decode cX4_sum 9 = .ok (.iload_n 3, 1) := by decide +kernel
theorem dX4_sum_10 : decode cX4_sum 10 = .ok (.sipush 300, 3) := by decide +kernel
theorem dX4_sum_13 : decode cX4_sum 13 = .ok (.if_icmp .ge 101, 3) := by decide +kernel
theorem dX4_sum_16 : decode cX4_sum 16 = .ok (.iload_n 2, 1) := by decide +kernel
theorem dX4_sum_17 : decode cX4_sum 17 = .ok (.ifCond .eq 97, 3) := by decide +kernel
theorem dX4_sum_20 : decode cX4_sum 20 = .ok (.aload_n 0, 1) := by decide +kernel
theorem dX4_sum_21 : decode cX4_sum 21 = .ok (.getfield 12, 3) := by decide +kernel
theorem dX4_sum_24 : decode cX4_sum 24 = .ok (.getfield 45, 3) := by decide +kernel
theorem dX4_sum_27 : decode cX4_sum 27 = .ok (.invokestatic 108, 3) := by decide +kernel
theorem dX4_sum_30 : decode cX4_sum 30 = .ok (.istore 4, 2) := by decide +kernel
theorem dX4_sum_32 : decode cX4_sum 32 = .ok (.iload 4, 2) := by decide +kernel
theorem dX4_sum_34 : decode cX4_sum 34 = .ok (.iconst (-1), 1) := by decide +kernel
theorem dX4_sum_35 : decode cX4_sum 35 = .ok (.if_icmp .ne 6, 3) := by decide +kernel
theorem dX4_sum_38 : decode cX4_sum 38 = .ok (.goto 76, 3) := by decide +kernel
theorem dX4_sum_41 : decode cX4_sum 41 = .ok (.iload 4, 2) := by decide +kernel
theorem dX4_sum_43 : decode cX4_sum 43 = .ok (.bipush 9, 2) := by decide +kernel
theorem dX4_sum_45 : decode cX4_sum 45 = .ok (.if_icmp .eq 10, 3) := by decide +kernel
theorem dX4_sum_48 : decode cX4_sum 48 = .ok (.iload 4, 2) := by decide +kernel
theorem dX4_sum_50 : decode cX4_sum 50 = .ok (.bipush 10, 2) := by decide +kernel
theorem dX4_sum_52 : decode cX4_sum 52 = .ok (.if_icmp .ne 7, 3) := by decide +kernel
theorem dX4_sum_55 : decode cX4_sum 55 = .ok (.iconst 1, 1) := by decide +kernel
theorem dX4_sum_56 : decode cX4_sum 56 = .ok (.goto 4, 3) := by decide +kernel
theorem dX4_sum_59 : decode cX4_sum 59 = .ok (.iconst 0, 1) := by decide +kernel
theorem dX4_sum_60 : decode cX4_sum 60 = .ok (.istore 5, 2) := by decide +kernel
theorem dX4_sum_62 : decode cX4_sum 62 = .ok (.iload 5, 2) := by decide +kernel
theorem dX4_sum_64 : decode cX4_sum 64 = .ok (.ifCond .ne 14, 3) := by decide +kernel
theorem dX4_sum_67 : decode cX4_sum 67 = .ok (.iload_n 1, 1) := by decide +kernel
theorem dX4_sum_68 : decode cX4_sum 68 = .ok (.iconst (-1), 1) := by decide +kernel
theorem dX4_sum_69 : decode cX4_sum 69 = .ok (.if_icmp .eq 9, 3) := by decide +kernel
theorem dX4_sum_72 : decode cX4_sum 72 = .ok (.aload_n 0, 1) := by decide +kernel
theorem dX4_sum_73 : decode cX4_sum 73 = .ok (.iload_n 1, 1) := by decide +kernel
theorem dX4_sum_74 : decode cX4_sum 74 = .ok (.iconst 0, 1) := by decide +kernel
theorem dX4_sum_75 : decode cX4_sum 75 = .ok (.invokevirtual 84, 3) := by decide +kernel
theorem dX4_sum_78 : decode cX4_sum 78 = .ok (.aload_n 0, 1) := by decide +kernel
theorem dX4_sum_79 : decode cX4_sum 79 = .ok (.getfield 12, 3) := by decide +kernel
theorem dX4_sum_82 : decode cX4_sum 82 = .ok (.invokevirtual 68, 3) := by decide +kernel
theorem dX4_sum_85 : decode cX4_sum 85 = .ok (.aload_n 0, 1) := by decide +kernel
theorem dX4_sum_86 : decode cX4_sum 86 = .ok (.invokevirtual 105, 3) := by decide +kernel
theorem dX4_sum_89 : decode cX4_sum 89 = .ok (.istore_n 2, 1) := by decide +kernel
theorem dX4_sum_90 : decode cX4_sum 90 = .ok (.iload 5, 2) := by decide +kernel
theorem dX4_sum_92 : decode cX4_sum 92 = .ok (.ifCond .eq 13, 3) := by decide +kernel
theorem dX4_sum_95 : decode cX4_sum 95 = .ok (.aload_n 0, 1) := by decide +kernel
theorem dX4_sum_96 : decode cX4_sum 96 = .ok (.iload 4, 2) := by decide +kernel
theorem dX4_sum_98 : decode cX4_sum 98 = .ok (.iconst 0, 1) := by decide +kernel
theorem dX4_sum_99 : decode cX4_sum 99 = .ok (.invokevirtual 84, 3) := by decide +kernel
theorem dX4_sum_102 : decode cX4_sum 102 = .ok (.goto 6, 3) := by decide +kernel
theorem dX4_sum_105 : decode cX4_sum 105 = .ok (.iload 4, 2) := by decide +kernel
theorem dX4_sum_107 : decode cX4_sum 107 = .ok (.istore_n 1, 1) := by decide +kernel
theorem dX4_sum_108 : decode cX4_sum 108 = .ok (.iinc 3 1, 3) := by decide +kernel
theorem dX4_sum_111 : decode cX4_sum 111 = .ok (.goto (-102), 3) := by decide +kernel
theorem dX4_sum_114 : decode cX4_sum 114 = .ok (.iload_n 1, 1) := by decide +kernel
theorem dX4_sum_115 : decode cX4_sum 115 = .ok (.iconst (-1), 1) := by decide +kernel
theorem dX4_sum_116 : decode cX4_sum 116 = .ok (.if_icmp .eq 9, 3) := by decide +kernel
theorem dX4_sum_119 : decode cX4_sum 119 = .ok (.aload_n 0, 1) := by decide +kernel
theorem dX4_sum_120 : decode cX4_sum 120 = .ok (.iload_n 1, 1) := by decide +kernel
theorem dX4_sum_121 : decode cX4_sum 121 = .ok (.iconst 0, 1) := by decide +kernel
theorem dX4_sum_122 : decode cX4_sum 122 = .ok (.invokevirtual 84, 3) := by decide +kernel
theorem dX4_sum_125 : decode cX4_sum 125 = .ok (.iload_n 2, 1) := by decide +kernel
theorem dX4_sum_126 : decode cX4_sum 126 = .ok (.ireturn, 1) := by decide +kernel
theorem dX4_one_0 : decode cX4_one 0 = .ok (.aload_n 0, 1) := by decide +kernel
theorem dX4_one_1 : decode cX4_one 1 = .ok (.getfield 12, 3) := by decide +kernel
theorem dX4_one_4 : decode cX4_one 4 = .ok (.getfield 45, 3) := by decide +kernel
theorem dX4_one_7 : decode cX4_one 7 = .ok (.lookupswitch 178 #[(-4, 90), (-3, 81), (40, 168), (45, 173), (7168376, 154), (7170414, 140), (1818586739, 95), (1885432178, 110), (1953063787, 125)], 81) := by decide +kernel
theorem dX4_one_88 : decode cX4_one 88 = .ok (.aload_n 0, 1) := by decide +kernel
theorem dX4_one_89 : decode cX4_one 89 = .ok (.iconst 0, 1) := by decide +kernel
theorem dX4_one_90 : decode cX4_one 90 = .ok (.sipush 9999, 3) := by decide +kernel
theorem dX4_one_93 : decode cX4_one 93 = .ok (.invokevirtual 111, 3) := by decide +kernel
theorem dX4_one_96 : decode cX4_one 96 = .ok (.ireturn, 1) := by decide +kernel
theorem dX4_one_97 : decode cX4_one 97 = .ok (.aload_n 0, 1) := by decide +kernel
theorem dX4_one_98 : decode cX4_one 98 = .ok (.invokevirtual 115, 3) := by decide +kernel
theorem dX4_one_101 : decode cX4_one 101 = .ok (.ireturn, 1) := by decide +kernel
theorem dX4_one_102 : decode cX4_one 102 = .ok (.aload_n 0, 1) := by decide +kernel
theorem dX4_one_103 : decode cX4_one 103 = .ok (.getfield 12, 3) := by decide +kernel
theorem dX4_one_106 : decode cX4_one 106 = .ok (.invokevirtual 68, 3) := by decide +kernel
theorem dX4_one_109 : decode cX4_one 109 = .ok (.aload_n 0, 1) := by decide +kernel
theorem dX4_one_110 : decode cX4_one 110 = .ok (.iconst 2, 1) := by decide +kernel
theorem dX4_one_111 : decode cX4_one 111 = .ok (.bipush 15, 2) := by decide +kernel
theorem dX4_one_113 : decode cX4_one 113 = .ok (.invokevirtual 111, 3) := by decide +kernel
theorem dX4_one_116 : decode cX4_one 116 = .ok (.ireturn, 1) := by decide +kernel
theorem dX4_one_117 : decode cX4_one 117 = .ok (.aload_n 0, 1) := by decide +kernel
theorem dX4_one_118 : decode cX4_one 118 = .ok (.getfield 12, 3) := by decide +kernel
theorem dX4_one_121 : decode cX4_one 121 = .ok (.invokevirtual 68, 3) := by decide +kernel
theorem dX4_one_124 : decode cX4_one 124 = .ok (.aload_n 0, 1) := by decide +kernel
theorem dX4_one_125 : decode cX4_one 125 = .ok (.iconst 3, 1) := by decide +kernel
theorem dX4_one_126 : decode cX4_one 126 = .ok (.bipush 15, 2) := by decide +kernel
theorem dX4_one_128 : decode cX4_one 128 = .ok (.invokevirtual 111, 3) := by decide +kernel
theorem dX4_one_131 : decode cX4_one 131 = .ok (.ireturn, 1) := by decide +kernel
theorem dX4_one_132 : decode cX4_one 132 = .ok (.aload_n 0, 1) := by decide +kernel
theorem dX4_one_133 : decode cX4_one 133 = .ok (.iconst 4, 1) := by decide +kernel
theorem dX4_one_134 : decode cX4_one 134 = .ok (.iconst 0, 1) := by decide +kernel
theorem dX4_one_135 : decode cX4_one 135 = .ok (.invokevirtual 84, 3) := by decide +kernel
theorem dX4_one_138 : decode cX4_one 138 = .ok (.aload_n 0, 1) := by decide +kernel
theorem dX4_one_139 : decode cX4_one 139 = .ok (.getfield 12, 3) := by decide +kernel
theorem dX4_one_142 : decode cX4_one 142 = .ok (.invokevirtual 68, 3) := by decide +kernel
theorem dX4_one_145 : decode cX4_one 145 = .ok (.iconst 1, 1) := by decide +kernel
theorem dX4_one_146 : decode cX4_one 146 = .ok (.ireturn, 1) := by decide +kernel
theorem dX4_one_147 : decode cX4_one 147 = .ok (.aload_n 0, 1) := by decide +kernel
theorem dX4_one_148 : decode cX4_one 148 = .ok (.getfield 12, 3) := by decide +kernel
theorem dX4_one_151 : decode cX4_one 151 = .ok (.invokevirtual 68, 3) := by decide +kernel
theorem dX4_one_154 : decode cX4_one 154 = .ok (.aload_n 0, 1) := by decide +kernel
theorem dX4_one_155 : decode cX4_one 155 = .ok (.bipush 11, 2) := by decide +kernel
theorem dX4_one_157 : decode cX4_one 157 = .ok (.invokevirtual 118, 3) := by decide +kernel
theorem dX4_one_160 : decode cX4_one 160 = .ok (.ireturn, 1) := by decide +kernel
theorem dX4_one_161 : decode cX4_one 161 = .ok (.aload_n 0, 1) := by decide +kernel
theorem dX4_one_162 : decode cX4_one 162 = .ok (.getfield 12, 3) := by decide +kernel
theorem dX4_one_165 : decode cX4_one 165 = .ok (.invokevirtual 68, 3) := by decide +kernel
theorem dX4_one_168 : decode cX4_one 168 = .ok (.aload_n 0, 1) := by decide +kernel
theorem dX4_one_169 : decode cX4_one 169 = .ok (.bipush 12, 2) := by decide +kernel
theorem dX4_one_171 : decode cX4_one 171 = .ok (.invokevirtual 118, 3) := by decide +kernel
theorem dX4_one_174 : decode cX4_one 174 = .ok (.ireturn, 1) := by decide +kernel
theorem dX4_one_175 : decode cX4_one 175 = .ok (.aload_n 0, 1) := by decide +kernel
theorem dX4_one_176 : decode cX4_one 176 = .ok (.invokevirtual 121, 3) := by decide +kernel
theorem dX4_one_179 : decode cX4_one 179 = .ok (.ireturn, 1) := by decide +kernel
theorem dX4_one_180 : decode cX4_one 180 = .ok (.aload_n 0, 1) := by decide +kernel
theorem dX4_one_181 : decode cX4_one 181 = .ok (.invokevirtual 124, 3) := by decide +kernel
theorem dX4_one_184 : decode cX4_one 184 = .ok (.ireturn, 1) := by decide +kernel
theorem dX4_one_185 : decode cX4_one 185 = .ok (.aload_n 0, 1) := by decide +kernel
theorem dX4_one_186 : decode cX4_one 186 = .ok (.iconst 1, 1) := by decide +kernel
theorem dX4_one_187 : decode cX4_one 187 = .ok (.invokevirtual 62, 3) := by decide +kernel
theorem dX4_one_190 : decode cX4_one 190 = .ok (.ireturn, 1) := by decide +kernel
theorem dX4_number_0 : decode cX4_number 0 = .ok (.aload_n 0, 1) := by decide +kernel
theorem dX4_number_1 : decode cX4_number 1 = .ok (.getfield 12, 3) := by decide +kernel
theorem dX4_number_4 : decode cX4_number 4 = .ok (.getfield 45, 3) := by decide +kernel
theorem dX4_number_7 : decode cX4_number 7 = .ok (.bipush (-3), 2) := by decide +kernel
theorem dX4_number_9 : decode cX4_number 9 = .ok (.if_icmp .eq 9, 3) := by decide +kernel
theorem dX4_number_12 : decode cX4_number 12 = .ok (.aload_n 0, 1) := by decide +kernel
theorem dX4_number_13 : decode cX4_number 13 = .ok (.iconst 1, 1) := by decide +kernel
theorem dX4_number_14 : decode cX4_number 14 = .ok (.invokevirtual 62, 3) := by decide +kernel
theorem dX4_number_17 : decode cX4_number 17 = .ok (.ireturn, 1) := by decide +kernel
theorem dX4_number_18 : decode cX4_number 18 = .ok (.aload_n 0, 1) := by decide +kernel
theorem dX4_number_19 : decode cX4_number 19 = .ok (.getfield 12, 3) := by decide +kernel
theorem dX4_number_22 : decode cX4_number 22 = .ok (.getfield 88, 3) := by decide +kernel
theorem dX4_number_25 : decode cX4_number 25 = .ok (.iload_n 2, 1) := by decide +kernel
theorem dX4_number_26 : decode cX4_number 26 = .ok (.if_icmp .le 9, 3) := by decide +kernel
theorem dX4_number_29 : decode cX4_number 29 = .ok (.aload_n 0, 1) := by decide +kernel
theorem dX4_number_30 : decode cX4_number 30 = .ok (.iconst 2, 1) := by decide +kernel
theorem dX4_number_31 : decode cX4_number 31 = .ok (.invokevirtual 62, 3) := by decide +kernel
theorem dX4_number_34 : decode cX4_number 34 = .ok (.ireturn, 1) := by decide +kernel
theorem dX4_number_35 : decode cX4_number 35 = .ok (.aload_n 0, 1) := by decide +kernel
theorem dX4_number_36 : decode cX4_number 36 = .ok (.iload_n 1, 1) := by decide +kernel
theorem dX4_number_37 : decode cX4_number 37 = .ok (.aload_n 0, 1) := by decide +kernel
theorem dX4_number_38 : decode cX4_number 38 = .ok (.getfield 12, 3) := by decide +kernel
theorem dX4_number_41 : decode cX4_number 41 = .ok (.getfield 88, 3) := by decide +kernel
theorem dX4_number_44 : decode cX4_number 44 = .ok (.invokevirtual 84, 3) := by decide +kernel
theorem dX4_number_47 : decode cX4_number 47 = .ok (.aload_n 0, 1) := by decide +kernel
theorem dX4_number_48 : decode cX4_number 48 = .ok (.getfield 12, 3) := by decide +kernel
theorem dX4_number_51 : decode cX4_number 51 = .ok (.invokevirtual 68, 3) := by decide +kernel
theorem dX4_number_54 : decode cX4_number 54 = .ok (.iconst 1, 1) := by decide +kernel
theorem dX4_number_55 : decode cX4_number 55 = .ok (.ireturn, 1) := by decide +kernel
theorem dX4_toldLetter_0 : decode cX4_toldLetter 0 = .ok (.aload_n 0, 1) := by decide +kernel
theorem dX4_toldLetter_1 : decode cX4_toldLetter 1 = .ok (.getfield 12, 3) := by decide +kernel
theorem dX4_toldLetter_4 : decode cX4_toldLetter 4 = .ok (.getfield 88, 3) := by decide +kernel
theorem dX4_toldLetter_7 : decode cX4_toldLetter 7 = .ok (.bipush 65, 2) := by decide +kernel
theorem dX4_toldLetter_9 : decode cX4_toldLetter 9 = .ok (.isub, 1) := by decide +kernel
theorem dX4_toldLetter_10 : decode cX4_toldLetter 10 = .ok (.istore_n 1, 1) := by decide +kernel
theorem dX4_toldLetter_11 : decode cX4_toldLetter 11 = .ok (.aload_n 0, 1) := by decide +kernel
theorem dX4_toldLetter_12 : decode cX4_toldLetter 12 = .ok (.getfield 33, 3) := by decide +kernel
theorem dX4_toldLetter_15 : decode cX4_toldLetter 15 = .ok (.iload_n 1, 1) := by decide +kernel
theorem dX4_toldLetter_16 : decode cX4_toldLetter 16 = .ok (.ishr, 1) := by decide +kernel
theorem dX4_toldLetter_17 : decode cX4_toldLetter 17 = .ok (.iconst 1, 1) := by decide +kernel
theorem dX4_toldLetter_18 : decode cX4_toldLetter 18 = .ok (.iand, 1) := by decide +kernel
theorem dX4_toldLetter_19 : decode cX4_toldLetter 19 = .ok (.ifCond .ne 9, 3) := by decide +kernel
theorem dX4_toldLetter_22 : decode cX4_toldLetter 22 = .ok (.aload_n 0, 1) := by decide +kernel
theorem dX4_toldLetter_23 : decode cX4_toldLetter 23 = .ok (.iconst 5, 1) := by decide +kernel
theorem dX4_toldLetter_24 : decode cX4_toldLetter 24 = .ok (.invokevirtual 62, 3) := by decide +kernel
theorem dX4_toldLetter_27 : decode cX4_toldLetter 27 = .ok (.ireturn, 1) := by decide +kernel
theorem dX4_toldLetter_28 : decode cX4_toldLetter 28 = .ok (.aload_n 0, 1) := by decide +kernel
theorem dX4_toldLetter_29 : decode cX4_toldLetter 29 = .ok (.iconst 1, 1) := by decide +kernel
theorem dX4_toldLetter_30 : decode cX4_toldLetter 30 = .ok (.iload_n 1, 1) := by decide +kernel
theorem dX4_toldLetter_31 : decode cX4_toldLetter 31 = .ok (.invokevirtual 84, 3) := by decide +kernel
theorem dX4_toldLetter_34 : decode cX4_toldLetter 34 = .ok (.aload_n 0, 1) := by decide +kernel
theorem dX4_toldLetter_35 : decode cX4_toldLetter 35 = .ok (.getfield 12, 3) := by decide +kernel
theorem dX4_toldLetter_38 : decode cX4_toldLetter 38 = .ok (.invokevirtual 68, 3) := by decide +kernel
theorem dX4_toldLetter_41 : decode cX4_toldLetter 41 = .ok (.iconst 1, 1) := by decide +kernel
theorem dX4_toldLetter_42 : decode cX4_toldLetter 42 = .ok (.ireturn, 1) := by decide +kernel
theorem dX4_bracketed_0 : decode cX4_bracketed 0 = .ok (.aload_n 0, 1) := by decide +kernel
theorem dX4_bracketed_1 : decode cX4_bracketed 1 = .ok (.invokevirtual 99, 3) := by decide +kernel
theorem dX4_bracketed_4 : decode cX4_bracketed 4 = .ok (.ifCond .eq 19, 3) := by decide +kernel
theorem dX4_bracketed_7 : decode cX4_bracketed 7 = .ok (.aload_n 0, 1) := by decide +kernel
theorem dX4_bracketed_8 : decode cX4_bracketed 8 = .ok (.invokevirtual 78, 3) := by decide +kernel
theorem dX4_bracketed_11 : decode cX4_bracketed 11 = .ok (.ifCond .eq 12, 3) := by decide +kernel
theorem dX4_bracketed_14 : decode cX4_bracketed 14 = .ok (.aload_n 0, 1) := by decide +kernel
theorem dX4_bracketed_15 : decode cX4_bracketed 15 = .ok (.bipush 41, 2) := by decide +kernel
theorem dX4_bracketed_17 : decode cX4_bracketed 17 = .ok (.invokevirtual 81, 3) := by decide +kernel
theorem dX4_bracketed_20 : decode cX4_bracketed 20 = .ok (.ifCond .ne 5, 3) := by decide +kernel
theorem dX4_bracketed_23 : decode cX4_bracketed 23 = .ok (.iconst 0, 1) := by decide +kernel
theorem dX4_bracketed_24 : decode cX4_bracketed 24 = .ok (.ireturn, 1) := by decide +kernel
theorem dX4_bracketed_25 : decode cX4_bracketed 25 = .ok (.aload_n 0, 1) := by decide +kernel
theorem dX4_bracketed_26 : decode cX4_bracketed 26 = .ok (.dup, 1) := by decide +kernel
theorem dX4_bracketed_27 : decode cX4_bracketed 27 = .ok (.getfield 30, 3) := by decide +kernel
theorem dX4_bracketed_30 : decode cX4_bracketed 30 = .ok (.iconst 1, 1) := by decide +kernel
theorem dX4_bracketed_31 : decode cX4_bracketed 31 = .ok (.isub, 1) := by decide +kernel
theorem dX4_bracketed_32 : decode cX4_bracketed 32 = .ok (.putfield 30, 3) := by decide +kernel
theorem dX4_bracketed_35 : decode cX4_bracketed 35 = .ok (.iconst 1, 1) := by decide +kernel
theorem dX4_bracketed_36 : decode cX4_bracketed 36 = .ok (.ireturn, 1) := by decide +kernel
theorem dX4_negated_0 : decode cX4_negated 0 = .ok (.aload_n 0, 1) := by decide +kernel
theorem dX4_negated_1 : decode cX4_negated 1 = .ok (.invokevirtual 99, 3) := by decide +kernel
theorem dX4_negated_4 : decode cX4_negated 4 = .ok (.ifCond .eq 10, 3) := by decide +kernel
theorem dX4_negated_7 : decode cX4_negated 7 = .ok (.aload_n 0, 1) := by decide +kernel
theorem dX4_negated_8 : decode cX4_negated 8 = .ok (.invokevirtual 105, 3) := by decide +kernel
theorem dX4_negated_11 : decode cX4_negated 11 = .ok (.ifCond .ne 5, 3) := by decide +kernel
theorem dX4_negated_14 : decode cX4_negated 14 = .ok (.iconst 0, 1) := by decide +kernel
theorem dX4_negated_15 : decode cX4_negated 15 = .ok (.ireturn, 1) := by decide +kernel
theorem dX4_negated_16 : decode cX4_negated 16 = .ok (.aload_n 0, 1) := by decide +kernel
theorem dX4_negated_17 : decode cX4_negated 17 = .ok (.dup, 1) := by decide +kernel
theorem dX4_negated_18 : decode cX4_negated 18 = .ok (.getfield 30, 3) := by decide +kernel
theorem dX4_negated_21 : decode cX4_negated 21 = .ok (.iconst 1, 1) := by decide +kernel
theorem dX4_negated_22 : decode cX4_negated 22 = .ok (.isub, 1) := by decide +kernel
theorem dX4_negated_23 : decode cX4_negated 23 = .ok (.putfield 30, 3) := by decide +kernel
theorem dX4_negated_26 : decode cX4_negated 26 = .ok (.aload_n 0, 1) := by decide +kernel
theorem dX4_negated_27 : decode cX4_negated 27 = .ok (.iconst 5, 1) := by decide +kernel
theorem dX4_negated_28 : decode cX4_negated 28 = .ok (.iconst 0, 1) := by decide +kernel
theorem dX4_negated_29 : decode cX4_negated 29 = .ok (.invokevirtual 84, 3) := by decide +kernel
theorem dX4_negated_32 : decode cX4_negated 32 = .ok (.iconst 1, 1) := by decide +kernel
theorem dX4_negated_33 : decode cX4_negated 33 = .ok (.ireturn, 1) := by decide +kernel
theorem dX4_chosen_0 : decode cX4_chosen 0 = .ok (.aload_n 0, 1) := by decide +kernel
theorem dX4_chosen_1 : decode cX4_chosen 1 = .ok (.getfield 12, 3) := by decide +kernel
theorem dX4_chosen_4 : decode cX4_chosen 4 = .ok (.getfield 45, 3) := by decide +kernel
theorem dX4_chosen_7 : decode cX4_chosen 7 = .ok (.bipush 40, 2) := by decide +kernel
theorem dX4_chosen_9 : decode cX4_chosen 9 = .ok (.if_icmp .eq 9, 3) := by decide +kernel
theorem dX4_chosen_12 : decode cX4_chosen 12 = .ok (.aload_n 0, 1) := by decide +kernel
theorem dX4_chosen_13 : decode cX4_chosen 13 = .ok (.iconst 1, 1) := by decide +kernel
theorem dX4_chosen_14 : decode cX4_chosen 14 = .ok (.invokevirtual 62, 3) := by decide +kernel
theorem dX4_chosen_17 : decode cX4_chosen 17 = .ok (.ireturn, 1) := by decide +kernel
theorem dX4_chosen_18 : decode cX4_chosen 18 = .ok (.aload_n 0, 1) := by decide +kernel
theorem dX4_chosen_19 : decode cX4_chosen 19 = .ok (.invokevirtual 99, 3) := by decide +kernel
theorem dX4_chosen_22 : decode cX4_chosen 22 = .ok (.ifCond .eq 35, 3) := by decide +kernel
theorem dX4_chosen_25 : decode cX4_chosen 25 = .ok (.aload_n 0, 1) := by decide +kernel
theorem dX4_chosen_26 : decode cX4_chosen 26 = .ok (.invokevirtual 78, 3) := by decide +kernel
theorem dX4_chosen_29 : decode cX4_chosen 29 = .ok (.ifCond .eq 28, 3) := by decide +kernel
theorem dX4_chosen_32 : decode cX4_chosen 32 = .ok (.aload_n 0, 1) := by decide +kernel
theorem dX4_chosen_33 : decode cX4_chosen 33 = .ok (.bipush 44, 2) := by decide +kernel
theorem dX4_chosen_35 : decode cX4_chosen 35 = .ok (.invokevirtual 81, 3) := by decide +kernel
theorem dX4_chosen_38 : decode cX4_chosen 38 = .ok (.ifCond .eq 19, 3) := by decide +kernel
theorem dX4_chosen_41 : decode cX4_chosen 41 = .ok (.aload_n 0, 1) := by decide +kernel
theorem dX4_chosen_42 : decode cX4_chosen 42 = .ok (.invokevirtual 78, 3) := by decide +kernel
theorem dX4_chosen_45 : decode cX4_chosen 45 = .ok (.ifCond .eq 12, 3) := by decide +kernel
theorem dX4_chosen_48 : decode cX4_chosen 48 = .ok (.aload_n 0, 1) := by decide +kernel
theorem dX4_chosen_49 : decode cX4_chosen 49 = .ok (.bipush 41, 2) := by decide +kernel
theorem dX4_chosen_51 : decode cX4_chosen 51 = .ok (.invokevirtual 81, 3) := by decide +kernel
theorem dX4_chosen_54 : decode cX4_chosen 54 = .ok (.ifCond .ne 5, 3) := by decide +kernel
theorem dX4_chosen_57 : decode cX4_chosen 57 = .ok (.iconst 0, 1) := by decide +kernel
theorem dX4_chosen_58 : decode cX4_chosen 58 = .ok (.ireturn, 1) := by decide +kernel
theorem dX4_chosen_59 : decode cX4_chosen 59 = .ok (.aload_n 0, 1) := by decide +kernel
theorem dX4_chosen_60 : decode cX4_chosen 60 = .ok (.dup, 1) := by decide +kernel
theorem dX4_chosen_61 : decode cX4_chosen 61 = .ok (.getfield 30, 3) := by decide +kernel
theorem dX4_chosen_64 : decode cX4_chosen 64 = .ok (.iconst 1, 1) := by decide +kernel
theorem dX4_chosen_65 : decode cX4_chosen 65 = .ok (.isub, 1) := by decide +kernel
theorem dX4_chosen_66 : decode cX4_chosen 66 = .ok (.putfield 30, 3) := by decide +kernel
theorem dX4_chosen_69 : decode cX4_chosen 69 = .ok (.aload_n 0, 1) := by decide +kernel
theorem dX4_chosen_70 : decode cX4_chosen 70 = .ok (.iload_n 1, 1) := by decide +kernel
theorem dX4_chosen_71 : decode cX4_chosen 71 = .ok (.iconst 0, 1) := by decide +kernel
theorem dX4_chosen_72 : decode cX4_chosen 72 = .ok (.invokevirtual 84, 3) := by decide +kernel
theorem dX4_chosen_75 : decode cX4_chosen 75 = .ok (.iconst 1, 1) := by decide +kernel
theorem dX4_chosen_76 : decode cX4_chosen 76 = .ok (.ireturn, 1) := by decide +kernel
theorem dX4_enter_0 : decode cX4_enter 0 = .ok (.aload_n 0, 1) := by decide +kernel
theorem dX4_enter_1 : decode cX4_enter 1 = .ok (.getfield 30, 3) := by decide +kernel
theorem dX4_enter_4 : decode cX4_enter 4 = .ok (.bipush 8, 2) := by decide +kernel
theorem dX4_enter_6 : decode cX4_enter 6 = .ok (.if_icmp .lt 9, 3) := by decide +kernel
theorem dX4_enter_9 : decode cX4_enter 9 = .ok (.aload_n 0, 1) := by decide +kernel
theorem dX4_enter_10 : decode cX4_enter 10 = .ok (.iconst 3, 1) := by decide +kernel
theorem dX4_enter_11 : decode cX4_enter 11 = .ok (.invokevirtual 62, 3) := by decide +kernel
theorem dX4_enter_14 : decode cX4_enter 14 = .ok (.ireturn, 1) := by decide +kernel
theorem dX4_enter_15 : decode cX4_enter 15 = .ok (.aload_n 0, 1) := by decide +kernel
theorem dX4_enter_16 : decode cX4_enter 16 = .ok (.dup, 1) := by decide +kernel
theorem dX4_enter_17 : decode cX4_enter 17 = .ok (.getfield 30, 3) := by decide +kernel
theorem dX4_enter_20 : decode cX4_enter 20 = .ok (.iconst 1, 1) := by decide +kernel
theorem dX4_enter_21 : decode cX4_enter 21 = .ok (.iadd, 1) := by decide +kernel
theorem dX4_enter_22 : decode cX4_enter 22 = .ok (.putfield 30, 3) := by decide +kernel
theorem dX4_enter_25 : decode cX4_enter 25 = .ok (.aload_n 0, 1) := by decide +kernel
theorem dX4_enter_26 : decode cX4_enter 26 = .ok (.getfield 12, 3) := by decide +kernel
theorem dX4_enter_29 : decode cX4_enter 29 = .ok (.invokevirtual 68, 3) := by decide +kernel
theorem dX4_enter_32 : decode cX4_enter 32 = .ok (.iconst 1, 1) := by decide +kernel
theorem dX4_enter_33 : decode cX4_enter 33 = .ok (.ireturn, 1) := by decide +kernel
theorem dX4_expect_0 : decode cX4_expect 0 = .ok (.aload_n 0, 1) := by decide +kernel
theorem dX4_expect_1 : decode cX4_expect 1 = .ok (.getfield 12, 3) := by decide +kernel
theorem dX4_expect_4 : decode cX4_expect 4 = .ok (.getfield 45, 3) := by decide +kernel
theorem dX4_expect_7 : decode cX4_expect 7 = .ok (.iload_n 1, 1) := by decide +kernel
theorem dX4_expect_8 : decode cX4_expect 8 = .ok (.if_icmp .eq 9, 3) := by decide +kernel
theorem dX4_expect_11 : decode cX4_expect 11 = .ok (.aload_n 0, 1) := by decide +kernel
theorem dX4_expect_12 : decode cX4_expect 12 = .ok (.iconst 1, 1) := by decide +kernel
theorem dX4_expect_13 : decode cX4_expect 13 = .ok (.invokevirtual 62, 3) := by decide +kernel
theorem dX4_expect_16 : decode cX4_expect 16 = .ok (.ireturn, 1) := by decide +kernel
theorem dX4_expect_17 : decode cX4_expect 17 = .ok (.aload_n 0, 1) := by decide +kernel
theorem dX4_expect_18 : decode cX4_expect 18 = .ok (.getfield 12, 3) := by decide +kernel
theorem dX4_expect_21 : decode cX4_expect 21 = .ok (.invokevirtual 68, 3) := by decide +kernel
theorem dX4_expect_24 : decode cX4_expect 24 = .ok (.iconst 1, 1) := by decide +kernel
theorem dX4_expect_25 : decode cX4_expect 25 = .ok (.ireturn, 1) := by decide +kernel
theorem dX4_refuse_0 : decode cX4_refuse 0 = .ok (.aload_n 0, 1) := by decide +kernel
theorem dX4_refuse_1 : decode cX4_refuse 1 = .ok (.getfield 39, 3) := by decide +kernel
theorem dX4_refuse_4 : decode cX4_refuse 4 = .ok (.ifCond .ne 19, 3) := by decide +kernel
theorem dX4_refuse_7 : decode cX4_refuse 7 = .ok (.aload_n 0, 1) := by decide +kernel
theorem dX4_refuse_8 : decode cX4_refuse 8 = .ok (.iload_n 1, 1) := by decide +kernel
theorem dX4_refuse_9 : decode cX4_refuse 9 = .ok (.putfield 39, 3) := by decide +kernel
theorem dX4_refuse_12 : decode cX4_refuse 12 = .ok (.aload_n 0, 1) := by decide +kernel
theorem dX4_refuse_13 : decode cX4_refuse 13 = .ok (.aload_n 0, 1) := by decide +kernel
theorem dX4_refuse_14 : decode cX4_refuse 14 = .ok (.getfield 12, 3) := by decide +kernel
theorem dX4_refuse_17 : decode cX4_refuse 17 = .ok (.getfield 127, 3) := by decide +kernel
theorem dX4_refuse_20 : decode cX4_refuse 20 = .ok (.putfield 42, 3) := by decide +kernel
theorem dX4_refuse_23 : decode cX4_refuse 23 = .ok (.iconst 0, 1) := by decide +kernel
