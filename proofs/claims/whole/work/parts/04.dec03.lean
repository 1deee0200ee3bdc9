theorem dX8_init_14 : decode cX8_init 14 = .ok (.putfield 14, 3) := by decide +kernel
theorem dX8_init_17 : decode cX8_init 17 = .ok (.aload_n 0, 1) := by decide +kernel
theorem dX8_init_18 : decode cX8_init 18 = .ok (.new 20, 3) := by decide +kernel
theorem dX8_init_21 : decode cX8_init 21 = .ok (.dup, 1) := by decide +kernel
theorem dX8_init_22 : decode cX8_init 22 = .ok (.invokespecial 22, 3) := by decide +kernel
theorem dX8_init_25 : decode cX8_init 25 = .ok (.putfield 23, 3) := by decide +kernel
theorem dX8_init_28 : decode cX8_init 28 = .ok (.aload_n 0, 1) := by decide +kernel
theorem dX8_init_29 : decode cX8_init 29 = .ok (.new 27, 3) := by decide +kernel
theorem dX8_init_32 : decode cX8_init 32 = .ok (.dup, 1) := by decide +kernel
theorem dX8_init_33 : decode cX8_init 33 = .ok (.invokespecial 29, 3) := by decide +kernel
theorem dX8_init_36 : decode cX8_init 36 = .ok (.putfield 30, 3) := by decide +kernel
theorem dX8_init_39 : decode cX8_init 39 = .ok (.aload_n 0, 1) := by decide +kernel
theorem dX8_init_40 : decode cX8_init 40 = .ok (.new 34, 3) := by decide +kernel
theorem dX8_init_43 : decode cX8_init 43 = .ok (.dup, 1) := by decide +kernel
theorem dX8_init_44 : decode cX8_init 44 = .ok (.invokespecial 36, 3) := by decide +kernel
theorem dX8_init_47 : decode cX8_init 47 = .ok (.putfield 37, 3) := by decide +kernel
theorem dX8_init_50 : decode cX8_init 50 = .ok (.aload_n 0, 1) := by decide +kernel
theorem dX8_init_51 : decode cX8_init 51 = .ok (.bipush 8, 2) := by decide +kernel
theorem dX8_init_53 : decode cX8_init 53 = .ok (.iconst 0, 1) := by decide +kernel
theorem dX8_init_54 : decode cX8_init 54 = .ok (.multianewarray 41 2, 4) := by decide +kernel
theorem dX8_init_58 : decode cX8_init 58 = .ok (.putfield 43, 3) := by decide +kernel
theorem dX8_init_61 : decode cX8_init 61 = .ok (.return_, 1) := by decide +kernel
theorem dX8_isRule_0 : decode cX8_isRule 0 = .ok (.iload_n 1, 1) := by decide +kernel
theorem dX8_isRule_1 : decode cX8_isRule 1 = .ok (.iconst 0, 1) := by decide +kernel
theorem dX8_isRule_2 : decode cX8_isRule 2 = .ok (.aload_n 0, 1) := by decide +kernel
theorem dX8_isRule_3 : decode cX8_isRule 3 = .ok (.getfield 46, 3) := by decide +kernel
theorem dX8_isRule_6 : decode cX8_isRule 6 = .ok (.iconst 1, 1) := by decide +kernel
theorem dX8_isRule_7 : decode cX8_isRule 7 = .ok (.isub, 1) := by decide +kernel
theorem dX8_isRule_8 : decode cX8_isRule 8 = .ok (.invokestatic 50, 3) := by decide +kernel
theorem dX8_isRule_11 : decode cX8_isRule 11 = .ok (.ireturn, 1) := by decide +kernel
theorem dX8_copyFrom_0 : decode cX8_copyFrom 0 = .ok (.aload_n 0, 1) := by decide +kernel
theorem dX8_copyFrom_1 : decode cX8_copyFrom 1 = .ok (.getfield 14, 3) := by decide +kernel
theorem dX8_copyFrom_4 : decode cX8_copyFrom 4 = .ok (.aload_n 1, 1) := by decide +kernel
theorem dX8_copyFrom_5 : decode cX8_copyFrom 5 = .ok (.getfield 14, 3) := by decide +kernel
theorem dX8_copyFrom_8 : decode cX8_copyFrom 8 = .ok (.invokevirtual 54, 3) := by decide +kernel
theorem dX8_copyFrom_11 : decode cX8_copyFrom 11 = .ok (.aload_n 0, 1) := by decide +kernel
theorem dX8_copyFrom_12 : decode cX8_copyFrom 12 = .ok (.getfield 23, 3) := by decide +kernel
theorem dX8_copyFrom_15 : decode cX8_copyFrom 15 = .ok (.aload_n 1, 1) := by decide +kernel
theorem dX8_copyFrom_16 : decode cX8_copyFrom 16 = .ok (.getfield 23, 3) := by decide +kernel
theorem dX8_copyFrom_19 : decode cX8_copyFrom 19 = .ok (.invokevirtual 58, 3) := by decide +kernel
theorem dX8_copyFrom_22 : decode cX8_copyFrom 22 = .ok (.aload_n 0, 1) := by decide +kernel
theorem dX8_copyFrom_23 : decode cX8_copyFrom 23 = .ok (.getfield 30, 3) := by decide +kernel
theorem dX8_copyFrom_26 : decode cX8_copyFrom 26 = .ok (.aload_n 1, 1) := by decide +kernel
theorem dX8_copyFrom_27 : decode cX8_copyFrom 27 = .ok (.getfield 30, 3) := by decide +kernel
theorem dX8_copyFrom_30 : decode cX8_copyFrom 30 = .ok (.invokevirtual 61, 3) := by decide +kernel
theorem dX8_copyFrom_33 : decode cX8_copyFrom 33 = .ok (.aload_n 0, 1) := by decide +kernel
theorem dX8_copyFrom_34 : decode cX8_copyFrom 34 = .ok (.getfield 37, 3) := by decide +kernel
theorem dX8_copyFrom_37 : decode cX8_copyFrom 37 = .ok (.aload_n 1, 1) := by decide +kernel
theorem dX8_copyFrom_38 : decode cX8_copyFrom 38 = .ok (.getfield 37, 3) := by decide +kernel
theorem dX8_copyFrom_41 : decode cX8_copyFrom 41 = .ok (.invokevirtual 64, 3) := by decide +kernel
theorem dX8_copyFrom_44 : decode cX8_copyFrom 44 = .ok (.aload_n 0, 1) := by decide +kernel
theorem dX8_copyFrom_45 : decode cX8_copyFrom 45 = .ok (.aload_n 1, 1) := by decide +kernel
theorem dX8_copyFrom_46 : decode cX8_copyFrom 46 = .ok (.getfield 46, 3) := by decide +kernel
theorem dX8_copyFrom_49 : decode cX8_copyFrom 49 = .ok (.putfield 46, 3) := by decide +kernel
theorem dX8_copyFrom_52 : decode cX8_copyFrom 52 = .ok (.iconst 0, 1) := by decide +kernel
theorem dX8_copyFrom_53 : decode cX8_copyFrom 53 = .ok (.istore_n 2, 1) := by decide +kernel
theorem dX8_copyFrom_54 : decode cX8_copyFrom 54 = .ok (.iload_n 2, 1) := by decide +kernel
theorem dX8_copyFrom_55 : decode cX8_copyFrom 55 = .ok (.bipush 8, 2) := by decide +kernel
theorem dX8_copyFrom_57 : decode cX8_copyFrom 57 = .ok (.if_icmp .ge 21, 3) := by decide +kernel
theorem dX8_copyFrom_60 : decode cX8_copyFrom 60 = .ok (.aload_n 0, 1) := by decide +kernel
theorem dX8_copyFrom_61 : decode cX8_copyFrom 61 = .ok (.getfield 43, 3) := by decide +kernel
theorem dX8_copyFrom_64 : decode cX8_copyFrom 64 = .ok (.iload_n 2, 1) := by decide +kernel
theorem dX8_copyFrom_65 : decode cX8_copyFrom 65 = .ok (.aload_n 1, 1) := by decide +kernel
theorem dX8_copyFrom_66 : decode cX8_copyFrom 66 = .ok (.getfield 43, 3) := by decide +kernel
theorem dX8_copyFrom_69 : decode cX8_copyFrom 69 = .ok (.iload_n 2, 1) := by decide +kernel
theorem dX8_copyFrom_70 : decode cX8_copyFrom 70 = .ok (.aaload, 1) := by decide +kernel
theorem dX8_copyFrom_71 : decode cX8_copyFrom 71 = .ok (.aastore, 1) := by decide +kernel
theorem dX8_copyFrom_72 : decode cX8_copyFrom 72 = .ok (.iinc 2 1, 3) := by decide +kernel
theorem dX8_copyFrom_75 : decode cX8_copyFrom 75 = .ok (.goto (-21), 3) := by decide +kernel
theorem dX8_copyFrom_78 : decode cX8_copyFrom 78 = .ok (.return_, 1) := by decide +kernel
theorem dX9_init_0 : decode cX9_init 0 = .ok (.aload_n 0, 1) := by decide +kernel
theorem dX9_init_1 : decode cX9_init 1 = .ok (.invokespecial 3, 3) := by decide +kernel
theorem dX9_init_4 : decode cX9_init 4 = .ok (.aload_n 0, 1) := by decide +kernel
theorem dX9_init_5 : decode cX9_init 5 = .ok (.sipush 301, 3) := by decide +kernel
theorem dX9_init_8 : decode cX9_init 8 = .ok (.newarray .int, 2) := by decide +kernel
theorem dX9_init_10 : decode cX9_init 10 = .ok (.putfield 9, 3) := by decide +kernel
theorem dX9_init_13 : decode cX9_init 13 = .ok (.aload_n 0, 1) := by decide +kernel
theorem dX9_init_14 : decode cX9_init 14 = .ok (.sipush 301, 3) := by decide +kernel
theorem dX9_init_17 : decode cX9_init 17 = .ok (.newarray .int, 2) := by decide +kernel
theorem dX9_init_19 : decode cX9_init 19 = .ok (.putfield 15, 3) := by decide +kernel
theorem dX9_init_22 : decode cX9_init 22 = .ok (.aload_n 0, 1) := by decide +kernel
theorem dX9_init_23 : decode cX9_init 23 = .ok (.sipush 301, 3) := by decide +kernel
theorem dX9_init_26 : decode cX9_init 26 = .ok (.newarray .int, 2) := by decide +kernel
theorem dX9_init_28 : decode cX9_init 28 = .ok (.putfield 18, 3) := by decide +kernel
theorem dX9_init_31 : decode cX9_init 31 = .ok (.return_, 1) := by decide +kernel
theorem dX9_split_0 : decode cX9_split 0 = .ok (.aload_n 0, 1) := by decide +kernel
theorem dX9_split_1 : decode cX9_split 1 = .ok (.iconst 0, 1) := by decide +kernel
theorem dX9_split_2 : decode cX9_split 2 = .ok (.putfield 21, 3) := by decide +kernel
theorem dX9_split_5 : decode cX9_split 5 = .ok (.aload_n 0, 1) := by decide +kernel
theorem dX9_split_6 : decode cX9_split 6 = .ok (.iconst 0, 1) := by decide +kernel
theorem dX9_split_7 : decode cX9_split 7 = .ok (.putfield 25, 3) := by decide +kernel
theorem dX9_split_10 : decode cX9_split 10 = .ok (.iconst 0, 1) := by decide +kernel
theorem dX9_split_11 : decode cX9_split 11 = .ok (.istore_n 3, 1) := by decide +kernel
theorem dX9_split_12 : decode cX9_split 12 = .ok (.iconst 0, 1) := by decide +kernel
theorem dX9_split_13 : decode cX9_split 13 = .ok (.istore 4, 2) := by decide +kernel
theorem dX9_split_15 : decode cX9_split 15 = .ok (.iload 4, 2) := by decide +kernel
theorem dX9_split_17 : decode cX9_split 17 = .ok (.iload_n 2, 1) := by decide +kernel
theorem dX9_split_18 : decode cX9_split 18 = .ok (.if_icmp .ge 112, 3) := by decide +kernel
theorem dX9_split_21 : decode cX9_split 21 = .ok (.iload 4, 2) := by decide +kernel
theorem dX9_split_23 : decode cX9_split 23 = .ok (.aload_n 1, 1) := by decide +kernel
theorem dX9_split_24 : decode cX9_split 24 = .ok (.arraylength, 1) := by decide +kernel
theorem dX9_split_25 : decode cX9_split 25 = .ok (.if_icmp .ge 105, 3) := by decide +kernel
theorem dX9_split_28 : decode cX9_split 28 = .ok (.iload 4, 2) := by decide +kernel
theorem dX9_split_30 : decode cX9_split 30 = .ok (.sipush 300, 3) := by decide +kernel
theorem dX9_split_33 : decode cX9_split 33 = .ok (.if_icmp .ge 97, 3) := by decide +kernel
theorem dX9_split_36 : decode cX9_split 36 = .ok (.aload_n 1, 1) := by decide +kernel
theorem dX9_split_37 : decode cX9_split 37 = .ok (.iload 4, 2) := by decide +kernel
theorem dX9_split_39 : decode cX9_split 39 = .ok (.iaload, 1) := by decide +kernel
theorem dX9_split_40 : decode cX9_split 40 = .ok (.invokestatic 28, 3) := by decide +kernel
theorem dX9_split_43 : decode cX9_split 43 = .ok (.istore 5, 2) := by decide +kernel
theorem dX9_split_45 : decode cX9_split 45 = .ok (.iload 5, 2) := by decide +kernel
theorem dX9_split_47 : decode cX9_split 47 = .ok (.ifCond .eq 59, 3) := by decide +kernel
theorem dX9_split_50 : decode cX9_split 50 = .ok (.aload_n 0, 1) := by decide +kernel
theorem dX9_split_51 : decode cX9_split 51 = .ok (.iload_n 3, 1) := by decide +kernel
theorem dX9_split_52 : decode cX9_split 52 = .ok (.iload 5, 2) := by decide +kernel
theorem dX9_split_54 : decode cX9_split 54 = .ok (.aload_n 1, 1) := by decide +kernel
theorem dX9_split_55 : decode cX9_split 55 = .ok (.iload 4, 2) := by decide +kernel
theorem dX9_split_57 : decode cX9_split 57 = .ok (.iaload, 1) := by decide +kernel
theorem dX9_split_58 : decode cX9_split 58 = .ok (.invokevirtual 32, 3) := by decide +kernel
theorem dX9_split_61 : decode cX9_split 61 = .ok (.ifCond .ne 45, 3) := by decide +kernel
theorem dX9_split_64 : decode cX9_split 64 = .ok (.aload_n 0, 1) := by decide +kernel
theorem dX9_split_65 : decode cX9_split 65 = .ok (.getfield 9, 3) := by decide +kernel
theorem dX9_split_68 : decode cX9_split 68 = .ok (.aload_n 0, 1) := by decide +kernel
theorem dX9_split_69 : decode cX9_split 69 = .ok (.getfield 21, 3) := by decide +kernel
theorem dX9_split_72 : decode cX9_split 72 = .ok (.bipush (-2), 2) := by decide +kernel
theorem dX9_split_74 : decode cX9_split 74 = .ok (.iastore, 1) := by decide +kernel
theorem dX9_split_75 : decode cX9_split 75 = .ok (.aload_n 0, 1) := by decide +kernel
theorem dX9_split_76 : decode cX9_split 76 = .ok (.getfield 15, 3) := by decide +kernel
theorem dX9_split_79 : decode cX9_split 79 = .ok (.aload_n 0, 1) := by decide +kernel
theorem dX9_split_80 : decode cX9_split 80 = .ok (.getfield 21, 3) := by decide +kernel
theorem dX9_split_83 : decode cX9_split 83 = .ok (.iload 4, 2) := by decide +kernel
theorem dX9_split_85 : decode cX9_split 85 = .ok (.iastore, 1) := by decide +kernel
theorem dX9_split_86 : decode cX9_split 86 = .ok (.aload_n 0, 1) := by decide +kernel
theorem dX9_split_87 : decode cX9_split 87 = .ok (.getfield 18, 3) := by decide +kernel
theorem dX9_split_90 : decode cX9_split 90 = .ok (.aload_n 0, 1) := by decide +kernel
theorem dX9_split_91 : decode cX9_split 91 = .ok (.getfield 21, 3) := by decide +kernel
theorem dX9_split_94 : decode cX9_split 94 = .ok (.iconst 0, 1) := by decide +kernel
theorem dX9_split_95 : decode cX9_split 95 = .ok (.iastore, 1) := by decide +kernel
theorem dX9_split_96 : decode cX9_split 96 = .ok (.aload_n 0, 1) := by decide +kernel
theorem dX9_split_97 : decode cX9_split 97 = .ok (.dup, 1) := by decide +kernel
theorem dX9_split_98 : decode cX9_split 98 = .ok (.getfield 21, 3) := by decide +kernel
theorem dX9_split_101 : decode cX9_split 101 = .ok (.iconst 1, 1) := by decide +kernel
theorem dX9_split_102 : decode cX9_split 102 = .ok (.iadd, 1) := by decide +kernel
theorem dX9_split_103 : decode cX9_split 103 = .ok (.putfield 21, 3) := by decide +kernel
theorem dX9_split_106 : decode cX9_split 106 = .ok (.iload 5, 2) := by decide +kernel
theorem dX9_split_108 : decode cX9_split 108 = .ok (.ifCond .eq 13, 3) := by decide +kernel
theorem dX9_split_111 : decode cX9_split 111 = .ok (.aload_n 0, 1) := by decide +kernel
theorem dX9_split_112 : decode cX9_split 112 = .ok (.iload 5, 2) := by decide +kernel
theorem dX9_split_114 : decode cX9_split 114 = .ok (.aload_n 1, 1) := by decide +kernel
theorem dX9_split_115 : decode cX9_split 115 = .ok (.iload 4, 2) := by decide +kernel
theorem dX9_split_117 : decode cX9_split 117 = .ok (.iaload, 1) := by decide +kernel
theorem dX9_split_118 : decode cX9_split 118 = .ok (.invokevirtual 36, 3) := by decide +kernel
theorem dX9_split_121 : decode cX9_split 121 = .ok (.iload 5, 2) := by decide +kernel
theorem dX9_split_123 : decode cX9_split 123 = .ok (.istore_n 3, 1) := by decide +kernel
theorem dX9_split_124 : decode cX9_split 124 = .ok (.iinc 4 1, 3) := by decide +kernel
theorem dX9_split_127 : decode cX9_split 127 = .ok (.goto (-112), 3) := by decide +kernel
theorem dX9_split_130 : decode cX9_split 130 = .ok (.aload_n 0, 1) := by decide +kernel
theorem dX9_split_131 : decode cX9_split 131 = .ok (.getfield 9, 3) := by decide +kernel
theorem dX9_split_134 : decode cX9_split 134 = .ok (.aload_n 0, 1) := by decide +kernel
theorem dX9_split_135 : decode cX9_split 135 = .ok (.getfield 21, 3) := by decide +kernel
theorem dX9_split_138 : decode cX9_split 138 = .ok (.iconst (-1), 1) := by decide +kernel
theorem dX9_split_139 : decode cX9_split 139 = .ok (.iastore, 1) := by decide +kernel
theorem dX9_split_140 : decode cX9_split 140 = .ok (.aload_n 0, 1) := by decide +kernel
theorem dX9_split_141 : decode cX9_split 141 = .ok (.getfield 15, 3) := by decide +kernel
theorem dX9_split_144 : decode cX9_split 144 = .ok (.aload_n 0, 1) := by decide +kernel
theorem dX9_split_145 : decode cX9_split 145 = .ok (.getfield 21, 3) := by decide +kernel
theorem dX9_split_148 : decode cX9_split 148 = .ok (.iload_n 2, 1) := by decide +kernel
theorem dX9_split_149 : decode cX9_split 149 = .ok (.iastore, 1) := by decide +kernel
theorem dX9_split_150 : decode cX9_split 150 = .ok (.aload_n 0, 1) := by decide +kernel
theorem dX9_split_151 : decode cX9_split 151 = .ok (.invokevirtual 40, 3) := by decide +kernel
theorem dX9_split_154 : decode cX9_split 154 = .ok (.return_, 1) := by decide +kernel
theorem dX9_advance_0 : decode cX9_advance 0 = .ok (.aload_n 0, 1) := by decide +kernel
theorem dX9_advance_1 : decode cX9_advance 1 = .ok (.aload_n 0, 1) := by decide +kernel
theorem dX9_advance_2 : decode cX9_advance 2 = .ok (.getfield 9, 3) := by decide +kernel
theorem dX9_advance_5 : decode cX9_advance 5 = .ok (.aload_n 0, 1) := by decide +kernel
theorem dX9_advance_6 : decode cX9_advance 6 = .ok (.getfield 25, 3) := by decide +kernel
theorem dX9_advance_9 : decode cX9_advance 9 = .ok (.iaload, 1) := by decide +kernel
theorem dX9_advance_10 : decode cX9_advance 10 = .ok (.putfield 43, 3) := by decide +kernel
theorem dX9_advance_13 : decode cX9_advance 13 = .ok (.aload_n 0, 1) := by decide +kernel
theorem dX9_advance_14 : decode cX9_advance 14 = .ok (.aload_n 0, 1) := by decide +kernel
theorem dX9_advance_15 : decode cX9_advance 15 = .ok (.getfield 15, 3) := by decide +kernel
theorem dX9_advance_18 : decode cX9_advance 18 = .ok (.aload_n 0, 1) := by decide +kernel
theorem dX9_advance_19 : decode cX9_advance 19 = .ok (.getfield 25, 3) := by decide +kernel
theorem dX9_advance_22 : decode cX9_advance 22 = .ok (.iaload, 1) := by decide +kernel
theorem dX9_advance_23 : decode cX9_advance 23 = .ok (.putfield 46, 3) := by decide +kernel
theorem dX9_advance_26 : decode cX9_advance 26 = .ok (.aload_n 0, 1) := by decide +kernel
theorem dX9_advance_27 : decode cX9_advance 27 = .ok (.aload_n 0, 1) := by decide +kernel
theorem dX9_advance_28 : decode cX9_advance 28 = .ok (.getfield 18, 3) := by decide +kernel
theorem dX9_advance_31 : decode cX9_advance 31 = .ok (.aload_n 0, 1) := by decide +kernel
theorem dX9_advance_32 : decode cX9_advance 32 = .ok (.getfield 25, 3) := by decide +kernel
theorem dX9_advance_35 : decode cX9_advance 35 = .ok (.iaload, 1) := by decide +kernel
theorem dX9_advance_36 : decode cX9_advance 36 = .ok (.putfield 49, 3) := by decide +kernel
theorem dX9_advance_39 : decode cX9_advance 39 = .ok (.aload_n 0, 1) := by decide +kernel
theorem dX9_advance_40 : decode cX9_advance 40 = .ok (.getfield 25, 3) := by decide +kernel
theorem dX9_advance_43 : decode cX9_advance 43 = .ok (.aload_n 0, 1) := by decide +kernel
theorem dX9_advance_44 : decode cX9_advance 44 = .ok (.getfield 21, 3) := by decide +kernel
theorem dX9_advance_47 : decode cX9_advance 47 = .ok (.if_icmp .ge 13, 3) := by decide +kernel
theorem dX9_advance_50 : decode cX9_advance 50 = .ok (.aload_n 0, 1) := by decide +kernel
theorem dX9_advance_51 : decode cX9_advance 51 = .ok (.dup, 1) := by decide +kernel
theorem dX9_advance_52 : decode cX9_advance 52 = .ok (.getfield 25, 3) := by decide +kernel
theorem dX9_advance_55 : decode cX9_advance 55 = .ok (.iconst 1, 1) := by decide +kernel
theorem dX9_advance_56 : decode cX9_advance 56 = .ok (.iadd, 1) := by decide +kernel
theorem dX9_advance_57 : decode cX9_advance 57 = .ok (.putfield 25, 3) := by decide +kernel
theorem dX9_advance_60 : decode cX9_advance 60 = .ok (.return_, 1) := by decide +kernel
theorem dX9_sortOf_0 : decode cX9_sortOf 0 = .ok (.iload_n 0, 1) := by decide +kernel
theorem dX9_sortOf_1 : decode cX9_sortOf 1 = .ok (.bipush 32, 2) := by decide +kernel
theorem dX9_sortOf_3 : decode cX9_sortOf 3 = .ok (.if_icmp .eq 9, 3) := by decide +kernel
theorem dX9_sortOf_6 : decode cX9_sortOf 6 = .ok (.iload_n 0, 1) := by decide +kernel
theorem dX9_sortOf_7 : decode cX9_sortOf 7 = .ok (.bipush 10, 2) := by decide +kernel
theorem dX9_sortOf_9 : decode cX9_sortOf 9 = .ok (.if_icmp .ne 5, 3) := by decide +kernel
theorem dX9_sortOf_12 : decode cX9_sortOf 12 = .ok (.iconst 0, 1) := by decide +kernel
theorem dX9_sortOf_13 : decode cX9_sortOf 13 = .ok (.ireturn, 1) := by decide +kernel
theorem dX9_sortOf_14 : decode cX9_sortOf 14 = .ok (.iload_n 0, 1) := by decide +kernel
theorem dX9_sortOf_15 : decode cX9_sortOf 15 = .ok (.bipush 97, 2) := by decide +kernel
theorem dX9_sortOf_17 : decode cX9_sortOf 17 = .ok (.bipush 122, 2) := by decide +kernel
theorem dX9_sortOf_19 : decode cX9_sortOf 19 = .ok (.invokestatic 52, 3) := by decide +kernel
theorem dX9_sortOf_22 : decode cX9_sortOf 22 = .ok (.ifCond .ne 14, 3) := by decide +kernel
theorem dX9_sortOf_25 : decode cX9_sortOf 25 = .ok (.iload_n 0, 1) := by decide +kernel
theorem dX9_sortOf_26 : decode cX9_sortOf 26 = .ok (.bipush 65, 2) := by decide +kernel
theorem dX9_sortOf_28 : decode cX9_sortOf 28 = .ok (.bipush 90, 2) := by decide +kernel
theorem dX9_sortOf_30 : decode cX9_sortOf 30 = .ok (.invokestatic 52, 3) := by decide +kernel
theorem dX9_sortOf_33 : decode cX9_sortOf 33 = .ok (.ifCond .eq 5, 3) := by decide +kernel
theorem dX9_sortOf_36 : decode cX9_sortOf 36 = .ok (.iconst 1, 1) := by decide +kernel
theorem dX9_sortOf_37 : decode cX9_sortOf 37 = .ok (.ireturn, 1) := by decide +kernel
theorem dX9_sortOf_38 : decode cX9_sortOf 38 = .ok (.iload_n 0, 1) := by decide +kernel
theorem dX9_sortOf_39 : decode cX9_sortOf 39 = .ok (.bipush 48, 2) := by decide +kernel
theorem dX9_sortOf_41 : decode cX9_sortOf 41 = .ok (.bipush 57, 2) := by decide +kernel
theorem dX9_sortOf_43 : decode cX9_sortOf 43 = .ok (.invokestatic 52, 3) := by decide +kernel
theorem dX9_sortOf_46 : decode cX9_sortOf 46 = .ok (.ifCond .eq 7, 3) := by decide +kernel
theorem dX9_sortOf_49 : decode cX9_sortOf 49 = .ok (.iconst 2, 1) := by decide +kernel
theorem dX9_sortOf_50 : decode cX9_sortOf 50 = .ok (.goto 4, 3) := by decide +kernel
theorem dX9_sortOf_53 : decode cX9_sortOf 53 = .ok (.iconst 3, 1) := by decide +kernel
theorem dX9_sortOf_54 : decode cX9_sortOf 54 = .ok (.ireturn, 1) := by decide +kernel
theorem dX9_goesOn_0 : decode cX9_goesOn 0 = .ok (.iload_n 1, 1) := by decide +kernel
theorem dX9_goesOn_1 : decode cX9_goesOn 1 = .ok (.iload_n 2, 1) := by decide +kernel
theorem dX9_goesOn_2 : decode cX9_goesOn 2 = .ok (.if_icmp .ne 10, 3) := by decide +kernel
theorem dX9_goesOn_5 : decode cX9_goesOn 5 = .ok (.aload_n 0, 1) := by decide +kernel
theorem dX9_goesOn_6 : decode cX9_goesOn 6 = .ok (.getfield 21, 3) := by decide +kernel
theorem dX9_goesOn_9 : decode cX9_goesOn 9 = .ok (.ifCond .ne 5, 3) := by decide +kernel
theorem dX9_goesOn_12 : decode cX9_goesOn 12 = .ok (.iconst 0, 1) := by decide +kernel
theorem dX9_goesOn_13 : decode cX9_goesOn 13 = .ok (.ireturn, 1) := by decide +kernel
theorem dX9_goesOn_14 : decode cX9_goesOn 14 = .ok (.aload_n 0, 1) := by decide +kernel
theorem dX9_goesOn_15 : decode cX9_goesOn 15 = .ok (.getfield 9, 3) := by decide +kernel
theorem dX9_goesOn_18 : decode cX9_goesOn 18 = .ok (.aload_n 0, 1) := by decide +kernel
theorem dX9_goesOn_19 : decode cX9_goesOn 19 = .ok (.getfield 21, 3) := by decide +kernel
theorem dX9_goesOn_22 : decode cX9_goesOn 22 = .ok (.iconst 1, 1) := by decide +kernel
theorem dX9_goesOn_23 : decode cX9_goesOn 23 = .ok (.isub, 1) := by decide +kernel
theorem dX9_goesOn_24 : decode cX9_goesOn 24 = .ok (.iaload, 1) := by decide +kernel
theorem dX9_goesOn_25 : decode cX9_goesOn 25 = .ok (.istore 4, 2) := by decide +kernel
theorem dX9_goesOn_27 : decode cX9_goesOn 27 = .ok (.iload_n 2, 1) := by decide +kernel
theorem dX9_goesOn_28 : decode cX9_goesOn 28 = .ok (.iconst 3, 1) := by decide +kernel
theorem dX9_goesOn_29 : decode cX9_goesOn 29 = .ok (.if_icmp .ne 23, 3) := by decide +kernel
theorem dX9_goesOn_32 : decode cX9_goesOn 32 = .ok (.iload_n 3, 1) := by decide +kernel
theorem dX9_goesOn_33 : decode cX9_goesOn 33 = .ok (.bipush 61, 2) := by decide +kernel
theorem dX9_goesOn_35 : decode cX9_goesOn 35 = .ok (.if_icmp .ne 21, 3) := by decide +kernel
theorem dX9_goesOn_38 : decode cX9_goesOn 38 = .ok (.iload 4, 2) := by decide +kernel
theorem dX9_goesOn_40 : decode cX9_goesOn 40 = .ok (.bipush 60, 2) := by decide +kernel
theorem dX9_goesOn_42 : decode cX9_goesOn 42 = .ok (.if_icmp .eq 10, 3) := by decide +kernel
theorem dX9_goesOn_45 : decode cX9_goesOn 45 = .ok (.iload 4, 2) := by decide +kernel
theorem dX9_goesOn_47 : decode cX9_goesOn 47 = .ok (.bipush 62, 2) := by decide +kernel
theorem dX9_goesOn_49 : decode cX9_goesOn 49 = .ok (.if_icmp .ne 7, 3) := by decide +kernel
theorem dX9_goesOn_52 : decode cX9_goesOn 52 = .ok (.iconst 1, 1) := by decide +kernel
theorem dX9_goesOn_53 : decode cX9_goesOn 53 = .ok (.goto 4, 3) := by decide +kernel
theorem dX9_goesOn_56 : decode cX9_goesOn 56 = .ok (.iconst 0, 1) := by decide +kernel
theorem dX9_goesOn_57 : decode cX9_goesOn 57 = .ok (.ireturn, 1) := by decide +kernel
theorem dX9_extend_0 : decode cX9_extend 0 = .ok (.aload_n 0, 1) := by decide +kernel
theorem dX9_extend_1 : decode cX9_extend 1 = .ok (.getfield 21, 3) := by decide +kernel
theorem dX9_extend_4 : decode cX9_extend 4 = .ok (.ifCond .ne 4, 3) := by decide +kernel
theorem dX9_extend_7 : decode cX9_extend 7 = .ok (.return_, 1) := by decide +kernel
theorem dX9_extend_8 : decode cX9_extend 8 = .ok (.aload_n 0, 1) := by decide +kernel
theorem dX9_extend_9 : decode cX9_extend 9 = .ok (.getfield 21, 3) := by decide +kernel
theorem dX9_extend_12 : decode cX9_extend 12 = .ok (.iconst 1, 1) := by decide +kernel
theorem dX9_extend_13 : decode cX9_extend 13 = .ok (.isub, 1) := by decide +kernel
theorem dX9_extend_14 : decode cX9_extend 14 = .ok (.istore_n 3, 1) := by decide +kernel
theorem dX9_extend_15 : decode cX9_extend 15 = .ok (.iload_n 1, 1) := by decide +kernel
theorem dX9_extend_16 : decode cX9_extend 16 = .ok (.iconst 2, 1) := by decide +kernel
theorem dX9_extend_17 : decode cX9_extend 17 = .ok (.if_icmp .ne 40, 3) := by decide +kernel
theorem dX9_extend_20 : decode cX9_extend 20 = .ok (.aload_n 0, 1) := by decide +kernel
theorem dX9_extend_21 : decode cX9_extend 21 = .ok (.getfield 9, 3) := by decide +kernel
theorem dX9_extend_24 : decode cX9_extend 24 = .ok (.iload_n 3, 1) := by decide +kernel
theorem dX9_extend_25 : decode cX9_extend 25 = .ok (.bipush (-3), 2) := by decide +kernel
theorem dX9_extend_27 : decode cX9_extend 27 = .ok (.iastore, 1) := by decide +kernel
theorem dX9_extend_28 : decode cX9_extend 28 = .ok (.aload_n 0, 1) := by decide +kernel
theorem dX9_extend_29 : decode cX9_extend 29 = .ok (.getfield 18, 3) := by decide +kernel
theorem dX9_extend_32 : decode cX9_extend 32 = .ok (.iload_n 3, 1) := by decide +kernel
theorem dX9_extend_33 : decode cX9_extend 33 = .ok (.sipush 10000, 3) := by decide +kernel
theorem dX9_extend_36 : decode cX9_extend 36 = .ok (.aload_n 0, 1) := by decide +kernel
theorem dX9_extend_37 : decode cX9_extend 37 = .ok (.getfield 18, 3) := by decide +kernel
theorem dX9_extend_40 : decode cX9_extend 40 = .ok (.iload_n 3, 1) := by decide +kernel
theorem dX9_extend_41 : decode cX9_extend 41 = .ok (.iaload, 1) := by decide +kernel
theorem dX9_extend_42 : decode cX9_extend 42 = .ok (.bipush 10, 2) := by decide +kernel
theorem dX9_extend_44 : decode cX9_extend 44 = .ok (.imul, 1) := by decide +kernel
theorem dX9_extend_45 : decode cX9_extend 45 = .ok (.iload_n 2, 1) := by decide +kernel
theorem dX9_extend_46 : decode cX9_extend 46 = .ok (.iadd, 1) := by decide +kernel
theorem dX9_extend_47 : decode cX9_extend 47 = .ok (.bipush 48, 2) := by decide +kernel
theorem dX9_extend_49 : decode cX9_extend 49 = .ok (.isub, 1) := by decide +kernel
theorem dX9_extend_50 : decode cX9_extend 50 = .ok (.invokestatic 55, 3) := by decide +kernel
theorem dX9_extend_53 : decode cX9_extend 53 = .ok (.iastore, 1) := by decide +kernel
theorem dX9_extend_54 : decode cX9_extend 54 = .ok (.goto 144, 3) := by decide +kernel
theorem dX9_extend_57 : decode cX9_extend 57 = .ok (.iload_n 1, 1) := by decide +kernel
theorem dX9_extend_58 : decode cX9_extend 58 = .ok (.iconst 1, 1) := by decide +kernel
theorem dX9_extend_59 : decode cX9_extend 59 = .ok (.if_icmp .ne 94, 3) := by decide +kernel
theorem dX9_extend_62 : decode cX9_extend 62 = .ok (.aload_n 0, 1) := by decide +kernel
theorem dX9_extend_63 : decode cX9_extend 63 = .ok (.getfield 18, 3) := by decide +kernel
theorem dX9_extend_66 : decode cX9_extend 66 = .ok (.iload_n 3, 1) := by decide +kernel
theorem dX9_extend_67 : decode cX9_extend 67 = .ok (.iaload, 1) := by decide +kernel
theorem dX9_extend_68 : decode cX9_extend 68 = .ok (.ifCond .lt 14, 3) := by decide +kernel
theorem dX9_extend_71 : decode cX9_extend 71 = .ok (.aload_n 0, 1) := by decide +kernel
theorem dX9_extend_72 : decode cX9_extend 72 = .ok (.getfield 18, 3) := by decide +kernel
theorem dX9_extend_75 : decode cX9_extend 75 = .ok (.iload_n 3, 1) := by decide +kernel
theorem dX9_extend_76 : decode cX9_extend 76 = .ok (.iaload, 1) := by decide +kernel
theorem dX9_extend_77 : decode cX9_extend 77 = .ok (.ldc 61, 2) := by decide +kernel
theorem dX9_extend_79 : decode cX9_extend 79 = .ok (.if_icmp .le 7, 3) := by decide +kernel
theorem dX9_extend_82 : decode cX9_extend 82 = .ok (.iconst 1, 1) := by decide +kernel
theorem dX9_extend_83 : decode cX9_extend 83 = .ok (.goto 4, 3) := by decide +kernel
theorem dX9_extend_86 : decode cX9_extend 86 = .ok (.iconst 0, 1) := by decide +kernel
theorem dX9_extend_87 : decode cX9_extend 87 = .ok (.istore 4, 2) := by decide +kernel
theorem dX9_extend_89 : decode cX9_extend 89 = .ok (.aload_n 0, 1) := by decide +kernel
theorem dX9_extend_90 : decode cX9_extend 90 = .ok (.getfield 18, 3) := by decide +kernel
theorem dX9_extend_93 : decode cX9_extend 93 = .ok (.iload_n 3, 1) := by decide +kernel
theorem dX9_extend_94 : decode cX9_extend 94 = .ok (.iload 4, 2) := by decide +kernel
theorem dX9_extend_96 : decode cX9_extend 96 = .ok (.ifCond .eq 8, 3) := by decide +kernel
theorem dX9_extend_99 : decode cX9_extend 99 = .ok (.bipush (-2), 2) := by decide +kernel
theorem dX9_extend_101 : decode cX9_extend 101 = .ok (.goto 15, 3) := by decide +kernel
theorem dX9_extend_104 : decode cX9_extend 104 = .ok (.aload_n 0, 1) := by decide +kernel
theorem dX9_extend_105 : decode cX9_extend 105 = .ok (.getfield 18, 3) := by decide +kernel
theorem dX9_extend_108 : decode cX9_extend 108 = .ok (.iload_n 3, 1) := by decide +kernel
theorem dX9_extend_109 : decode cX9_extend 109 = .ok (.iaload, 1) := by decide +kernel
theorem dX9_extend_110 : decode cX9_extend 110 = .ok (.sipush 256, 3) := by decide +kernel
theorem dX9_extend_113 : decode cX9_extend 113 = .ok (.imul, 1) := by decide +kernel
theorem dX9_extend_114 : decode cX9_extend 114 = .ok (.iload_n 2, 1) := by decide +kernel
theorem dX9_extend_115 : decode cX9_extend 115 = .ok (.iadd, 1) := by decide +kernel
theorem dX9_extend_116 : decode cX9_extend 116 = .ok (.iastore, 1) := by decide +kernel
theorem dX9_extend_117 : decode cX9_extend 117 = .ok (.aload_n 0, 1) := by decide +kernel
theorem dX9_extend_118 : decode cX9_extend 118 = .ok (.getfield 9, 3) := by decide +kernel
theorem dX9_extend_121 : decode cX9_extend 121 = .ok (.iload_n 3, 1) := by decide +kernel
theorem dX9_extend_122 : decode cX9_extend 122 = .ok (.aload_n 0, 1) := by decide +kernel
theorem dX9_extend_123 : decode cX9_extend 123 = .ok (.getfield 18, 3) := by decide +kernel
theorem dX9_extend_126 : decode cX9_extend 126 = .ok (.iload_n 3, 1) := by decide +kernel
theorem dX9_extend_127 : decode cX9_extend 127 = .ok (.iaload, 1) := by decide +kernel
theorem dX9_extend_128 : decode cX9_extend 128 = .ok (.bipush 65, 2) := by decide +kernel
theorem dX9_extend_130 : decode cX9_extend 130 = .ok (.bipush 72, 2) := by decide +kernel
theorem dX9_extend_132 : decode cX9_extend 132 = .ok (.invokestatic 52, 3) := by decide +kernel
theorem dX9_extend_135 : decode cX9_extend 135 = .ok (.ifCond .eq 8, 3) := by decide +kernel
theorem dX9_extend_138 : decode cX9_extend 138 = .ok (.bipush (-4), 2) := by decide +kernel
theorem dX9_extend_140 : decode cX9_extend 140 = .ok (.goto 9, 3) := by decide +kernel
theorem dX9_extend_143 : decode cX9_extend 143 = .ok (.aload_n 0, 1) := by decide +kernel
theorem dX9_extend_144 : decode cX9_extend 144 = .ok (.getfield 18, 3) := by decide +kernel
theorem dX9_extend_147 : decode cX9_extend 147 = .ok (.iload_n 3, 1) := by decide +kernel
theorem dX9_extend_148 : decode cX9_extend 148 = .ok (.iaload, 1) := by decide +kernel
theorem dX9_extend_149 : decode cX9_extend 149 = .ok (.iastore, 1) := by decide +kernel
theorem dX9_extend_150 : decode cX9_extend 150 = .ok (.goto 48, 3) := by decide +kernel
theorem dX9_extend_153 : decode cX9_extend 153 = .ok (.aload_n 0, 1) := by decide +kernel
theorem dX9_extend_154 : decode cX9_extend 154 = .ok (.getfield 9, 3) := by decide +kernel
theorem dX9_extend_157 : decode cX9_extend 157 = .ok (.iload_n 3, 1) := by decide +kernel
theorem dX9_extend_158 : decode cX9_extend 158 = .ok (.iaload, 1) := by decide +kernel
theorem dX9_extend_159 : decode cX9_extend 159 = .ok (.bipush (-2), 2) := by decide +kernel
theorem dX9_extend_161 : decode cX9_extend 161 = .ok (.if_icmp .ne 13, 3) := by decide +kernel
theorem dX9_extend_164 : decode cX9_extend 164 = .ok (.aload_n 0, 1) := by decide +kernel
theorem dX9_extend_165 : decode cX9_extend 165 = .ok (.getfield 9, 3) := by decide +kernel
theorem dX9_extend_168 : decode cX9_extend 168 = .ok (.iload_n 3, 1) := by decide +kernel
theorem dX9_extend_169 : decode cX9_extend 169 = .ok (.iload_n 2, 1) := by decide +kernel
theorem dX9_extend_170 : decode cX9_extend 170 = .ok (.iastore, 1) := by decide +kernel
theorem dX9_extend_171 : decode cX9_extend 171 = .ok (.goto 27, 3) := by decide +kernel
theorem dX9_extend_174 : decode cX9_extend 174 = .ok (.aload_n 0, 1) := by decide +kernel
theorem dX9_extend_175 : decode cX9_extend 175 = .ok (.getfield 9, 3) := by decide +kernel
theorem dX9_extend_178 : decode cX9_extend 178 = .ok (.iload_n 3, 1) := by decide +kernel
theorem dX9_extend_179 : decode cX9_extend 179 = .ok (.aload_n 0, 1) := by decide +kernel
theorem dX9_extend_180 : decode cX9_extend 180 = .ok (.getfield 9, 3) := by decide +kernel
theorem dX9_extend_183 : decode cX9_extend 183 = .ok (.iload_n 3, 1) := by decide +kernel
theorem dX9_extend_184 : decode cX9_extend 184 = .ok (.iaload, 1) := by decide +kernel
theorem dX9_extend_185 : decode cX9_extend 185 = .ok (.bipush 60, 2) := by decide +kernel
theorem dX9_extend_187 : decode cX9_extend 187 = .ok (.if_icmp .ne 8, 3) := by decide +kernel
theorem dX9_extend_190 : decode cX9_extend 190 = .ok (.bipush (-5), 2) := by decide +kernel
theorem dX9_extend_192 : decode cX9_extend 192 = .ok (.goto 5, 3) := by decide +kernel
theorem dX9_extend_195 : decode cX9_extend 195 = .ok (.bipush (-6), 2) := by decide +kernel
theorem dX9_extend_197 : decode cX9_extend 197 = .ok (.iastore, 1) := by decide +kernel
theorem dX9_extend_198 : decode cX9_extend 198 = .ok (.return_, 1) := by decide +kernel
theorem dX10_init_0 : decode cX10_init 0 = .ok (.aload_n 0, 1) := by decide +kernel
theorem dX10_init_1 : decode cX10_init 1 = .ok (.invokespecial 3, 3) := by decide +kernel
theorem dX10_init_4 : decode cX10_init 4 = .ok (.aload_n 0, 1) := by decide +kernel
theorem dX10_init_5 : decode cX10_init 5 = .ok (.iconst 4, 1) := by decide +kernel
theorem dX10_init_6 : decode cX10_init 6 = .ok (.bipush 24, 2) := by decide +kernel
theorem dX10_init_8 : decode cX10_init 8 = .ok (.iload_n 1, 1) := by decide +kernel
theorem dX10_init_9 : decode cX10_init 9 = .ok (.invokestatic 11, 3) := by decide +kernel
theorem dX10_init_12 : decode cX10_init 12 = .ok (.invokestatic 17, 3) := by decide +kernel
theorem dX10_init_15 : decode cX10_init 15 = .ok (.putfield 20, 3) := by decide +kernel
theorem dX10_init_18 : decode cX10_init 18 = .ok (.aload_n 0, 1) := by decide +kernel
theorem dX10_init_19 : decode cX10_init 19 = .ok (.iconst 4, 1) := by decide +kernel
theorem dX10_init_20 : decode cX10_init 20 = .ok (.bipush 24, 2) := by decide +kernel
theorem dX10_init_22 : decode cX10_init 22 = .ok (.iload_n 2, 1) := by decide +kernel
theorem dX10_init_23 : decode cX10_init 23 = .ok (.invokestatic 11, 3) := by decide +kernel
theorem dX10_init_26 : decode cX10_init 26 = .ok (.invokestatic 17, 3) := by decide +kernel
theorem dX10_init_29 : decode cX10_init 29 = .ok (.putfield 24, 3) := by decide +kernel
theorem dX10_init_32 : decode cX10_init 32 = .ok (.aload_n 0, 1) := by decide +kernel
theorem dX10_init_33 : decode cX10_init 33 = .ok (.aload_n 0, 1) := by decide +kernel
theorem dX10_init_34 : decode cX10_init 34 = .ok (.getfield 20, 3) := by decide +kernel
theorem dX10_init_37 : decode cX10_init 37 = .ok (.aload_n 0, 1) := by decide +kernel
theorem dX10_init_38 : decode cX10_init 38 = .ok (.getfield 24, 3) := by decide +kernel
theorem dX10_init_41 : decode cX10_init 41 = .ok (.imul, 1) := by decide +kernel
theorem dX10_init_42 : decode cX10_init 42 = .ok (.newarray .int, 2) := by decide +kernel
theorem dX10_init_44 : decode cX10_init 44 = .ok (.putfield 27, 3) := by decide +kernel
theorem dX10_init_47 : decode cX10_init 47 = .ok (.aload_n 0, 1) := by decide +kernel
theorem dX10_init_48 : decode cX10_init 48 = .ok (.bipush 6, 2) := by decide +kernel
theorem dX10_init_50 : decode cX10_init 50 = .ok (.newarray .int, 2) := by decide +kernel
theorem dX10_init_52 : decode cX10_init 52 = .ok (.putfield 31, 3) := by decide +kernel
theorem dX10_init_55 : decode cX10_init 55 = .ok (.aload_n 0, 1) := by decide +kernel
theorem dX10_init_56 : decode cX10_init 56 = .ok (.bipush 6, 2) := by decide +kernel
theorem dX10_init_58 : decode cX10_init 58 = .ok (.newarray .int, 2) := by decide +kernel
theorem dX10_init_60 : decode cX10_init 60 = .ok (.putfield 34, 3) := by decide +kernel
theorem dX10_init_63 : decode cX10_init 63 = .ok (.aload_n 0, 1) := by decide +kernel
theorem dX10_init_64 : decode cX10_init 64 = .ok (.bipush 6, 2) := by decide +kernel
theorem dX10_init_66 : decode cX10_init 66 = .ok (.newarray .int, 2) := by decide +kernel
theorem dX10_init_68 : decode cX10_init 68 = .ok (.putfield 37, 3) := by decide +kernel
theorem dX10_init_71 : decode cX10_init 71 = .ok (.aload_n 0, 1) := by decide +kernel
theorem dX10_init_72 : decode cX10_init 72 = .ok (.bipush 6, 2) := by decide +kernel
theorem dX10_init_74 : decode cX10_init 74 = .ok (.newarray .int, 2) := by decide +kernel
theorem dX10_init_76 : decode cX10_init 76 = .ok (.putfield 40, 3) := by decide +kernel
theorem dX10_init_79 : decode cX10_init 79 = .ok (.aload_n 0, 1) := by decide +kernel
theorem dX10_init_80 : decode cX10_init 80 = .ok (.bipush 6, 2) := by decide +kernel
theorem dX10_init_82 : decode cX10_init 82 = .ok (.newarray .int, 2) := by decide +kernel
theorem dX10_init_84 : decode cX10_init 84 = .ok (.putfield 43, 3) := by decide +kernel
theorem dX10_init_87 : decode cX10_init 87 = .ok (.return_, 1) := by decide +kernel
theorem dX10_isCell_0 : decode cX10_isCell 0 = .ok (.iload_n 1, 1) := by decide +kernel
theorem dX10_isCell_1 : decode cX10_isCell 1 = .ok (.iconst 0, 1) := by decide +kernel
theorem dX10_isCell_2 : decode cX10_isCell 2 = .ok (.aload_n 0, 1) := by decide +kernel
theorem dX10_isCell_3 : decode cX10_isCell 3 = .ok (.getfield 27, 3) := by decide +kernel
theorem dX10_isCell_6 : decode cX10_isCell 6 = .ok (.arraylength, 1) := by decide +kernel
theorem dX10_isCell_7 : decode cX10_isCell 7 = .ok (.iconst 1, 1) := by decide +kernel
theorem dX10_isCell_8 : decode cX10_isCell 8 = .ok (.isub, 1) := by decide +kernel
theorem dX10_isCell_9 : decode cX10_isCell 9 = .ok (.invokestatic 46, 3) := by decide +kernel
theorem dX10_isCell_12 : decode cX10_isCell 12 = .ok (.ireturn, 1) := by decide +kernel
theorem dX10_rowOf_0 : decode cX10_rowOf 0 = .ok (.aload_n 0, 1) := by decide +kernel
theorem dX10_rowOf_1 : decode cX10_rowOf 1 = .ok (.getfield 20, 3) := by decide +kernel
theorem dX10_rowOf_4 : decode cX10_rowOf 4 = .ok (.ifCond .le 12, 3) := by decide +kernel
theorem dX10_rowOf_7 : decode cX10_rowOf 7 = .ok (.iload_n 1, 1) := by decide +kernel
theorem dX10_rowOf_8 : decode cX10_rowOf 8 = .ok (.aload_n 0, 1) := by decide +kernel
theorem dX10_rowOf_9 : decode cX10_rowOf 9 = .ok (.getfield 20, 3) := by decide +kernel
theorem dX10_rowOf_12 : decode cX10_rowOf 12 = .ok (.idiv, 1) := by decide +kernel
theorem dX10_rowOf_13 : decode cX10_rowOf 13 = .ok (.goto 4, 3) := by decide +kernel
theorem dX10_rowOf_16 : decode cX10_rowOf 16 = .ok (.iconst 0, 1) := by decide +kernel
theorem dX10_rowOf_17 : decode cX10_rowOf 17 = .ok (.ireturn, 1) := by decide +kernel
theorem dX10_isBody_0 : decode cX10_isBody 0 = .ok (.iload_n 1, 1) := by decide +kernel
theorem dX10_isBody_1 : decode cX10_isBody 1 = .ok (.iconst 0, 1) := by decide +kernel
theorem dX10_isBody_2 : decode cX10_isBody 2 = .ok (.aload_n 0, 1) := by decide +kernel
theorem dX10_isBody_3 : decode cX10_isBody 3 = .ok (.getfield 50, 3) := by decide +kernel
theorem dX10_isBody_6 : decode cX10_isBody 6 = .ok (.iconst 1, 1) := by decide +kernel
theorem dX10_isBody_7 : decode cX10_isBody 7 = .ok (.isub, 1) := by decide +kernel
theorem dX10_isBody_8 : decode cX10_isBody 8 = .ok (.invokestatic 46, 3) := by decide +kernel
theorem dX10_isBody_11 : decode cX10_isBody 11 = .ok (.ireturn, 1) := by decide +kernel
theorem dX10_isPlace_0 : decode cX10_isPlace 0 = .ok (.iload_n 1, 1) := by decide +kernel
theorem dX10_isPlace_1 : decode cX10_isPlace 1 = .ok (.iconst 0, 1) := by decide +kernel
theorem dX10_isPlace_2 : decode cX10_isPlace 2 = .ok (.aload_n 0, 1) := by decide +kernel
theorem dX10_isPlace_3 : decode cX10_isPlace 3 = .ok (.getfield 20, 3) := by decide +kernel
theorem dX10_isPlace_6 : decode cX10_isPlace 6 = .ok (.bipush 16, 2) := by decide +kernel
theorem dX10_isPlace_8 : decode cX10_isPlace 8 = .ok (.imul, 1) := by decide +kernel
theorem dX10_isPlace_9 : decode cX10_isPlace 9 = .ok (.iconst 1, 1) := by decide +kernel
theorem dX10_isPlace_10 : decode cX10_isPlace 10 = .ok (.isub, 1) := by decide +kernel
theorem dX10_isPlace_11 : decode cX10_isPlace 11 = .ok (.invokestatic 46, 3) := by decide +kernel
theorem dX10_isPlace_14 : decode cX10_isPlace 14 = .ok (.ifCond .eq 24, 3) := by decide +kernel
theorem dX10_isPlace_17 : decode cX10_isPlace 17 = .ok (.iload_n 2, 1) := by decide +kernel
theorem dX10_isPlace_18 : decode cX10_isPlace 18 = .ok (.iconst 0, 1) := by decide +kernel
theorem dX10_isPlace_19 : decode cX10_isPlace 19 = .ok (.aload_n 0, 1) := by decide +kernel
theorem dX10_isPlace_20 : decode cX10_isPlace 20 = .ok (.getfield 24, 3) := by decide +kernel
theorem dX10_isPlace_23 : decode cX10_isPlace 23 = .ok (.bipush 16, 2) := by decide +kernel
theorem dX10_isPlace_25 : decode cX10_isPlace 25 = .ok (.imul, 1) := by decide +kernel
theorem dX10_isPlace_26 : decode cX10_isPlace 26 = .ok (.iconst 1, 1) := by decide +kernel
theorem dX10_isPlace_27 : decode cX10_isPlace 27 = .ok (.isub, 1) := by decide +kernel
theorem dX10_isPlace_28 : decode cX10_isPlace 28 = .ok (.invokestatic 46, 3) := by decide +kernel
theorem dX10_isPlace_31 : decode cX10_isPlace 31 = .ok (.ifCond .eq 7, 3) := by decide +kernel
theorem dX10_isPlace_34 : decode cX10_isPlace 34 = .ok (.iconst 1, 1) := by decide +kernel
theorem dX10_isPlace_35 : decode cX10_isPlace 35 = .ok (.goto 4, 3) := by decide +kernel
theorem dX10_isPlace_38 : decode cX10_isPlace 38 = .ok (.iconst 0, 1) := by decide +kernel
theorem dX10_isPlace_39 : decode cX10_isPlace 39 = .ok (.ireturn, 1) := by decide +kernel
theorem dX10_isFree_0 : decode cX10_isFree 0 = .ok (.aload_n 0, 1) := by decide +kernel
theorem dX10_isFree_1 : decode cX10_isFree 1 = .ok (.iload_n 1, 1) := by decide +kernel
theorem dX10_isFree_2 : decode cX10_isFree 2 = .ok (.iload_n 2, 1) := by decide +kernel
theorem dX10_isFree_3 : decode cX10_isFree 3 = .ok (.invokevirtual 53, 3) := by decide +kernel
theorem dX10_isFree_6 : decode cX10_isFree 6 = .ok (.ifCond .eq 29, 3) := by decide +kernel
theorem dX10_isFree_9 : decode cX10_isFree 9 = .ok (.aload_n 0, 1) := by decide +kernel
theorem dX10_isFree_10 : decode cX10_isFree 10 = .ok (.iload_n 2, 1) := by decide +kernel
theorem dX10_isFree_11 : decode cX10_isFree 11 = .ok (.bipush 16, 2) := by decide +kernel
theorem dX10_isFree_13 : decode cX10_isFree 13 = .ok (.idiv, 1) := by decide +kernel
theorem dX10_isFree_14 : decode cX10_isFree 14 = .ok (.aload_n 0, 1) := by decide +kernel
theorem dX10_isFree_15 : decode cX10_isFree 15 = .ok (.getfield 20, 3) := by decide +kernel
theorem dX10_isFree_18 : decode cX10_isFree 18 = .ok (.imul, 1) := by decide +kernel
theorem dX10_isFree_19 : decode cX10_isFree 19 = .ok (.iload_n 1, 1) := by decide +kernel
theorem dX10_isFree_20 : decode cX10_isFree 20 = .ok (.bipush 16, 2) := by decide +kernel
theorem dX10_isFree_22 : decode cX10_isFree 22 = .ok (.idiv, 1) := by decide +kernel
theorem dX10_isFree_23 : decode cX10_isFree 23 = .ok (.iadd, 1) := by decide +kernel
theorem dX10_isFree_24 : decode cX10_isFree 24 = .ok (.iload_n 3, 1) := by decide +kernel
theorem dX10_isFree_25 : decode cX10_isFree 25 = .ok (.invokevirtual 57, 3) := by decide +kernel
theorem dX10_isFree_28 : decode cX10_isFree 28 = .ok (.ifCond .ne 7, 3) := by decide +kernel
theorem dX10_isFree_31 : decode cX10_isFree 31 = .ok (.iconst 1, 1) := by decide +kernel
theorem dX10_isFree_32 : decode cX10_isFree 32 = .ok (.goto 4, 3) := by decide +kernel
theorem dX10_isFree_35 : decode cX10_isFree 35 = .ok (.iconst 0, 1) := by decide +kernel
theorem dX10_isFree_36 : decode cX10_isFree 36 = .ok (.ireturn, 1) := by decide +kernel
theorem dX10_bodyCell_0 : decode cX10_bodyCell 0 = .ok (.aload_n 0, 1) := by decide +kernel
theorem dX10_bodyCell_1 : decode cX10_bodyCell 1 = .ok (.getfield 31, 3) := by decide +kernel
theorem dX10_bodyCell_4 : decode cX10_bodyCell 4 = .ok (.iload_n 1, 1) := by decide +kernel
theorem dX10_bodyCell_5 : decode cX10_bodyCell 5 = .ok (.iaload, 1) := by decide +kernel
theorem dX10_bodyCell_6 : decode cX10_bodyCell 6 = .ok (.iload_n 2, 1) := by decide +kernel
theorem dX10_bodyCell_7 : decode cX10_bodyCell 7 = .ok (.aload_n 0, 1) := by decide +kernel
theorem dX10_bodyCell_8 : decode cX10_bodyCell 8 = .ok (.getfield 37, 3) := by decide +kernel
theorem dX10_bodyCell_11 : decode cX10_bodyCell 11 = .ok (.iload_n 1, 1) := by decide +kernel
theorem dX10_bodyCell_12 : decode cX10_bodyCell 12 = .ok (.iaload, 1) := by decide +kernel
theorem dX10_bodyCell_13 : decode cX10_bodyCell 13 = .ok (.imul, 1) := by decide +kernel
theorem dX10_bodyCell_14 : decode cX10_bodyCell 14 = .ok (.iadd, 1) := by decide +kernel
theorem dX10_bodyCell_15 : decode cX10_bodyCell 15 = .ok (.istore_n 3, 1) := by decide +kernel
theorem dX10_bodyCell_16 : decode cX10_bodyCell 16 = .ok (.aload_n 0, 1) := by decide +kernel
theorem dX10_bodyCell_17 : decode cX10_bodyCell 17 = .ok (.getfield 34, 3) := by decide +kernel
theorem dX10_bodyCell_20 : decode cX10_bodyCell 20 = .ok (.iload_n 1, 1) := by decide +kernel
theorem dX10_bodyCell_21 : decode cX10_bodyCell 21 = .ok (.iaload, 1) := by decide +kernel
theorem dX10_bodyCell_22 : decode cX10_bodyCell 22 = .ok (.iload_n 2, 1) := by decide +kernel
theorem dX10_bodyCell_23 : decode cX10_bodyCell 23 = .ok (.aload_n 0, 1) := by decide +kernel
theorem dX10_bodyCell_24 : decode cX10_bodyCell 24 = .ok (.getfield 40, 3) := by decide +kernel
theorem dX10_bodyCell_27 : decode cX10_bodyCell 27 = .ok (.iload_n 1, 1) := by decide +kernel
theorem dX10_bodyCell_28 : decode cX10_bodyCell 28 = .ok (.iaload, 1) := by decide +kernel
theorem dX10_bodyCell_29 : decode cX10_bodyCell 29 = .ok (.imul, 1) := by decide +kernel
theorem dX10_bodyCell_30 : decode cX10_bodyCell 30 = .ok (.iadd, 1) := by decide +kernel
theorem dX10_bodyCell_31 : decode cX10_bodyCell 31 = .ok (.istore 4, 2) := by decide +kernel
theorem dX10_bodyCell_33 : decode cX10_bodyCell 33 = .ok (.iload_n 3, 1) := by decide +kernel
theorem dX10_bodyCell_34 : decode cX10_bodyCell 34 = .ok (.ifCond .lt 37, 3) := by decide +kernel
theorem dX10_bodyCell_37 : decode cX10_bodyCell 37 = .ok (.iload_n 3, 1) := by decide +kernel
theorem dX10_bodyCell_38 : decode cX10_bodyCell 38 = .ok (.aload_n 0, 1) := by decide +kernel
theorem dX10_bodyCell_39 : decode cX10_bodyCell 39 = .ok (.getfield 20, 3) := by decide +kernel
theorem dX10_bodyCell_42 : decode cX10_bodyCell 42 = .ok (.if_icmp .ge 29, 3) := by decide +kernel
theorem dX10_bodyCell_45 : decode cX10_bodyCell 45 = .ok (.iload 4, 2) := by decide +kernel
theorem dX10_bodyCell_47 : decode cX10_bodyCell 47 = .ok (.ifCond .lt 24, 3) := by decide +kernel
theorem dX10_bodyCell_50 : decode cX10_bodyCell 50 = .ok (.iload 4, 2) := by decide +kernel
theorem dX10_bodyCell_52 : decode cX10_bodyCell 52 = .ok (.aload_n 0, 1) := by decide +kernel
theorem dX10_bodyCell_53 : decode cX10_bodyCell 53 = .ok (.getfield 24, 3) := by decide +kernel
theorem dX10_bodyCell_56 : decode cX10_bodyCell 56 = .ok (.if_icmp .ge 15, 3) := by decide +kernel
theorem dX10_bodyCell_59 : decode cX10_bodyCell 59 = .ok (.iload 4, 2) := by decide +kernel
theorem dX10_bodyCell_61 : decode cX10_bodyCell 61 = .ok (.aload_n 0, 1) := by decide +kernel
theorem dX10_bodyCell_62 : decode cX10_bodyCell 62 = .ok (.getfield 20, 3) := by decide +kernel
theorem dX10_bodyCell_65 : decode cX10_bodyCell 65 = .ok (.imul, 1) := by decide +kernel
theorem dX10_bodyCell_66 : decode cX10_bodyCell 66 = .ok (.iload_n 3, 1) := by decide +kernel
theorem dX10_bodyCell_67 : decode cX10_bodyCell 67 = .ok (.iadd, 1) := by decide +kernel
theorem dX10_bodyCell_68 : decode cX10_bodyCell 68 = .ok (.goto 4, 3) := by decide +kernel
theorem dX10_bodyCell_71 : decode cX10_bodyCell 71 = .ok (.iconst (-1), 1) := by decide +kernel
theorem dX10_bodyCell_72 : decode cX10_bodyCell 72 = .ok (.ireturn, 1) := by decide +kernel
theorem dX10_seenMark_0 : decode cX10_seenMark 0 = .ok (.iconst 0, 1) := by decide +kernel
theorem dX10_seenMark_1 : decode cX10_seenMark 1 = .ok (.istore_n 3, 1) := by decide +kernel
theorem dX10_seenMark_2 : decode cX10_seenMark 2 = .ok (.iload_n 3, 1) := by decide +kernel
theorem dX10_seenMark_3 : decode cX10_seenMark 3 = .ok (.aload_n 0, 1) := by decide +kernel
theorem dX10_seenMark_4 : decode cX10_seenMark 4 = .ok (.getfield 50, 3) := by decide +kernel
theorem dX10_seenMark_7 : decode cX10_seenMark 7 = .ok (.if_icmp .ge 26, 3) := by decide +kernel
theorem dX10_seenMark_10 : decode cX10_seenMark 10 = .ok (.aload_n 0, 1) := by decide +kernel
theorem dX10_seenMark_11 : decode cX10_seenMark 11 = .ok (.iload_n 3, 1) := by decide +kernel
theorem dX10_seenMark_12 : decode cX10_seenMark 12 = .ok (.iload_n 2, 1) := by decide +kernel
theorem dX10_seenMark_13 : decode cX10_seenMark 13 = .ok (.invokevirtual 60, 3) := by decide +kernel
theorem dX10_seenMark_16 : decode cX10_seenMark 16 = .ok (.iload_n 1, 1) := by decide +kernel
theorem dX10_seenMark_17 : decode cX10_seenMark 17 = .ok (.if_icmp .ne 10, 3) := by decide +kernel
theorem dX10_seenMark_20 : decode cX10_seenMark 20 = .ok (.aload_n 0, 1) := by decide +kernel
theorem dX10_seenMark_21 : decode cX10_seenMark 21 = .ok (.getfield 43, 3) := by decide +kernel
theorem dX10_seenMark_24 : decode cX10_seenMark 24 = .ok (.iload_n 3, 1) := by decide +kernel
theorem dX10_seenMark_25 : decode cX10_seenMark 25 = .ok (.iaload, 1) := by decide +kernel
theorem dX10_seenMark_26 : decode cX10_seenMark 26 = .ok (.ireturn, 1) := by decide +kernel
theorem dX10_seenMark_27 : decode cX10_seenMark 27 = .ok (.iinc 3 1, 3) := by decide +kernel
theorem dX10_seenMark_30 : decode cX10_seenMark 30 = .ok (.goto (-28), 3) := by decide +kernel
theorem dX10_seenMark_33 : decode cX10_seenMark 33 = .ok (.aload_n 0, 1) := by decide +kernel
theorem dX10_seenMark_34 : decode cX10_seenMark 34 = .ok (.iload_n 1, 1) := by decide +kernel
theorem dX10_seenMark_35 : decode cX10_seenMark 35 = .ok (.invokevirtual 63, 3) := by decide +kernel
theorem dX10_seenMark_38 : decode cX10_seenMark 38 = .ok (.ifCond .eq 12, 3) := by decide +kernel
theorem dX10_seenMark_41 : decode cX10_seenMark 41 = .ok (.aload_n 0, 1) := by decide +kernel
theorem dX10_seenMark_42 : decode cX10_seenMark 42 = .ok (.getfield 27, 3) := by decide +kernel
theorem dX10_seenMark_45 : decode cX10_seenMark 45 = .ok (.iload_n 1, 1) := by decide +kernel
theorem dX10_seenMark_46 : decode cX10_seenMark 46 = .ok (.iaload, 1) := by decide +kernel
theorem dX10_seenMark_47 : decode cX10_seenMark 47 = .ok (.goto 4, 3) := by decide +kernel
theorem dX10_seenMark_50 : decode cX10_seenMark 50 = .ok (.iconst 0, 1) := by decide +kernel
theorem dX10_seenMark_51 : decode cX10_seenMark 51 = .ok (.ireturn, 1) := by decide +kernel
theorem dX10_countOwnMarks_0 : decode cX10_countOwnMarks 0 = .ok (.iconst 0, 1) := by decide +kernel
theorem dX10_countOwnMarks_1 : decode cX10_countOwnMarks 1 = .ok (.istore_n 1, 1) := by decide +kernel
theorem dX10_countOwnMarks_2 : decode cX10_countOwnMarks 2 = .ok (.iconst 0, 1) := by decide +kernel
theorem dX10_countOwnMarks_3 : decode cX10_countOwnMarks 3 = .ok (.istore_n 2, 1) := by decide +kernel
theorem dX10_countOwnMarks_4 : decode cX10_countOwnMarks 4 = .ok (.iload_n 2, 1) := by decide +kernel
theorem dX10_countOwnMarks_5 : decode cX10_countOwnMarks 5 = .ok (.aload_n 0, 1) := by decide +kernel
theorem dX10_countOwnMarks_6 : decode cX10_countOwnMarks 6 = .ok (.getfield 27, 3) := by decide +kernel
theorem dX10_countOwnMarks_9 : decode cX10_countOwnMarks 9 = .ok (.arraylength, 1) := by decide +kernel
theorem dX10_countOwnMarks_10 : decode cX10_countOwnMarks 10 = .ok (.if_icmp .ge 21, 3) := by decide +kernel
theorem dX10_countOwnMarks_13 : decode cX10_countOwnMarks 13 = .ok (.aload_n 0, 1) := by decide +kernel
theorem dX10_countOwnMarks_14 : decode cX10_countOwnMarks 14 = .ok (.getfield 27, 3) := by decide +kernel
theorem dX10_countOwnMarks_17 : decode cX10_countOwnMarks 17 = .ok (.iload_n 2, 1) := by decide +kernel
theorem dX10_countOwnMarks_18 : decode cX10_countOwnMarks 18 = .ok (.iaload, 1) := by decide +kernel
theorem dX10_countOwnMarks_19 : decode cX10_countOwnMarks 19 = .ok (.ifCond .eq 6, 3) := by decide +kernel
theorem dX10_countOwnMarks_22 : decode cX10_countOwnMarks 22 = .ok (.iinc 1 1, 3) := by decide +kernel
theorem dX10_countOwnMarks_25 : decode cX10_countOwnMarks 25 = .ok (.iinc 2 1, 3) := by decide +kernel
theorem dX10_countOwnMarks_28 : decode cX10_countOwnMarks 28 = .ok (.goto (-24), 3) := by decide +kernel
theorem dX10_countOwnMarks_31 : decode cX10_countOwnMarks 31 = .ok (.iload_n 1, 1) := by decide +kernel
theorem dX10_countOwnMarks_32 : decode cX10_countOwnMarks 32 = .ok (.ireturn, 1) := by decide +kernel
theorem dX10_copyFrom_0 : decode cX10_copyFrom 0 = .ok (.aload_n 1, 1) := by decide +kernel
theorem dX10_copyFrom_1 : decode cX10_copyFrom 1 = .ok (.getfield 27, 3) := by decide +kernel
theorem dX10_copyFrom_4 : decode cX10_copyFrom 4 = .ok (.aload_n 0, 1) := by decide +kernel
theorem dX10_copyFrom_5 : decode cX10_copyFrom 5 = .ok (.getfield 27, 3) := by decide +kernel
theorem dX10_copyFrom_8 : decode cX10_copyFrom 8 = .ok (.invokestatic 67, 3) := by decide +kernel
theorem dX10_copyFrom_11 : decode cX10_copyFrom 11 = .ok (.aload_n 1, 1) := by decide +kernel
theorem dX10_copyFrom_12 : decode cX10_copyFrom 12 = .ok (.getfield 31, 3) := by decide +kernel
theorem dX10_copyFrom_15 : decode cX10_copyFrom 15 = .ok (.aload_n 0, 1) := by decide +kernel
theorem dX10_copyFrom_16 : decode cX10_copyFrom 16 = .ok (.getfield 31, 3) := by decide +kernel
theorem dX10_copyFrom_19 : decode cX10_copyFrom 19 = .ok (.invokestatic 67, 3) := by decide +kernel
theorem dX10_copyFrom_22 : decode cX10_copyFrom 22 = .ok (.aload_n 1, 1) := by decide +kernel
theorem dX10_copyFrom_23 : decode cX10_copyFrom 23 = .ok (.getfield 34, 3) := by decide +kernel
theorem dX10_copyFrom_26 : decode cX10_copyFrom 26 = .ok (.aload_n 0, 1) := by decide +kernel
theorem dX10_copyFrom_27 : decode cX10_copyFrom 27 = .ok (.getfield 34, 3) := by decide +kernel
theorem dX10_copyFrom_30 : decode cX10_copyFrom 30 = .ok (.invokestatic 67, 3) := by decide +kernel
theorem dX10_copyFrom_33 : decode cX10_copyFrom 33 = .ok (.aload_n 1, 1) := by decide +kernel
theorem dX10_copyFrom_34 : decode cX10_copyFrom 34 = .ok (.getfield 37, 3) := by decide +kernel
theorem dX10_copyFrom_37 : decode cX10_copyFrom 37 = .ok (.aload_n 0, 1) := by decide +kernel
theorem dX10_copyFrom_38 : decode cX10_copyFrom 38 = .ok (.getfield 37, 3) := by decide +kernel
theorem dX10_copyFrom_41 : decode cX10_copyFrom 41 = .ok (.invokestatic 67, 3) := by decide +kernel
theorem dX10_copyFrom_44 : decode cX10_copyFrom 44 = .ok (.aload_n 1, 1) := by decide +kernel
theorem dX10_copyFrom_45 : decode cX10_copyFrom 45 = .ok (.getfield 40, 3) := by decide +kernel
theorem dX10_copyFrom_48 : decode cX10_copyFrom 48 = .ok (.aload_n 0, 1) := by decide +kernel
theorem dX10_copyFrom_49 : decode cX10_copyFrom 49 = .ok (.getfield 40, 3) := by decide +kernel
theorem dX10_copyFrom_52 : decode cX10_copyFrom 52 = .ok (.invokestatic 67, 3) := by decide +kernel
theorem dX10_copyFrom_55 : decode cX10_copyFrom 55 = .ok (.aload_n 1, 1) := by decide +kernel
theorem dX10_copyFrom_56 : decode cX10_copyFrom 56 = .ok (.getfield 43, 3) := by decide +kernel
theorem dX10_copyFrom_59 : decode cX10_copyFrom 59 = .ok (.aload_n 0, 1) := by decide +kernel
theorem dX10_copyFrom_60 : decode cX10_copyFrom 60 = .ok (.getfield 43, 3) := by decide +kernel
theorem dX10_copyFrom_63 : decode cX10_copyFrom 63 = .ok (.invokestatic 67, 3) := by decide +kernel
theorem dX10_copyFrom_66 : decode cX10_copyFrom 66 = .ok (.aload_n 0, 1) := by decide +kernel
theorem dX10_copyFrom_67 : decode cX10_copyFrom 67 = .ok (.aload_n 1, 1) := by decide +kernel
theorem dX10_copyFrom_68 : decode cX10_copyFrom 68 = .ok (.getfield 50, 3) := by decide +kernel
theorem dX10_copyFrom_71 : decode cX10_copyFrom 71 = .ok (.putfield 50, 3) := by decide +kernel
theorem dX10_copyFrom_74 : decode cX10_copyFrom 74 = .ok (.return_, 1) := by decide +kernel
theorem dX11_init_0 : decode cX11_init 0 = .ok (.aload_n 0, 1) := by decide +kernel
theorem dX11_init_1 : decode cX11_init 1 = .ok (.invokespecial 3, 3) := by decide +kernel
theorem dX11_init_4 : decode cX11_init 4 = .ok (.aload_n 0, 1) := by decide +kernel
theorem dX11_init_5 : decode cX11_init 5 = .ok (.new 9, 3) := by decide +kernel
theorem dX11_init_8 : decode cX11_init 8 = .ok (.dup, 1) := by decide +kernel
theorem dX11_init_9 : decode cX11_init 9 = .ok (.iload_n 1, 1) := by decide +kernel
theorem dX11_init_10 : decode cX11_init 10 = .ok (.iload_n 2, 1) := by decide +kernel
theorem dX11_init_11 : decode cX11_init 11 = .ok (.invokespecial 11, 3) := by decide +kernel
theorem dX11_init_14 : decode cX11_init 14 = .ok (.putfield 14, 3) := by decide +kernel
theorem dX11_init_17 : decode cX11_init 17 = .ok (.aload_n 0, 1) := by decide +kernel
theorem dX11_init_18 : decode cX11_init 18 = .ok (.new 9, 3) := by decide +kernel
theorem dX11_init_21 : decode cX11_init 21 = .ok (.dup, 1) := by decide +kernel
theorem dX11_init_22 : decode cX11_init 22 = .ok (.iload_n 1, 1) := by decide +kernel
theorem dX11_init_23 : decode cX11_init 23 = .ok (.iload_n 2, 1) := by decide +kernel
theorem dX11_init_24 : decode cX11_init 24 = .ok (.invokespecial 11, 3) := by decide +kernel
theorem dX11_init_27 : decode cX11_init 27 = .ok (.putfield 18, 3) := by decide +kernel
theorem dX11_init_30 : decode cX11_init 30 = .ok (.aload_n 0, 1) := by decide +kernel
theorem dX11_init_31 : decode cX11_init 31 = .ok (.new 21, 3) := by decide +kernel
theorem dX11_init_34 : decode cX11_init 34 = .ok (.dup, 1) := by decide +kernel
theorem dX11_init_35 : decode cX11_init 35 = .ok (.aload_n 0, 1) := by decide +kernel
theorem dX11_init_36 : decode cX11_init 36 = .ok (.getfield 14, 3) := by decide +kernel
theorem dX11_init_39 : decode cX11_init 39 = .ok (.getfield 23, 3) := by decide +kernel
theorem dX11_init_42 : decode cX11_init 42 = .ok (.invokespecial 27, 3) := by decide +kernel
theorem dX11_init_45 : decode cX11_init 45 = .ok (.putfield 30, 3) := by decide +kernel
theorem dX11_init_48 : decode cX11_init 48 = .ok (.aload_n 0, 1) := by decide +kernel
theorem dX11_init_49 : decode cX11_init 49 = .ok (.new 34, 3) := by decide +kernel
theorem dX11_init_52 : decode cX11_init 52 = .ok (.dup, 1) := by decide +kernel
theorem dX11_init_53 : decode cX11_init 53 = .ok (.aload_n 0, 1) := by decide +kernel
theorem dX11_init_54 : decode cX11_init 54 = .ok (.getfield 14, 3) := by decide +kernel
theorem dX11_init_57 : decode cX11_init 57 = .ok (.aload_n 0, 1) := by decide +kernel
theorem dX11_init_58 : decode cX11_init 58 = .ok (.getfield 30, 3) := by decide +kernel
theorem dX11_init_61 : decode cX11_init 61 = .ok (.invokespecial 36, 3) := by decide +kernel
theorem dX11_init_64 : decode cX11_init 64 = .ok (.putfield 39, 3) := by decide +kernel
theorem dX11_init_67 : decode cX11_init 67 = .ok (.aload_n 0, 1) := by decide +kernel
theorem dX11_init_68 : decode cX11_init 68 = .ok (.new 43, 3) := by decide +kernel
theorem dX11_init_71 : decode cX11_init 71 = .ok (.dup, 1) := by decide +kernel
theorem dX11_init_72 : decode cX11_init 72 = .ok (.invokespecial 45, 3) := by decide +kernel
theorem dX11_init_75 : decode cX11_init 75 = .ok (.putfield 46, 3) := by decide +kernel
theorem dX11_init_78 : decode cX11_init 78 = .ok (.aload_n 0, 1) := by decide +kernel
theorem dX11_init_79 : decode cX11_init 79 = .ok (.sipush 300, 3) := by decide +kernel
theorem dX11_init_82 : decode cX11_init 82 = .ok (.newarray .int, 2) := by decide +kernel
theorem dX11_init_84 : decode cX11_init 84 = .ok (.putfield 50, 3) := by decide +kernel
theorem dX11_init_87 : decode cX11_init 87 = .ok (.aload_n 0, 1) := by decide +kernel
theorem dX11_init_88 : decode cX11_init 88 = .ok (.bipush 16, 2) := by decide +kernel
theorem dX11_init_90 : decode cX11_init 90 = .ok (.newarray .int, 2) := by decide +kernel
theorem dX11_init_92 : decode cX11_init 92 = .ok (.putfield 54, 3) := by decide +kernel
theorem dX11_init_95 : decode cX11_init 95 = .ok (.return_, 1) := by decide +kernel
theorem dX11_mark_0 : decode cX11_mark 0 = .ok (.aload_n 0, 1) := by decide +kernel
theorem dX11_mark_1 : decode cX11_mark 1 = .ok (.getfield 14, 3) := by decide +kernel
theorem dX11_mark_4 : decode cX11_mark 4 = .ok (.getfield 23, 3) := by decide +kernel
theorem dX11_mark_7 : decode cX11_mark 7 = .ok (.iload_n 1, 1) := by decide +kernel
theorem dX11_mark_8 : decode cX11_mark 8 = .ok (.invokevirtual 57, 3) := by decide +kernel
theorem dX11_mark_11 : decode cX11_mark 11 = .ok (.ifCond .eq 14, 3) := by decide +kernel
theorem dX11_mark_14 : decode cX11_mark 14 = .ok (.iload_n 2, 1) := by decide +kernel
theorem dX11_mark_15 : decode cX11_mark 15 = .ok (.iconst 0, 1) := by decide +kernel
theorem dX11_mark_16 : decode cX11_mark 16 = .ok (.sipush 255, 3) := by decide +kernel
theorem dX11_mark_19 : decode cX11_mark 19 = .ok (.invokestatic 63, 3) := by decide +kernel
theorem dX11_mark_22 : decode cX11_mark 22 = .ok (.ifCond .ne 5, 3) := by decide +kernel
theorem dX11_mark_25 : decode cX11_mark 25 = .ok (.iconst 0, 1) := by decide +kernel
theorem dX11_mark_26 : decode cX11_mark 26 = .ok (.ireturn, 1) := by decide +kernel
theorem dX11_mark_27 : decode cX11_mark 27 = .ok (.aload_n 0, 1) := by decide +kernel
theorem dX11_mark_28 : decode cX11_mark 28 = .ok (.getfield 14, 3) := by decide +kernel
theorem dX11_mark_31 : decode cX11_mark 31 = .ok (.getfield 23, 3) := by decide +kernel
theorem dX11_mark_34 : decode cX11_mark 34 = .ok (.getfield 67, 3) := by decide +kernel
theorem dX11_mark_37 : decode cX11_mark 37 = .ok (.iload_n 1, 1) := by decide +kernel
theorem dX11_mark_38 : decode cX11_mark 38 = .ok (.iload_n 2, 1) := by decide +kernel
theorem dX11_mark_39 : decode cX11_mark 39 = .ok (.iastore, 1) := by decide +kernel
theorem dX11_mark_40 : decode cX11_mark 40 = .ok (.iconst 1, 1) := by decide +kernel
theorem dX11_mark_41 : decode cX11_mark 41 = .ok (.ireturn, 1) := by decide +kernel
theorem dX11_body_0 : decode cX11_body 0 = .ok (.aload_n 0, 1) := by decide +kernel
theorem dX11_body_1 : decode cX11_body 1 = .ok (.getfield 14, 3) := by decide +kernel
theorem dX11_body_4 : decode cX11_body 4 = .ok (.getfield 23, 3) := by decide +kernel
theorem dX11_body_7 : decode cX11_body 7 = .ok (.astore 5, 2) := by decide +kernel
theorem dX11_body_9 : decode cX11_body 9 = .ok (.aload 5, 2) := by decide +kernel
