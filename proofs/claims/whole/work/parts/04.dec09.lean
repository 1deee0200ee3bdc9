theorem dX12_compareOf_14 : decode cX12_compareOf 14 = .ok (.aload_n 0, 1) := by decide +kernel
theorem dX12_compareOf_15 : decode cX12_compareOf 15 = .ok (.getfield 151, 3) := by decide +kernel
theorem dX12_compareOf_18 : decode cX12_compareOf 18 = .ok (.iconst 4, 1) := by decide +kernel
theorem dX12_compareOf_19 : decode cX12_compareOf 19 = .ok (.if_icmp .ne 8, 3) := by decide +kernel
theorem dX12_compareOf_22 : decode cX12_compareOf 22 = .ok (.bipush 11, 2) := by decide +kernel
theorem dX12_compareOf_24 : decode cX12_compareOf 24 = .ok (.goto 59, 3) := by decide +kernel
theorem dX12_compareOf_27 : decode cX12_compareOf 27 = .ok (.aload_n 0, 1) := by decide +kernel
theorem dX12_compareOf_28 : decode cX12_compareOf 28 = .ok (.getfield 151, 3) := by decide +kernel
theorem dX12_compareOf_31 : decode cX12_compareOf 31 = .ok (.bipush 62, 2) := by decide +kernel
theorem dX12_compareOf_33 : decode cX12_compareOf 33 = .ok (.if_icmp .ne 8, 3) := by decide +kernel
theorem dX12_compareOf_36 : decode cX12_compareOf 36 = .ok (.bipush 12, 2) := by decide +kernel
theorem dX12_compareOf_38 : decode cX12_compareOf 38 = .ok (.goto 45, 3) := by decide +kernel
theorem dX12_compareOf_41 : decode cX12_compareOf 41 = .ok (.aload_n 0, 1) := by decide +kernel
theorem dX12_compareOf_42 : decode cX12_compareOf 42 = .ok (.getfield 151, 3) := by decide +kernel
theorem dX12_compareOf_45 : decode cX12_compareOf 45 = .ok (.iconst 5, 1) := by decide +kernel
theorem dX12_compareOf_46 : decode cX12_compareOf 46 = .ok (.if_icmp .ne 8, 3) := by decide +kernel
theorem dX12_compareOf_49 : decode cX12_compareOf 49 = .ok (.bipush 13, 2) := by decide +kernel
theorem dX12_compareOf_51 : decode cX12_compareOf 51 = .ok (.goto 32, 3) := by decide +kernel
theorem dX12_compareOf_54 : decode cX12_compareOf 54 = .ok (.aload_n 0, 1) := by decide +kernel
theorem dX12_compareOf_55 : decode cX12_compareOf 55 = .ok (.getfield 151, 3) := by decide +kernel
theorem dX12_compareOf_58 : decode cX12_compareOf 58 = .ok (.bipush 61, 2) := by decide +kernel
theorem dX12_compareOf_60 : decode cX12_compareOf 60 = .ok (.if_icmp .ne 8, 3) := by decide +kernel
theorem dX12_compareOf_63 : decode cX12_compareOf 63 = .ok (.bipush 14, 2) := by decide +kernel
theorem dX12_compareOf_65 : decode cX12_compareOf 65 = .ok (.goto 18, 3) := by decide +kernel
theorem dX12_compareOf_68 : decode cX12_compareOf 68 = .ok (.aload_n 0, 1) := by decide +kernel
theorem dX12_compareOf_69 : decode cX12_compareOf 69 = .ok (.getfield 151, 3) := by decide +kernel
theorem dX12_compareOf_72 : decode cX12_compareOf 72 = .ok (.bipush 35, 2) := by decide +kernel
theorem dX12_compareOf_74 : decode cX12_compareOf 74 = .ok (.if_icmp .ne 8, 3) := by decide +kernel
theorem dX12_compareOf_77 : decode cX12_compareOf 77 = .ok (.bipush 15, 2) := by decide +kernel
theorem dX12_compareOf_79 : decode cX12_compareOf 79 = .ok (.goto 4, 3) := by decide +kernel
theorem dX12_compareOf_82 : decode cX12_compareOf 82 = .ok (.iconst (-1), 1) := by decide +kernel
theorem dX12_compareOf_83 : decode cX12_compareOf 83 = .ok (.ireturn, 1) := by decide +kernel
theorem dX12_ask_0 : decode cX12_ask 0 = .ok (.iconst 0, 1) := by decide +kernel
theorem dX12_ask_1 : decode cX12_ask 1 = .ok (.istore_n 1, 1) := by decide +kernel
theorem dX12_ask_2 : decode cX12_ask 2 = .ok (.aload_n 0, 1) := by decide +kernel
theorem dX12_ask_3 : decode cX12_ask 3 = .ok (.bipush 110, 2) := by decide +kernel
theorem dX12_ask_5 : decode cX12_ask 5 = .ok (.bipush 111, 2) := by decide +kernel
theorem dX12_ask_7 : decode cX12_ask 7 = .ok (.bipush 116, 2) := by decide +kernel
theorem dX12_ask_9 : decode cX12_ask 9 = .ok (.invokestatic 168, 3) := by decide +kernel
theorem dX12_ask_12 : decode cX12_ask 12 = .ok (.invokevirtual 217, 3) := by decide +kernel
theorem dX12_ask_15 : decode cX12_ask 15 = .ok (.ifCond .eq 34, 3) := by decide +kernel
theorem dX12_ask_18 : decode cX12_ask 18 = .ok (.aload_n 0, 1) := by decide +kernel
theorem dX12_ask_19 : decode cX12_ask 19 = .ok (.getfield 189, 3) := by decide +kernel
theorem dX12_ask_22 : decode cX12_ask 22 = .ok (.bipush 8, 2) := by decide +kernel
theorem dX12_ask_24 : decode cX12_ask 24 = .ok (.if_icmp .ne 5, 3) := by decide +kernel
theorem dX12_ask_27 : decode cX12_ask 27 = .ok (.iconst 3, 1) := by decide +kernel
theorem dX12_ask_28 : decode cX12_ask 28 = .ok (.ireturn, 1) := by decide +kernel
theorem dX12_ask_29 : decode cX12_ask 29 = .ok (.aload_n 0, 1) := by decide +kernel
theorem dX12_ask_30 : decode cX12_ask 30 = .ok (.dup, 1) := by decide +kernel
theorem dX12_ask_31 : decode cX12_ask 31 = .ok (.getfield 189, 3) := by decide +kernel
theorem dX12_ask_34 : decode cX12_ask 34 = .ok (.iconst 1, 1) := by decide +kernel
theorem dX12_ask_35 : decode cX12_ask 35 = .ok (.iadd, 1) := by decide +kernel
theorem dX12_ask_36 : decode cX12_ask 36 = .ok (.putfield 189, 3) := by decide +kernel
theorem dX12_ask_39 : decode cX12_ask 39 = .ok (.iinc 1 1, 3) := by decide +kernel
theorem dX12_ask_42 : decode cX12_ask 42 = .ok (.aload_n 0, 1) := by decide +kernel
theorem dX12_ask_43 : decode cX12_ask 43 = .ok (.invokevirtual 200, 3) := by decide +kernel
theorem dX12_ask_46 : decode cX12_ask 46 = .ok (.goto (-44), 3) := by decide +kernel
theorem dX12_ask_49 : decode cX12_ask 49 = .ok (.aload_n 0, 1) := by decide +kernel
theorem dX12_ask_50 : decode cX12_ask 50 = .ok (.invokevirtual 243, 3) := by decide +kernel
theorem dX12_ask_53 : decode cX12_ask 53 = .ok (.istore_n 2, 1) := by decide +kernel
theorem dX12_ask_54 : decode cX12_ask 54 = .ok (.iload_n 2, 1) := by decide +kernel
theorem dX12_ask_55 : decode cX12_ask 55 = .ok (.ifCond .eq 5, 3) := by decide +kernel
theorem dX12_ask_58 : decode cX12_ask 58 = .ok (.iload_n 2, 1) := by decide +kernel
theorem dX12_ask_59 : decode cX12_ask 59 = .ok (.ireturn, 1) := by decide +kernel
theorem dX12_ask_60 : decode cX12_ask 60 = .ok (.aload_n 0, 1) := by decide +kernel
theorem dX12_ask_61 : decode cX12_ask 61 = .ok (.invokevirtual 246, 3) := by decide +kernel
theorem dX12_ask_64 : decode cX12_ask 64 = .ok (.istore_n 3, 1) := by decide +kernel
theorem dX12_ask_65 : decode cX12_ask 65 = .ok (.iload_n 3, 1) := by decide +kernel
theorem dX12_ask_66 : decode cX12_ask 66 = .ok (.ifCond .ge 5, 3) := by decide +kernel
theorem dX12_ask_69 : decode cX12_ask 69 = .ok (.iconst 1, 1) := by decide +kernel
theorem dX12_ask_70 : decode cX12_ask 70 = .ok (.ireturn, 1) := by decide +kernel
theorem dX12_ask_71 : decode cX12_ask 71 = .ok (.aload_n 0, 1) := by decide +kernel
theorem dX12_ask_72 : decode cX12_ask 72 = .ok (.invokevirtual 200, 3) := by decide +kernel
theorem dX12_ask_75 : decode cX12_ask 75 = .ok (.aload_n 0, 1) := by decide +kernel
theorem dX12_ask_76 : decode cX12_ask 76 = .ok (.invokevirtual 243, 3) := by decide +kernel
theorem dX12_ask_79 : decode cX12_ask 79 = .ok (.istore_n 2, 1) := by decide +kernel
theorem dX12_ask_80 : decode cX12_ask 80 = .ok (.iload_n 2, 1) := by decide +kernel
theorem dX12_ask_81 : decode cX12_ask 81 = .ok (.ifCond .eq 5, 3) := by decide +kernel
theorem dX12_ask_84 : decode cX12_ask 84 = .ok (.iload_n 2, 1) := by decide +kernel
theorem dX12_ask_85 : decode cX12_ask 85 = .ok (.ireturn, 1) := by decide +kernel
theorem dX12_ask_86 : decode cX12_ask 86 = .ok (.aload_n 0, 1) := by decide +kernel
theorem dX12_ask_87 : decode cX12_ask 87 = .ok (.iload_n 3, 1) := by decide +kernel
theorem dX12_ask_88 : decode cX12_ask 88 = .ok (.iconst 0, 1) := by decide +kernel
theorem dX12_ask_89 : decode cX12_ask 89 = .ok (.invokevirtual 192, 3) := by decide +kernel
theorem dX12_ask_92 : decode cX12_ask 92 = .ok (.aload_n 0, 1) := by decide +kernel
theorem dX12_ask_93 : decode cX12_ask 93 = .ok (.dup, 1) := by decide +kernel
theorem dX12_ask_94 : decode cX12_ask 94 = .ok (.getfield 189, 3) := by decide +kernel
theorem dX12_ask_97 : decode cX12_ask 97 = .ok (.iload_n 1, 1) := by decide +kernel
theorem dX12_ask_98 : decode cX12_ask 98 = .ok (.isub, 1) := by decide +kernel
theorem dX12_ask_99 : decode cX12_ask 99 = .ok (.putfield 189, 3) := by decide +kernel
theorem dX12_ask_102 : decode cX12_ask 102 = .ok (.iconst 0, 1) := by decide +kernel
theorem dX12_ask_103 : decode cX12_ask 103 = .ok (.istore 4, 2) := by decide +kernel
theorem dX12_ask_105 : decode cX12_ask 105 = .ok (.iload 4, 2) := by decide +kernel
theorem dX12_ask_107 : decode cX12_ask 107 = .ok (.iload_n 1, 1) := by decide +kernel
theorem dX12_ask_108 : decode cX12_ask 108 = .ok (.if_icmp .ge 16, 3) := by decide +kernel
theorem dX12_ask_111 : decode cX12_ask 111 = .ok (.aload_n 0, 1) := by decide +kernel
theorem dX12_ask_112 : decode cX12_ask 112 = .ok (.bipush 20, 2) := by decide +kernel
theorem dX12_ask_114 : decode cX12_ask 114 = .ok (.iconst 0, 1) := by decide +kernel
theorem dX12_ask_115 : decode cX12_ask 115 = .ok (.invokevirtual 192, 3) := by decide +kernel
theorem dX12_ask_118 : decode cX12_ask 118 = .ok (.iinc 4 1, 3) := by decide +kernel
theorem dX12_ask_121 : decode cX12_ask 121 = .ok (.goto (-16), 3) := by decide +kernel
theorem dX12_ask_124 : decode cX12_ask 124 = .ok (.iconst 0, 1) := by decide +kernel
theorem dX12_ask_125 : decode cX12_ask 125 = .ok (.ireturn, 1) := by decide +kernel
theorem dX12_either_0 : decode cX12_either 0 = .ok (.iconst 0, 1) := by decide +kernel
theorem dX12_either_1 : decode cX12_either 1 = .ok (.istore_n 1, 1) := by decide +kernel
theorem dX12_either_2 : decode cX12_either 2 = .ok (.iconst 0, 1) := by decide +kernel
theorem dX12_either_3 : decode cX12_either 3 = .ok (.istore_n 2, 1) := by decide +kernel
theorem dX12_either_4 : decode cX12_either 4 = .ok (.iconst 1, 1) := by decide +kernel
theorem dX12_either_5 : decode cX12_either 5 = .ok (.istore_n 3, 1) := by decide +kernel
theorem dX12_either_6 : decode cX12_either 6 = .ok (.iload_n 3, 1) := by decide +kernel
theorem dX12_either_7 : decode cX12_either 7 = .ok (.ifCond .eq 112, 3) := by decide +kernel
theorem dX12_either_10 : decode cX12_either 10 = .ok (.aload_n 0, 1) := by decide +kernel
theorem dX12_either_11 : decode cX12_either 11 = .ok (.invokevirtual 249, 3) := by decide +kernel
theorem dX12_either_14 : decode cX12_either 14 = .ok (.istore 4, 2) := by decide +kernel
theorem dX12_either_16 : decode cX12_either 16 = .ok (.iload 4, 2) := by decide +kernel
theorem dX12_either_18 : decode cX12_either 18 = .ok (.ifCond .eq 6, 3) := by decide +kernel
theorem dX12_either_21 : decode cX12_either 21 = .ok (.iload 4, 2) := by decide +kernel
theorem dX12_either_23 : decode cX12_either 23 = .ok (.ireturn, 1) := by decide +kernel
theorem dX12_either_24 : decode cX12_either 24 = .ok (.iload_n 1, 1) := by decide +kernel
theorem dX12_either_25 : decode cX12_either 25 = .ok (.ifCond .eq 10, 3) := by decide +kernel
theorem dX12_either_28 : decode cX12_either 28 = .ok (.aload_n 0, 1) := by decide +kernel
theorem dX12_either_29 : decode cX12_either 29 = .ok (.bipush 21, 2) := by decide +kernel
theorem dX12_either_31 : decode cX12_either 31 = .ok (.iconst 0, 1) := by decide +kernel
theorem dX12_either_32 : decode cX12_either 32 = .ok (.invokevirtual 192, 3) := by decide +kernel
theorem dX12_either_35 : decode cX12_either 35 = .ok (.aload_n 0, 1) := by decide +kernel
theorem dX12_either_36 : decode cX12_either 36 = .ok (.bipush 97, 2) := by decide +kernel
theorem dX12_either_38 : decode cX12_either 38 = .ok (.bipush 110, 2) := by decide +kernel
theorem dX12_either_40 : decode cX12_either 40 = .ok (.bipush 100, 2) := by decide +kernel
theorem dX12_either_42 : decode cX12_either 42 = .ok (.invokestatic 168, 3) := by decide +kernel
theorem dX12_either_45 : decode cX12_either 45 = .ok (.invokevirtual 217, 3) := by decide +kernel
theorem dX12_either_48 : decode cX12_either 48 = .ok (.istore_n 1, 1) := by decide +kernel
theorem dX12_either_49 : decode cX12_either 49 = .ok (.aload_n 0, 1) := by decide +kernel
theorem dX12_either_50 : decode cX12_either 50 = .ok (.getfield 151, 3) := by decide +kernel
theorem dX12_either_53 : decode cX12_either 53 = .ok (.iconst 2, 1) := by decide +kernel
theorem dX12_either_54 : decode cX12_either 54 = .ok (.if_icmp .ne 18, 3) := by decide +kernel
theorem dX12_either_57 : decode cX12_either 57 = .ok (.aload_n 0, 1) := by decide +kernel
theorem dX12_either_58 : decode cX12_either 58 = .ok (.getfield 164, 3) := by decide +kernel
theorem dX12_either_61 : decode cX12_either 61 = .ok (.ldc2_w 252, 3) := by decide +kernel
theorem dX12_either_64 : decode cX12_either 64 = .ok (.lcmp, 1) := by decide +kernel
theorem dX12_either_65 : decode cX12_either 65 = .ok (.ifCond .ne 7, 3) := by decide +kernel
theorem dX12_either_68 : decode cX12_either 68 = .ok (.iconst 1, 1) := by decide +kernel
theorem dX12_either_69 : decode cX12_either 69 = .ok (.goto 4, 3) := by decide +kernel
theorem dX12_either_72 : decode cX12_either 72 = .ok (.iconst 0, 1) := by decide +kernel
theorem dX12_either_73 : decode cX12_either 73 = .ok (.istore 5, 2) := by decide +kernel
theorem dX12_either_75 : decode cX12_either 75 = .ok (.iload_n 1, 1) := by decide +kernel
theorem dX12_either_76 : decode cX12_either 76 = .ok (.ifCond .ne 17, 3) := by decide +kernel
theorem dX12_either_79 : decode cX12_either 79 = .ok (.iload_n 2, 1) := by decide +kernel
theorem dX12_either_80 : decode cX12_either 80 = .ok (.ifCond .eq 10, 3) := by decide +kernel
theorem dX12_either_83 : decode cX12_either 83 = .ok (.aload_n 0, 1) := by decide +kernel
theorem dX12_either_84 : decode cX12_either 84 = .ok (.bipush 22, 2) := by decide +kernel
theorem dX12_either_86 : decode cX12_either 86 = .ok (.iconst 0, 1) := by decide +kernel
theorem dX12_either_87 : decode cX12_either 87 = .ok (.invokevirtual 192, 3) := by decide +kernel
theorem dX12_either_90 : decode cX12_either 90 = .ok (.iload 5, 2) := by decide +kernel
theorem dX12_either_92 : decode cX12_either 92 = .ok (.istore_n 2, 1) := by decide +kernel
theorem dX12_either_93 : decode cX12_either 93 = .ok (.iload_n 1, 1) := by decide +kernel
theorem dX12_either_94 : decode cX12_either 94 = .ok (.ifCond .ne 8, 3) := by decide +kernel
theorem dX12_either_97 : decode cX12_either 97 = .ok (.iload 5, 2) := by decide +kernel
theorem dX12_either_99 : decode cX12_either 99 = .ok (.ifCond .eq 7, 3) := by decide +kernel
theorem dX12_either_102 : decode cX12_either 102 = .ok (.iconst 1, 1) := by decide +kernel
theorem dX12_either_103 : decode cX12_either 103 = .ok (.goto 4, 3) := by decide +kernel
theorem dX12_either_106 : decode cX12_either 106 = .ok (.iconst 0, 1) := by decide +kernel
theorem dX12_either_107 : decode cX12_either 107 = .ok (.istore_n 3, 1) := by decide +kernel
theorem dX12_either_108 : decode cX12_either 108 = .ok (.iload_n 3, 1) := by decide +kernel
theorem dX12_either_109 : decode cX12_either 109 = .ok (.ifCond .eq 7, 3) := by decide +kernel
theorem dX12_either_112 : decode cX12_either 112 = .ok (.aload_n 0, 1) := by decide +kernel
theorem dX12_either_113 : decode cX12_either 113 = .ok (.invokevirtual 200, 3) := by decide +kernel
theorem dX12_either_116 : decode cX12_either 116 = .ok (.goto (-110), 3) := by decide +kernel
theorem dX12_either_119 : decode cX12_either 119 = .ok (.iconst 0, 1) := by decide +kernel
theorem dX12_either_120 : decode cX12_either 120 = .ok (.ireturn, 1) := by decide +kernel
theorem dX12_sortOf_0 : decode cX12_sortOf 0 = .ok (.aload_n 0, 1) := by decide +kernel
theorem dX12_sortOf_1 : decode cX12_sortOf 1 = .ok (.getfield 151, 3) := by decide +kernel
theorem dX12_sortOf_4 : decode cX12_sortOf 4 = .ok (.iconst 2, 1) := by decide +kernel
theorem dX12_sortOf_5 : decode cX12_sortOf 5 = .ok (.if_icmp .eq 5, 3) := by decide +kernel
theorem dX12_sortOf_8 : decode cX12_sortOf 8 = .ok (.iconst 0, 1) := by decide +kernel
theorem dX12_sortOf_9 : decode cX12_sortOf 9 = .ok (.ireturn, 1) := by decide +kernel
theorem dX12_sortOf_10 : decode cX12_sortOf 10 = .ok (.aload_n 0, 1) := by decide +kernel
theorem dX12_sortOf_11 : decode cX12_sortOf 11 = .ok (.getfield 164, 3) := by decide +kernel
theorem dX12_sortOf_14 : decode cX12_sortOf 14 = .ok (.bipush 108, 2) := by decide +kernel
theorem dX12_sortOf_16 : decode cX12_sortOf 16 = .ok (.bipush 101, 2) := by decide +kernel
theorem dX12_sortOf_18 : decode cX12_sortOf 18 = .ok (.bipush 116, 2) := by decide +kernel
theorem dX12_sortOf_20 : decode cX12_sortOf 20 = .ok (.invokestatic 168, 3) := by decide +kernel
theorem dX12_sortOf_23 : decode cX12_sortOf 23 = .ok (.lcmp, 1) := by decide +kernel
theorem dX12_sortOf_24 : decode cX12_sortOf 24 = .ok (.ifCond .ne 5, 3) := by decide +kernel
theorem dX12_sortOf_27 : decode cX12_sortOf 27 = .ok (.iconst 1, 1) := by decide +kernel
theorem dX12_sortOf_28 : decode cX12_sortOf 28 = .ok (.ireturn, 1) := by decide +kernel
theorem dX12_sortOf_29 : decode cX12_sortOf 29 = .ok (.aload_n 0, 1) := by decide +kernel
theorem dX12_sortOf_30 : decode cX12_sortOf 30 = .ok (.getfield 164, 3) := by decide +kernel
theorem dX12_sortOf_33 : decode cX12_sortOf 33 = .ok (.bipush 116, 2) := by decide +kernel
theorem dX12_sortOf_35 : decode cX12_sortOf 35 = .ok (.bipush 117, 2) := by decide +kernel
theorem dX12_sortOf_37 : decode cX12_sortOf 37 = .ok (.bipush 114, 2) := by decide +kernel
theorem dX12_sortOf_39 : decode cX12_sortOf 39 = .ok (.bipush 110, 2) := by decide +kernel
theorem dX12_sortOf_41 : decode cX12_sortOf 41 = .ok (.invokestatic 213, 3) := by decide +kernel
theorem dX12_sortOf_44 : decode cX12_sortOf 44 = .ok (.lcmp, 1) := by decide +kernel
theorem dX12_sortOf_45 : decode cX12_sortOf 45 = .ok (.ifCond .ne 5, 3) := by decide +kernel
theorem dX12_sortOf_48 : decode cX12_sortOf 48 = .ok (.iconst 2, 1) := by decide +kernel
theorem dX12_sortOf_49 : decode cX12_sortOf 49 = .ok (.ireturn, 1) := by decide +kernel
theorem dX12_sortOf_50 : decode cX12_sortOf 50 = .ok (.aload_n 0, 1) := by decide +kernel
theorem dX12_sortOf_51 : decode cX12_sortOf 51 = .ok (.getfield 164, 3) := by decide +kernel
theorem dX12_sortOf_54 : decode cX12_sortOf 54 = .ok (.ldc2_w 254, 3) := by decide +kernel
theorem dX12_sortOf_57 : decode cX12_sortOf 57 = .ok (.lcmp, 1) := by decide +kernel
theorem dX12_sortOf_58 : decode cX12_sortOf 58 = .ok (.ifCond .ne 7, 3) := by decide +kernel
theorem dX12_sortOf_61 : decode cX12_sortOf 61 = .ok (.iconst 3, 1) := by decide +kernel
theorem dX12_sortOf_62 : decode cX12_sortOf 62 = .ok (.goto 27, 3) := by decide +kernel
theorem dX12_sortOf_65 : decode cX12_sortOf 65 = .ok (.aload_n 0, 1) := by decide +kernel
theorem dX12_sortOf_66 : decode cX12_sortOf 66 = .ok (.getfield 164, 3) := by decide +kernel
theorem dX12_sortOf_69 : decode cX12_sortOf 69 = .ok (.bipush 114, 2) := by decide +kernel
theorem dX12_sortOf_71 : decode cX12_sortOf 71 = .ok (.bipush 101, 2) := by decide +kernel
theorem dX12_sortOf_73 : decode cX12_sortOf 73 = .ok (.bipush 115, 2) := by decide +kernel
theorem dX12_sortOf_75 : decode cX12_sortOf 75 = .ok (.bipush 116, 2) := by decide +kernel
theorem dX12_sortOf_77 : decode cX12_sortOf 77 = .ok (.invokestatic 213, 3) := by decide +kernel
theorem dX12_sortOf_80 : decode cX12_sortOf 80 = .ok (.lcmp, 1) := by decide +kernel
theorem dX12_sortOf_81 : decode cX12_sortOf 81 = .ok (.ifCond .ne 7, 3) := by decide +kernel
theorem dX12_sortOf_84 : decode cX12_sortOf 84 = .ok (.iconst 4, 1) := by decide +kernel
theorem dX12_sortOf_85 : decode cX12_sortOf 85 = .ok (.goto 4, 3) := by decide +kernel
theorem dX12_sortOf_88 : decode cX12_sortOf 88 = .ok (.iconst 0, 1) := by decide +kernel
theorem dX12_sortOf_89 : decode cX12_sortOf 89 = .ok (.ireturn, 1) := by decide +kernel
theorem dX12_clause_0 : decode cX12_clause 0 = .ok (.aload_n 0, 1) := by decide +kernel
theorem dX12_clause_1 : decode cX12_clause 1 = .ok (.invokevirtual 256, 3) := by decide +kernel
theorem dX12_clause_4 : decode cX12_clause 4 = .ok (.istore_n 1, 1) := by decide +kernel
theorem dX12_clause_5 : decode cX12_clause 5 = .ok (.iload_n 1, 1) := by decide +kernel
theorem dX12_clause_6 : decode cX12_clause 6 = .ok (.ifCond .ne 5, 3) := by decide +kernel
theorem dX12_clause_9 : decode cX12_clause 9 = .ok (.iconst 1, 1) := by decide +kernel
theorem dX12_clause_10 : decode cX12_clause 10 = .ok (.ireturn, 1) := by decide +kernel
theorem dX12_clause_11 : decode cX12_clause 11 = .ok (.iload_n 1, 1) := by decide +kernel
theorem dX12_clause_12 : decode cX12_clause 12 = .ok (.iconst 1, 1) := by decide +kernel
theorem dX12_clause_13 : decode cX12_clause 13 = .ok (.if_icmp .eq 17, 3) := by decide +kernel
theorem dX12_clause_16 : decode cX12_clause 16 = .ok (.aload_n 0, 1) := by decide +kernel
theorem dX12_clause_17 : decode cX12_clause 17 = .ok (.getfield 259, 3) := by decide +kernel
theorem dX12_clause_20 : decode cX12_clause 20 = .ok (.iload_n 1, 1) := by decide +kernel
theorem dX12_clause_21 : decode cX12_clause 21 = .ok (.ishr, 1) := by decide +kernel
theorem dX12_clause_22 : decode cX12_clause 22 = .ok (.iconst 1, 1) := by decide +kernel
theorem dX12_clause_23 : decode cX12_clause 23 = .ok (.iand, 1) := by decide +kernel
theorem dX12_clause_24 : decode cX12_clause 24 = .ok (.iconst 1, 1) := by decide +kernel
theorem dX12_clause_25 : decode cX12_clause 25 = .ok (.if_icmp .ne 5, 3) := by decide +kernel
theorem dX12_clause_28 : decode cX12_clause 28 = .ok (.iconst 4, 1) := by decide +kernel
theorem dX12_clause_29 : decode cX12_clause 29 = .ok (.ireturn, 1) := by decide +kernel
theorem dX12_clause_30 : decode cX12_clause 30 = .ok (.aload_n 0, 1) := by decide +kernel
theorem dX12_clause_31 : decode cX12_clause 31 = .ok (.getfield 262, 3) := by decide +kernel
theorem dX12_clause_34 : decode cX12_clause 34 = .ok (.bipush 10, 2) := by decide +kernel
theorem dX12_clause_36 : decode cX12_clause 36 = .ok (.if_icmp .ne 6, 3) := by decide +kernel
theorem dX12_clause_39 : decode cX12_clause 39 = .ok (.bipush 6, 2) := by decide +kernel
theorem dX12_clause_41 : decode cX12_clause 41 = .ok (.ireturn, 1) := by decide +kernel
theorem dX12_clause_42 : decode cX12_clause 42 = .ok (.aload_n 0, 1) := by decide +kernel
theorem dX12_clause_43 : decode cX12_clause 43 = .ok (.dup, 1) := by decide +kernel
theorem dX12_clause_44 : decode cX12_clause 44 = .ok (.getfield 259, 3) := by decide +kernel
theorem dX12_clause_47 : decode cX12_clause 47 = .ok (.iconst 1, 1) := by decide +kernel
theorem dX12_clause_48 : decode cX12_clause 48 = .ok (.iload_n 1, 1) := by decide +kernel
theorem dX12_clause_49 : decode cX12_clause 49 = .ok (.ishl, 1) := by decide +kernel
theorem dX12_clause_50 : decode cX12_clause 50 = .ok (.ior, 1) := by decide +kernel
theorem dX12_clause_51 : decode cX12_clause 51 = .ok (.putfield 259, 3) := by decide +kernel
theorem dX12_clause_54 : decode cX12_clause 54 = .ok (.aload_n 0, 1) := by decide +kernel
theorem dX12_clause_55 : decode cX12_clause 55 = .ok (.getfield 176, 3) := by decide +kernel
theorem dX12_clause_58 : decode cX12_clause 58 = .ok (.iconst 1, 1) := by decide +kernel
theorem dX12_clause_59 : decode cX12_clause 59 = .ok (.iadd, 1) := by decide +kernel
theorem dX12_clause_60 : decode cX12_clause 60 = .ok (.iconst 4, 1) := by decide +kernel
theorem dX12_clause_61 : decode cX12_clause 61 = .ok (.aload_n 0, 1) := by decide +kernel
theorem dX12_clause_62 : decode cX12_clause 62 = .ok (.getfield 262, 3) := by decide +kernel
theorem dX12_clause_65 : decode cX12_clause 65 = .ok (.imul, 1) := by decide +kernel
theorem dX12_clause_66 : decode cX12_clause 66 = .ok (.iadd, 1) := by decide +kernel
theorem dX12_clause_67 : decode cX12_clause 67 = .ok (.istore_n 2, 1) := by decide +kernel
theorem dX12_clause_68 : decode cX12_clause 68 = .ok (.aload_n 0, 1) := by decide +kernel
theorem dX12_clause_69 : decode cX12_clause 69 = .ok (.getfield 16, 3) := by decide +kernel
theorem dX12_clause_72 : decode cX12_clause 72 = .ok (.iload_n 2, 1) := by decide +kernel
theorem dX12_clause_73 : decode cX12_clause 73 = .ok (.iload_n 1, 1) := by decide +kernel
theorem dX12_clause_74 : decode cX12_clause 74 = .ok (.iastore, 1) := by decide +kernel
theorem dX12_clause_75 : decode cX12_clause 75 = .ok (.aload_n 0, 1) := by decide +kernel
theorem dX12_clause_76 : decode cX12_clause 76 = .ok (.getfield 16, 3) := by decide +kernel
theorem dX12_clause_79 : decode cX12_clause 79 = .ok (.iload_n 2, 1) := by decide +kernel
theorem dX12_clause_80 : decode cX12_clause 80 = .ok (.iconst 2, 1) := by decide +kernel
theorem dX12_clause_81 : decode cX12_clause 81 = .ok (.iadd, 1) := by decide +kernel
theorem dX12_clause_82 : decode cX12_clause 82 = .ok (.aload_n 0, 1) := by decide +kernel
theorem dX12_clause_83 : decode cX12_clause 83 = .ok (.getfield 179, 3) := by decide +kernel
theorem dX12_clause_86 : decode cX12_clause 86 = .ok (.iastore, 1) := by decide +kernel
theorem dX12_clause_87 : decode cX12_clause 87 = .ok (.aload_n 0, 1) := by decide +kernel
theorem dX12_clause_88 : decode cX12_clause 88 = .ok (.invokevirtual 200, 3) := by decide +kernel
theorem dX12_clause_91 : decode cX12_clause 91 = .ok (.iconst 0, 1) := by decide +kernel
theorem dX12_clause_92 : decode cX12_clause 92 = .ok (.istore_n 3, 1) := by decide +kernel
theorem dX12_clause_93 : decode cX12_clause 93 = .ok (.iload_n 1, 1) := by decide +kernel
theorem dX12_clause_94 : decode cX12_clause 94 = .ok (.iconst 1, 1) := by decide +kernel
theorem dX12_clause_95 : decode cX12_clause 95 = .ok (.if_icmp .ne 50, 3) := by decide +kernel
theorem dX12_clause_98 : decode cX12_clause 98 = .ok (.aload_n 0, 1) := by decide +kernel
theorem dX12_clause_99 : decode cX12_clause 99 = .ok (.invokevirtual 206, 3) := by decide +kernel
theorem dX12_clause_102 : decode cX12_clause 102 = .ok (.istore 4, 2) := by decide +kernel
theorem dX12_clause_104 : decode cX12_clause 104 = .ok (.iload 4, 2) := by decide +kernel
theorem dX12_clause_106 : decode cX12_clause 106 = .ok (.ifCond .ge 5, 3) := by decide +kernel
theorem dX12_clause_109 : decode cX12_clause 109 = .ok (.iconst 1, 1) := by decide +kernel
theorem dX12_clause_110 : decode cX12_clause 110 = .ok (.ireturn, 1) := by decide +kernel
theorem dX12_clause_111 : decode cX12_clause 111 = .ok (.aload_n 0, 1) := by decide +kernel
theorem dX12_clause_112 : decode cX12_clause 112 = .ok (.getfield 210, 3) := by decide +kernel
theorem dX12_clause_115 : decode cX12_clause 115 = .ok (.iload 4, 2) := by decide +kernel
theorem dX12_clause_117 : decode cX12_clause 117 = .ok (.ishr, 1) := by decide +kernel
theorem dX12_clause_118 : decode cX12_clause 118 = .ok (.iconst 1, 1) := by decide +kernel
theorem dX12_clause_119 : decode cX12_clause 119 = .ok (.iand, 1) := by decide +kernel
theorem dX12_clause_120 : decode cX12_clause 120 = .ok (.iconst 1, 1) := by decide +kernel
theorem dX12_clause_121 : decode cX12_clause 121 = .ok (.if_icmp .ne 5, 3) := by decide +kernel
theorem dX12_clause_124 : decode cX12_clause 124 = .ok (.iconst 4, 1) := by decide +kernel
theorem dX12_clause_125 : decode cX12_clause 125 = .ok (.ireturn, 1) := by decide +kernel
theorem dX12_clause_126 : decode cX12_clause 126 = .ok (.aload_n 0, 1) := by decide +kernel
theorem dX12_clause_127 : decode cX12_clause 127 = .ok (.getfield 16, 3) := by decide +kernel
theorem dX12_clause_130 : decode cX12_clause 130 = .ok (.iload_n 2, 1) := by decide +kernel
theorem dX12_clause_131 : decode cX12_clause 131 = .ok (.iconst 1, 1) := by decide +kernel
theorem dX12_clause_132 : decode cX12_clause 132 = .ok (.iadd, 1) := by decide +kernel
theorem dX12_clause_133 : decode cX12_clause 133 = .ok (.iload 4, 2) := by decide +kernel
theorem dX12_clause_135 : decode cX12_clause 135 = .ok (.iastore, 1) := by decide +kernel
theorem dX12_clause_136 : decode cX12_clause 136 = .ok (.iconst 1, 1) := by decide +kernel
theorem dX12_clause_137 : decode cX12_clause 137 = .ok (.iload 4, 2) := by decide +kernel
theorem dX12_clause_139 : decode cX12_clause 139 = .ok (.ishl, 1) := by decide +kernel
theorem dX12_clause_140 : decode cX12_clause 140 = .ok (.istore_n 3, 1) := by decide +kernel
theorem dX12_clause_141 : decode cX12_clause 141 = .ok (.aload_n 0, 1) := by decide +kernel
theorem dX12_clause_142 : decode cX12_clause 142 = .ok (.invokevirtual 200, 3) := by decide +kernel
theorem dX12_clause_145 : decode cX12_clause 145 = .ok (.iload_n 1, 1) := by decide +kernel
theorem dX12_clause_146 : decode cX12_clause 146 = .ok (.iconst 4, 1) := by decide +kernel
theorem dX12_clause_147 : decode cX12_clause 147 = .ok (.if_icmp .ne 10, 3) := by decide +kernel
theorem dX12_clause_150 : decode cX12_clause 150 = .ok (.aload_n 0, 1) := by decide +kernel
theorem dX12_clause_151 : decode cX12_clause 151 = .ok (.invokevirtual 265, 3) := by decide +kernel
theorem dX12_clause_154 : decode cX12_clause 154 = .ok (.goto 7, 3) := by decide +kernel
theorem dX12_clause_157 : decode cX12_clause 157 = .ok (.aload_n 0, 1) := by decide +kernel
theorem dX12_clause_158 : decode cX12_clause 158 = .ok (.invokevirtual 243, 3) := by decide +kernel
theorem dX12_clause_161 : decode cX12_clause 161 = .ok (.istore 4, 2) := by decide +kernel
theorem dX12_clause_163 : decode cX12_clause 163 = .ok (.iload 4, 2) := by decide +kernel
theorem dX12_clause_165 : decode cX12_clause 165 = .ok (.ifCond .eq 6, 3) := by decide +kernel
theorem dX12_clause_168 : decode cX12_clause 168 = .ok (.iload 4, 2) := by decide +kernel
theorem dX12_clause_170 : decode cX12_clause 170 = .ok (.ireturn, 1) := by decide +kernel
theorem dX12_clause_171 : decode cX12_clause 171 = .ok (.aload_n 0, 1) := by decide +kernel
theorem dX12_clause_172 : decode cX12_clause 172 = .ok (.getfield 16, 3) := by decide +kernel
theorem dX12_clause_175 : decode cX12_clause 175 = .ok (.iload_n 2, 1) := by decide +kernel
theorem dX12_clause_176 : decode cX12_clause 176 = .ok (.iconst 3, 1) := by decide +kernel
theorem dX12_clause_177 : decode cX12_clause 177 = .ok (.iadd, 1) := by decide +kernel
theorem dX12_clause_178 : decode cX12_clause 178 = .ok (.aload_n 0, 1) := by decide +kernel
theorem dX12_clause_179 : decode cX12_clause 179 = .ok (.getfield 179, 3) := by decide +kernel
theorem dX12_clause_182 : decode cX12_clause 182 = .ok (.iastore, 1) := by decide +kernel
theorem dX12_clause_183 : decode cX12_clause 183 = .ok (.aload_n 0, 1) := by decide +kernel
theorem dX12_clause_184 : decode cX12_clause 184 = .ok (.getfield 151, 3) := by decide +kernel
theorem dX12_clause_187 : decode cX12_clause 187 = .ok (.bipush 59, 2) := by decide +kernel
theorem dX12_clause_189 : decode cX12_clause 189 = .ok (.if_icmp .eq 5, 3) := by decide +kernel
theorem dX12_clause_192 : decode cX12_clause 192 = .ok (.iconst 1, 1) := by decide +kernel
theorem dX12_clause_193 : decode cX12_clause 193 = .ok (.ireturn, 1) := by decide +kernel
theorem dX12_clause_194 : decode cX12_clause 194 = .ok (.aload_n 0, 1) := by decide +kernel
theorem dX12_clause_195 : decode cX12_clause 195 = .ok (.dup, 1) := by decide +kernel
theorem dX12_clause_196 : decode cX12_clause 196 = .ok (.getfield 210, 3) := by decide +kernel
theorem dX12_clause_199 : decode cX12_clause 199 = .ok (.iload_n 3, 1) := by decide +kernel
theorem dX12_clause_200 : decode cX12_clause 200 = .ok (.ior, 1) := by decide +kernel
theorem dX12_clause_201 : decode cX12_clause 201 = .ok (.putfield 210, 3) := by decide +kernel
theorem dX12_clause_204 : decode cX12_clause 204 = .ok (.aload_n 0, 1) := by decide +kernel
theorem dX12_clause_205 : decode cX12_clause 205 = .ok (.dup, 1) := by decide +kernel
theorem dX12_clause_206 : decode cX12_clause 206 = .ok (.getfield 262, 3) := by decide +kernel
theorem dX12_clause_209 : decode cX12_clause 209 = .ok (.iconst 1, 1) := by decide +kernel
theorem dX12_clause_210 : decode cX12_clause 210 = .ok (.iadd, 1) := by decide +kernel
theorem dX12_clause_211 : decode cX12_clause 211 = .ok (.putfield 262, 3) := by decide +kernel
theorem dX12_clause_214 : decode cX12_clause 214 = .ok (.aload_n 0, 1) := by decide +kernel
theorem dX12_clause_215 : decode cX12_clause 215 = .ok (.invokevirtual 200, 3) := by decide +kernel
theorem dX12_clause_218 : decode cX12_clause 218 = .ok (.iconst 0, 1) := by decide +kernel
theorem dX12_clause_219 : decode cX12_clause 219 = .ok (.ireturn, 1) := by decide +kernel
theorem dX12_readText_0 : decode cX12_readText 0 = .ok (.aload_n 0, 1) := by decide +kernel
theorem dX12_readText_1 : decode cX12_readText 1 = .ok (.sipush 800, 3) := by decide +kernel
theorem dX12_readText_4 : decode cX12_readText 4 = .ok (.aload_n 0, 1) := by decide +kernel
theorem dX12_readText_5 : decode cX12_readText 5 = .ok (.getfield 7, 3) := by decide +kernel
theorem dX12_readText_8 : decode cX12_readText 8 = .ok (.iconst 3, 1) := by decide +kernel
theorem dX12_readText_9 : decode cX12_readText 9 = .ok (.iaload, 1) := by decide +kernel
theorem dX12_readText_10 : decode cX12_readText 10 = .ok (.imul, 1) := by decide +kernel
theorem dX12_readText_11 : decode cX12_readText 11 = .ok (.putfield 176, 3) := by decide +kernel
theorem dX12_readText_14 : decode cX12_readText 14 = .ok (.aload_n 0, 1) := by decide +kernel
theorem dX12_readText_15 : decode cX12_readText 15 = .ok (.iconst 0, 1) := by decide +kernel
theorem dX12_readText_16 : decode cX12_readText 16 = .ok (.putfield 262, 3) := by decide +kernel
theorem dX12_readText_19 : decode cX12_readText 19 = .ok (.aload_n 0, 1) := by decide +kernel
theorem dX12_readText_20 : decode cX12_readText 20 = .ok (.iconst 0, 1) := by decide +kernel
theorem dX12_readText_21 : decode cX12_readText 21 = .ok (.putfield 179, 3) := by decide +kernel
theorem dX12_readText_24 : decode cX12_readText 24 = .ok (.aload_n 0, 1) := by decide +kernel
theorem dX12_readText_25 : decode cX12_readText 25 = .ok (.iconst 0, 1) := by decide +kernel
theorem dX12_readText_26 : decode cX12_readText 26 = .ok (.putfield 189, 3) := by decide +kernel
theorem dX12_readText_29 : decode cX12_readText 29 = .ok (.aload_n 0, 1) := by decide +kernel
theorem dX12_readText_30 : decode cX12_readText 30 = .ok (.iconst 0, 1) := by decide +kernel
theorem dX12_readText_31 : decode cX12_readText 31 = .ok (.putfield 259, 3) := by decide +kernel
theorem dX12_readText_34 : decode cX12_readText 34 = .ok (.aload_n 0, 1) := by decide +kernel
theorem dX12_readText_35 : decode cX12_readText 35 = .ok (.iconst 0, 1) := by decide +kernel
theorem dX12_readText_36 : decode cX12_readText 36 = .ok (.putfield 210, 3) := by decide +kernel
theorem dX12_readText_39 : decode cX12_readText 39 = .ok (.aload_n 0, 1) := by decide +kernel
theorem dX12_readText_40 : decode cX12_readText 40 = .ok (.iconst 0, 1) := by decide +kernel
theorem dX12_readText_41 : decode cX12_readText 41 = .ok (.putfield 142, 3) := by decide +kernel
theorem dX12_readText_44 : decode cX12_readText 44 = .ok (.aload_n 0, 1) := by decide +kernel
theorem dX12_readText_45 : decode cX12_readText 45 = .ok (.invokevirtual 200, 3) := by decide +kernel
theorem dX12_readText_48 : decode cX12_readText 48 = .ok (.aload_n 0, 1) := by decide +kernel
theorem dX12_readText_49 : decode cX12_readText 49 = .ok (.getfield 151, 3) := by decide +kernel
theorem dX12_readText_52 : decode cX12_readText 52 = .ok (.ifCond .eq 17, 3) := by decide +kernel
theorem dX12_readText_55 : decode cX12_readText 55 = .ok (.aload_n 0, 1) := by decide +kernel
theorem dX12_readText_56 : decode cX12_readText 56 = .ok (.invokevirtual 268, 3) := by decide +kernel
theorem dX12_readText_59 : decode cX12_readText 59 = .ok (.istore_n 1, 1) := by decide +kernel
theorem dX12_readText_60 : decode cX12_readText 60 = .ok (.iload_n 1, 1) := by decide +kernel
theorem dX12_readText_61 : decode cX12_readText 61 = .ok (.ifCond .eq 5, 3) := by decide +kernel
theorem dX12_readText_64 : decode cX12_readText 64 = .ok (.iload_n 1, 1) := by decide +kernel
theorem dX12_readText_65 : decode cX12_readText 65 = .ok (.ireturn, 1) := by decide +kernel
theorem dX12_readText_66 : decode cX12_readText 66 = .ok (.goto (-18), 3) := by decide +kernel
theorem dX12_readText_69 : decode cX12_readText 69 = .ok (.iconst 0, 1) := by decide +kernel
theorem dX12_readText_70 : decode cX12_readText 70 = .ok (.ireturn, 1) := by decide +kernel
theorem dX12_rule_0 : decode cX12_rule 0 = .ok (.aload_n 0, 1) := by decide +kernel
theorem dX12_rule_1 : decode cX12_rule 1 = .ok (.getfield 7, 3) := by decide +kernel
theorem dX12_rule_4 : decode cX12_rule 4 = .ok (.iconst 3, 1) := by decide +kernel
theorem dX12_rule_5 : decode cX12_rule 5 = .ok (.iaload, 1) := by decide +kernel
theorem dX12_rule_6 : decode cX12_rule 6 = .ok (.bipush 8, 2) := by decide +kernel
theorem dX12_rule_8 : decode cX12_rule 8 = .ok (.if_icmp .ne 5, 3) := by decide +kernel
theorem dX12_rule_11 : decode cX12_rule 11 = .ok (.iconst (-1), 1) := by decide +kernel
theorem dX12_rule_12 : decode cX12_rule 12 = .ok (.ireturn, 1) := by decide +kernel
theorem dX12_rule_13 : decode cX12_rule 13 = .ok (.aload_n 0, 1) := by decide +kernel
theorem dX12_rule_14 : decode cX12_rule 14 = .ok (.aload_n 0, 1) := by decide +kernel
theorem dX12_rule_15 : decode cX12_rule 15 = .ok (.invokevirtual 271, 3) := by decide +kernel
theorem dX12_rule_18 : decode cX12_rule 18 = .ok (.putfield 34, 3) := by decide +kernel
theorem dX12_rule_21 : decode cX12_rule 21 = .ok (.aload_n 0, 1) := by decide +kernel
theorem dX12_rule_22 : decode cX12_rule 22 = .ok (.aload_n 0, 1) := by decide +kernel
theorem dX12_rule_23 : decode cX12_rule 23 = .ok (.getfield 34, 3) := by decide +kernel
theorem dX12_rule_26 : decode cX12_rule 26 = .ok (.ifCond .ne 7, 3) := by decide +kernel
theorem dX12_rule_29 : decode cX12_rule 29 = .ok (.iconst (-1), 1) := by decide +kernel
theorem dX12_rule_30 : decode cX12_rule 30 = .ok (.goto 7, 3) := by decide +kernel
theorem dX12_rule_33 : decode cX12_rule 33 = .ok (.aload_n 0, 1) := by decide +kernel
theorem dX12_rule_34 : decode cX12_rule 34 = .ok (.getfield 148, 3) := by decide +kernel
theorem dX12_rule_37 : decode cX12_rule 37 = .ok (.putfield 38, 3) := by decide +kernel
theorem dX12_rule_40 : decode cX12_rule 40 = .ok (.aload_n 0, 1) := by decide +kernel
theorem dX12_rule_41 : decode cX12_rule 41 = .ok (.iconst 0, 1) := by decide +kernel
theorem dX12_rule_42 : decode cX12_rule 42 = .ok (.putfield 136, 3) := by decide +kernel
theorem dX12_rule_45 : decode cX12_rule 45 = .ok (.aload_n 0, 1) := by decide +kernel
theorem dX12_rule_46 : decode cX12_rule 46 = .ok (.getfield 34, 3) := by decide +kernel
theorem dX12_rule_49 : decode cX12_rule 49 = .ok (.ifCond .eq 5, 3) := by decide +kernel
theorem dX12_rule_52 : decode cX12_rule 52 = .ok (.iconst (-1), 1) := by decide +kernel
theorem dX12_rule_53 : decode cX12_rule 53 = .ok (.ireturn, 1) := by decide +kernel
theorem dX12_rule_54 : decode cX12_rule 54 = .ok (.aload_n 0, 1) := by decide +kernel
theorem dX12_rule_55 : decode cX12_rule 55 = .ok (.getfield 16, 3) := by decide +kernel
theorem dX12_rule_58 : decode cX12_rule 58 = .ok (.aload_n 0, 1) := by decide +kernel
theorem dX12_rule_59 : decode cX12_rule 59 = .ok (.getfield 176, 3) := by decide +kernel
theorem dX12_rule_62 : decode cX12_rule 62 = .ok (.aload_n 0, 1) := by decide +kernel
theorem dX12_rule_63 : decode cX12_rule 63 = .ok (.getfield 262, 3) := by decide +kernel
theorem dX12_rule_66 : decode cX12_rule 66 = .ok (.iastore, 1) := by decide +kernel
theorem dX12_rule_67 : decode cX12_rule 67 = .ok (.aload_n 0, 1) := by decide +kernel
theorem dX12_rule_68 : decode cX12_rule 68 = .ok (.getfield 7, 3) := by decide +kernel
theorem dX12_rule_71 : decode cX12_rule 71 = .ok (.iconst 3, 1) := by decide +kernel
theorem dX12_rule_72 : decode cX12_rule 72 = .ok (.dup2, 1) := by decide +kernel
theorem dX12_rule_73 : decode cX12_rule 73 = .ok (.iaload, 1) := by decide +kernel
theorem dX12_rule_74 : decode cX12_rule 74 = .ok (.iconst 1, 1) := by decide +kernel
theorem dX12_rule_75 : decode cX12_rule 75 = .ok (.iadd, 1) := by decide +kernel
theorem dX12_rule_76 : decode cX12_rule 76 = .ok (.iastore, 1) := by decide +kernel
theorem dX12_rule_77 : decode cX12_rule 77 = .ok (.aload_n 0, 1) := by decide +kernel
theorem dX12_rule_78 : decode cX12_rule 78 = .ok (.getfield 7, 3) := by decide +kernel
theorem dX12_rule_81 : decode cX12_rule 81 = .ok (.iconst 3, 1) := by decide +kernel
theorem dX12_rule_82 : decode cX12_rule 82 = .ok (.iaload, 1) := by decide +kernel
theorem dX12_rule_83 : decode cX12_rule 83 = .ok (.iconst 1, 1) := by decide +kernel
theorem dX12_rule_84 : decode cX12_rule 84 = .ok (.isub, 1) := by decide +kernel
theorem dX12_rule_85 : decode cX12_rule 85 = .ok (.ireturn, 1) := by decide +kernel
theorem dX12_fault_0 : decode cX12_fault 0 = .ok (.iload_n 1, 1) := by decide +kernel
theorem dX12_fault_1 : decode cX12_fault 1 = .ok (.ifCond .ne 10, 3) := by decide +kernel
theorem dX12_fault_4 : decode cX12_fault 4 = .ok (.aload_n 0, 1) := by decide +kernel
theorem dX12_fault_5 : decode cX12_fault 5 = .ok (.getfield 34, 3) := by decide +kernel
theorem dX12_fault_8 : decode cX12_fault 8 = .ok (.goto 16, 3) := by decide +kernel
theorem dX12_fault_11 : decode cX12_fault 11 = .ok (.iload_n 1, 1) := by decide +kernel
theorem dX12_fault_12 : decode cX12_fault 12 = .ok (.iconst 1, 1) := by decide +kernel
theorem dX12_fault_13 : decode cX12_fault 13 = .ok (.if_icmp .ne 10, 3) := by decide +kernel
theorem dX12_fault_16 : decode cX12_fault 16 = .ok (.aload_n 0, 1) := by decide +kernel
theorem dX12_fault_17 : decode cX12_fault 17 = .ok (.getfield 38, 3) := by decide +kernel
theorem dX12_fault_20 : decode cX12_fault 20 = .ok (.goto 4, 3) := by decide +kernel
theorem dX12_fault_23 : decode cX12_fault 23 = .ok (.iconst (-1), 1) := by decide +kernel
theorem dX12_fault_24 : decode cX12_fault 24 = .ok (.ireturn, 1) := by decide +kernel
theorem dX12_bring_0 : decode cX12_bring 0 = .ok (.lload_n 1, 1) := by decide +kernel
theorem dX12_bring_1 : decode cX12_bring 1 = .ok (.aload_n 0, 1) := by decide +kernel
theorem dX12_bring_2 : decode cX12_bring 2 = .ok (.getfield 274, 3) := by decide +kernel
theorem dX12_bring_5 : decode cX12_bring 5 = .ok (.lcmp, 1) := by decide +kernel
theorem dX12_bring_6 : decode cX12_bring 6 = .ok (.ifCond .gt 13, 3) := by decide +kernel
theorem dX12_bring_9 : decode cX12_bring 9 = .ok (.lload_n 1, 1) := by decide +kernel
theorem dX12_bring_10 : decode cX12_bring 10 = .ok (.aload_n 0, 1) := by decide +kernel
theorem dX12_bring_11 : decode cX12_bring 11 = .ok (.getfield 274, 3) := by decide +kernel
theorem dX12_bring_14 : decode cX12_bring 14 = .ok (.lneg, 1) := by decide +kernel
theorem dX12_bring_15 : decode cX12_bring 15 = .ok (.lcmp, 1) := by decide +kernel
theorem dX12_bring_16 : decode cX12_bring 16 = .ok (.ifCond .ge 13, 3) := by decide +kernel
theorem dX12_bring_19 : decode cX12_bring 19 = .ok (.aload_n 0, 1) := by decide +kernel
theorem dX12_bring_20 : decode cX12_bring 20 = .ok (.dup, 1) := by decide +kernel
theorem dX12_bring_21 : decode cX12_bring 21 = .ok (.getfield 277, 3) := by decide +kernel
theorem dX12_bring_24 : decode cX12_bring 24 = .ok (.iconst 1, 1) := by decide +kernel
theorem dX12_bring_25 : decode cX12_bring 25 = .ok (.iadd, 1) := by decide +kernel
theorem dX12_bring_26 : decode cX12_bring 26 = .ok (.putfield 277, 3) := by decide +kernel
theorem dX12_bring_29 : decode cX12_bring 29 = .ok (.lload_n 1, 1) := by decide +kernel
theorem dX12_bring_30 : decode cX12_bring 30 = .ok (.aload_n 0, 1) := by decide +kernel
theorem dX12_bring_31 : decode cX12_bring 31 = .ok (.getfield 274, 3) := by decide +kernel
theorem dX12_bring_34 : decode cX12_bring 34 = .ok (.lcmp, 1) := by decide +kernel
theorem dX12_bring_35 : decode cX12_bring 35 = .ok (.ifCond .le 10, 3) := by decide +kernel
theorem dX12_bring_38 : decode cX12_bring 38 = .ok (.aload_n 0, 1) := by decide +kernel
theorem dX12_bring_39 : decode cX12_bring 39 = .ok (.getfield 274, 3) := by decide +kernel
theorem dX12_bring_42 : decode cX12_bring 42 = .ok (.goto 22, 3) := by decide +kernel
theorem dX12_bring_45 : decode cX12_bring 45 = .ok (.lload_n 1, 1) := by decide +kernel
theorem dX12_bring_46 : decode cX12_bring 46 = .ok (.aload_n 0, 1) := by decide +kernel
theorem dX12_bring_47 : decode cX12_bring 47 = .ok (.getfield 274, 3) := by decide +kernel
theorem dX12_bring_50 : decode cX12_bring 50 = .ok (.lneg, 1) := by decide +kernel
theorem dX12_bring_51 : decode cX12_bring 51 = .ok (.lcmp, 1) := by decide +kernel
theorem dX12_bring_52 : decode cX12_bring 52 = .ok (.ifCond .ge 11, 3) := by decide +kernel
theorem dX12_bring_55 : decode cX12_bring 55 = .ok (.aload_n 0, 1) := by decide +kernel
theorem dX12_bring_56 : decode cX12_bring 56 = .ok (.getfield 274, 3) := by decide +kernel
theorem dX12_bring_59 : decode cX12_bring 59 = .ok (.lneg, 1) := by decide +kernel
theorem dX12_bring_60 : decode cX12_bring 60 = .ok (.goto 4, 3) := by decide +kernel
theorem dX12_bring_63 : decode cX12_bring 63 = .ok (.lload_n 1, 1) := by decide +kernel
theorem dX12_bring_64 : decode cX12_bring 64 = .ok (.lreturn, 1) := by decide +kernel
theorem dX12_two_0 : decode cX12_two 0 = .ok (.iload_n 1, 1) := by decide +kernel
theorem dX12_two_1 : decode cX12_two 1 = .ok (.tableswitch 96 3 7 #[35, 44, 53, 62, 82], 35) := by decide +kernel
theorem dX12_two_36 : decode cX12_two 36 = .ok (.aload_n 0, 1) := by decide +kernel
theorem dX12_two_37 : decode cX12_two 37 = .ok (.lload_n 2, 1) := by decide +kernel
theorem dX12_two_38 : decode cX12_two 38 = .ok (.lload 4, 2) := by decide +kernel
theorem dX12_two_40 : decode cX12_two 40 = .ok (.ladd, 1) := by decide +kernel
theorem dX12_two_41 : decode cX12_two 41 = .ok (.invokevirtual 280, 3) := by decide +kernel
theorem dX12_two_44 : decode cX12_two 44 = .ok (.lreturn, 1) := by decide +kernel
theorem dX12_two_45 : decode cX12_two 45 = .ok (.aload_n 0, 1) := by decide +kernel
theorem dX12_two_46 : decode cX12_two 46 = .ok (.lload_n 2, 1) := by decide +kernel
theorem dX12_two_47 : decode cX12_two 47 = .ok (.lload 4, 2) := by decide +kernel
theorem dX12_two_49 : decode cX12_two 49 = .ok (.lsub, 1) := by decide +kernel
theorem dX12_two_50 : decode cX12_two 50 = .ok (.invokevirtual 280, 3) := by decide +kernel
theorem dX12_two_53 : decode cX12_two 53 = .ok (.lreturn, 1) := by decide +kernel
theorem dX12_two_54 : decode cX12_two 54 = .ok (.aload_n 0, 1) := by decide +kernel
theorem dX12_two_55 : decode cX12_two 55 = .ok (.lload_n 2, 1) := by decide +kernel
theorem dX12_two_56 : decode cX12_two 56 = .ok (.lload 4, 2) := by decide +kernel
theorem dX12_two_58 : decode cX12_two 58 = .ok (.lmul, 1) := by decide +kernel
theorem dX12_two_59 : decode cX12_two 59 = .ok (.invokevirtual 280, 3) := by decide +kernel
theorem dX12_two_62 : decode cX12_two 62 = .ok (.lreturn, 1) := by decide +kernel
theorem dX12_two_63 : decode cX12_two 63 = .ok (.lload 4, 2) := by decide +kernel
theorem dX12_two_65 : decode cX12_two 65 = .ok (.lconst 0, 1) := by decide +kernel
theorem dX12_two_66 : decode cX12_two 66 = .ok (.lcmp, 1) := by decide +kernel
theorem dX12_two_67 : decode cX12_two 67 = .ok (.ifCond .ne 7, 3) := by decide +kernel
theorem dX12_two_70 : decode cX12_two 70 = .ok (.lconst 0, 1) := by decide +kernel
theorem dX12_two_71 : decode cX12_two 71 = .ok (.goto 11, 3) := by decide +kernel
theorem dX12_two_74 : decode cX12_two 74 = .ok (.aload_n 0, 1) := by decide +kernel
theorem dX12_two_75 : decode cX12_two 75 = .ok (.lload_n 2, 1) := by decide +kernel
theorem dX12_two_76 : decode cX12_two 76 = .ok (.lload 4, 2) := by decide +kernel
theorem dX12_two_78 : decode cX12_two 78 = .ok (.ldiv, 1) := by decide +kernel
theorem dX12_two_79 : decode cX12_two 79 = .ok (.invokevirtual 280, 3) := by decide +kernel
theorem dX12_two_82 : decode cX12_two 82 = .ok (.lreturn, 1) := by decide +kernel
theorem dX12_two_83 : decode cX12_two 83 = .ok (.lload_n 2, 1) := by decide +kernel
theorem dX12_two_84 : decode cX12_two 84 = .ok (.lload 4, 2) := by decide +kernel
theorem dX12_two_86 : decode cX12_two 86 = .ok (.lcmp, 1) := by decide +kernel
theorem dX12_two_87 : decode cX12_two 87 = .ok (.ifCond .ge 7, 3) := by decide +kernel
theorem dX12_two_90 : decode cX12_two 90 = .ok (.lload_n 2, 1) := by decide +kernel
theorem dX12_two_91 : decode cX12_two 91 = .ok (.goto 5, 3) := by decide +kernel
theorem dX12_two_94 : decode cX12_two 94 = .ok (.lload 4, 2) := by decide +kernel
theorem dX12_two_96 : decode cX12_two 96 = .ok (.lreturn, 1) := by decide +kernel
theorem dX12_two_97 : decode cX12_two 97 = .ok (.lload_n 2, 1) := by decide +kernel
theorem dX12_two_98 : decode cX12_two 98 = .ok (.lload 4, 2) := by decide +kernel
theorem dX12_two_100 : decode cX12_two 100 = .ok (.lcmp, 1) := by decide +kernel
theorem dX12_two_101 : decode cX12_two 101 = .ok (.ifCond .le 7, 3) := by decide +kernel
theorem dX12_two_104 : decode cX12_two 104 = .ok (.lload_n 2, 1) := by decide +kernel
theorem dX12_two_105 : decode cX12_two 105 = .ok (.goto 5, 3) := by decide +kernel
theorem dX12_two_108 : decode cX12_two 108 = .ok (.lload 4, 2) := by decide +kernel
theorem dX12_two_110 : decode cX12_two 110 = .ok (.lreturn, 1) := by decide +kernel
theorem dX12_isAsked_0 : decode cX12_isAsked 0 = .ok (.iload_n 0, 1) := by decide +kernel
theorem dX12_isAsked_1 : decode cX12_isAsked 1 = .ok (.bipush 10, 2) := by decide +kernel
theorem dX12_isAsked_3 : decode cX12_isAsked 3 = .ok (.if_icmp .ne 17, 3) := by decide +kernel
theorem dX12_isAsked_6 : decode cX12_isAsked 6 = .ok (.lload_n 1, 1) := by decide +kernel
theorem dX12_isAsked_7 : decode cX12_isAsked 7 = .ok (.lload_n 3, 1) := by decide +kernel
theorem dX12_isAsked_8 : decode cX12_isAsked 8 = .ok (.lcmp, 1) := by decide +kernel
theorem dX12_isAsked_9 : decode cX12_isAsked 9 = .ok (.ifCond .ge 7, 3) := by decide +kernel
theorem dX12_isAsked_12 : decode cX12_isAsked 12 = .ok (.iconst 1, 1) := by decide +kernel
theorem dX12_isAsked_13 : decode cX12_isAsked 13 = .ok (.goto 98, 3) := by decide +kernel
theorem dX12_isAsked_16 : decode cX12_isAsked 16 = .ok (.iconst 0, 1) := by decide +kernel
theorem dX12_isAsked_17 : decode cX12_isAsked 17 = .ok (.goto 94, 3) := by decide +kernel
theorem dX12_isAsked_20 : decode cX12_isAsked 20 = .ok (.iload_n 0, 1) := by decide +kernel
theorem dX12_isAsked_21 : decode cX12_isAsked 21 = .ok (.bipush 11, 2) := by decide +kernel
theorem dX12_isAsked_23 : decode cX12_isAsked 23 = .ok (.if_icmp .ne 17, 3) := by decide +kernel
theorem dX12_isAsked_26 : decode cX12_isAsked 26 = .ok (.lload_n 1, 1) := by decide +kernel
theorem dX12_isAsked_27 : decode cX12_isAsked 27 = .ok (.lload_n 3, 1) := by decide +kernel
theorem dX12_isAsked_28 : decode cX12_isAsked 28 = .ok (.lcmp, 1) := by decide +kernel
theorem dX12_isAsked_29 : decode cX12_isAsked 29 = .ok (.ifCond .gt 7, 3) := by decide +kernel
theorem dX12_isAsked_32 : decode cX12_isAsked 32 = .ok (.iconst 1, 1) := by decide +kernel
theorem dX12_isAsked_33 : decode cX12_isAsked 33 = .ok (.goto 78, 3) := by decide +kernel
theorem dX12_isAsked_36 : decode cX12_isAsked 36 = .ok (.iconst 0, 1) := by decide +kernel
theorem dX12_isAsked_37 : decode cX12_isAsked 37 = .ok (.goto 74, 3) := by decide +kernel
theorem dX12_isAsked_40 : decode cX12_isAsked 40 = .ok (.iload_n 0, 1) := by decide +kernel
theorem dX12_isAsked_41 : decode cX12_isAsked 41 = .ok (.bipush 12, 2) := by decide +kernel
theorem dX12_isAsked_43 : decode cX12_isAsked 43 = .ok (.if_icmp .ne 17, 3) := by decide +kernel
theorem dX12_isAsked_46 : decode cX12_isAsked 46 = .ok (.lload_n 1, 1) := by decide +kernel
theorem dX12_isAsked_47 : decode cX12_isAsked 47 = .ok (.lload_n 3, 1) := by decide +kernel
theorem dX12_isAsked_48 : decode cX12_isAsked 48 = .ok (.lcmp, 1) := by decide +kernel
theorem dX12_isAsked_49 : decode cX12_isAsked 49 = .ok (.ifCond .le 7, 3) := by decide +kernel
theorem dX12_isAsked_52 : decode cX12_isAsked 52 = .ok (.iconst 1, 1) := by decide +kernel
theorem dX12_isAsked_53 : decode cX12_isAsked 53 = .ok (.goto 58, 3) := by decide +kernel
theorem dX12_isAsked_56 : decode cX12_isAsked 56 = .ok (.iconst 0, 1) := by decide +kernel
theorem dX12_isAsked_57 : decode cX12_isAsked 57 = .ok (.goto 54, 3) := by decide +kernel
theorem dX12_isAsked_60 : decode cX12_isAsked 60 = .ok (.iload_n 0, 1) := by decide +kernel
theorem dX12_isAsked_61 : decode cX12_isAsked 61 = .ok (.bipush 13, 2) := by decide +kernel
theorem dX12_isAsked_63 : decode cX12_isAsked 63 = .ok (.if_icmp .ne 17, 3) := by decide +kernel
theorem dX12_isAsked_66 : decode cX12_isAsked 66 = .ok (.lload_n 1, 1) := by decide +kernel
theorem dX12_isAsked_67 : decode cX12_isAsked 67 = .ok (.lload_n 3, 1) := by decide +kernel
theorem dX12_isAsked_68 : decode cX12_isAsked 68 = .ok (.lcmp, 1) := by decide +kernel
theorem dX12_isAsked_69 : decode cX12_isAsked 69 = .ok (.ifCond .lt 7, 3) := by decide +kernel
theorem dX12_isAsked_72 : decode cX12_isAsked 72 = .ok (.iconst 1, 1) := by decide +kernel
theorem dX12_isAsked_73 : decode cX12_isAsked 73 = .ok (.goto 38, 3) := by decide +kernel
theorem dX12_isAsked_76 : decode cX12_isAsked 76 = .ok (.iconst 0, 1) := by decide +kernel
theorem dX12_isAsked_77 : decode cX12_isAsked 77 = .ok (.goto 34, 3) := by decide +kernel
theorem dX12_isAsked_80 : decode cX12_isAsked 80 = .ok (.iload_n 0, 1) := by decide +kernel
theorem dX12_isAsked_81 : decode cX12_isAsked 81 = .ok (.bipush 14, 2) := by decide +kernel
theorem dX12_isAsked_83 : decode cX12_isAsked 83 = .ok (.if_icmp .ne 17, 3) := by decide +kernel
theorem dX12_isAsked_86 : decode cX12_isAsked 86 = .ok (.lload_n 1, 1) := by decide +kernel
theorem dX12_isAsked_87 : decode cX12_isAsked 87 = .ok (.lload_n 3, 1) := by decide +kernel
theorem dX12_isAsked_88 : decode cX12_isAsked 88 = .ok (.lcmp, 1) := by decide +kernel
theorem dX12_isAsked_89 : decode cX12_isAsked 89 = .ok (.ifCond .ne 7, 3) := by decide +kernel
theorem dX12_isAsked_92 : decode cX12_isAsked 92 = .ok (.iconst 1, 1) := by decide +kernel
theorem dX12_isAsked_93 : decode cX12_isAsked 93 = .ok (.goto 18, 3) := by decide +kernel
theorem dX12_isAsked_96 : decode cX12_isAsked 96 = .ok (.iconst 0, 1) := by decide +kernel
theorem dX12_isAsked_97 : decode cX12_isAsked 97 = .ok (.goto 14, 3) := by decide +kernel
theorem dX12_isAsked_100 : decode cX12_isAsked 100 = .ok (.lload_n 1, 1) := by decide +kernel
theorem dX12_isAsked_101 : decode cX12_isAsked 101 = .ok (.lload_n 3, 1) := by decide +kernel
theorem dX12_isAsked_102 : decode cX12_isAsked 102 = .ok (.lcmp, 1) := by decide +kernel
theorem dX12_isAsked_103 : decode cX12_isAsked 103 = .ok (.ifCond .eq 7, 3) := by decide +kernel
theorem dX12_isAsked_106 : decode cX12_isAsked 106 = .ok (.iconst 1, 1) := by decide +kernel
theorem dX12_isAsked_107 : decode cX12_isAsked 107 = .ok (.goto 4, 3) := by decide +kernel
theorem dX12_isAsked_110 : decode cX12_isAsked 110 = .ok (.iconst 0, 1) := by decide +kernel
theorem dX12_isAsked_111 : decode cX12_isAsked 111 = .ok (.ireturn, 1) := by decide +kernel
theorem dX12_valueOf_0 : decode cX12_valueOf 0 = .ok (.iload_n 1, 1) := by decide +kernel
theorem dX12_valueOf_1 : decode cX12_valueOf 1 = .ok (.lookupswitch 92 #[(0, 43), (1, 46), (30, 54), (31, 60)], 43) := by decide +kernel
theorem dX12_valueOf_44 : decode cX12_valueOf 44 = .ok (.iload_n 2, 1) := by decide +kernel
theorem dX12_valueOf_45 : decode cX12_valueOf 45 = .ok (.i2l, 1) := by decide +kernel
theorem dX12_valueOf_46 : decode cX12_valueOf 46 = .ok (.lreturn, 1) := by decide +kernel
theorem dX12_valueOf_47 : decode cX12_valueOf 47 = .ok (.aload_n 0, 1) := by decide +kernel
theorem dX12_valueOf_48 : decode cX12_valueOf 48 = .ok (.getfield 47, 3) := by decide +kernel
theorem dX12_valueOf_51 : decode cX12_valueOf 51 = .ok (.iload_n 2, 1) := by decide +kernel
theorem dX12_valueOf_52 : decode cX12_valueOf 52 = .ok (.iaload, 1) := by decide +kernel
theorem dX12_valueOf_53 : decode cX12_valueOf 53 = .ok (.i2l, 1) := by decide +kernel
theorem dX12_valueOf_54 : decode cX12_valueOf 54 = .ok (.lreturn, 1) := by decide +kernel
theorem dX12_valueOf_55 : decode cX12_valueOf 55 = .ok (.aload_n 0, 1) := by decide +kernel
theorem dX12_valueOf_56 : decode cX12_valueOf 56 = .ok (.getfield 284, 3) := by decide +kernel
theorem dX12_valueOf_59 : decode cX12_valueOf 59 = .ok (.i2l, 1) := by decide +kernel
theorem dX12_valueOf_60 : decode cX12_valueOf 60 = .ok (.lreturn, 1) := by decide +kernel
theorem dX12_valueOf_61 : decode cX12_valueOf 61 = .ok (.iload_n 2, 1) := by decide +kernel
theorem dX12_valueOf_62 : decode cX12_valueOf 62 = .ok (.aload_n 0, 1) := by decide +kernel
theorem dX12_valueOf_63 : decode cX12_valueOf 63 = .ok (.getfield 7, 3) := by decide +kernel
theorem dX12_valueOf_66 : decode cX12_valueOf 66 = .ok (.iconst 1, 1) := by decide +kernel
theorem dX12_valueOf_67 : decode cX12_valueOf 67 = .ok (.iaload, 1) := by decide +kernel
theorem dX12_valueOf_68 : decode cX12_valueOf 68 = .ok (.if_icmp .ge 23, 3) := by decide +kernel
theorem dX12_valueOf_71 : decode cX12_valueOf 71 = .ok (.aload_n 0, 1) := by decide +kernel
theorem dX12_valueOf_72 : decode cX12_valueOf 72 = .ok (.getfield 44, 3) := by decide +kernel
theorem dX12_valueOf_75 : decode cX12_valueOf 75 = .ok (.bipush 38, 2) := by decide +kernel
theorem dX12_valueOf_77 : decode cX12_valueOf 77 = .ok (.aload_n 0, 1) := by decide +kernel
theorem dX12_valueOf_78 : decode cX12_valueOf 78 = .ok (.getfield 284, 3) := by decide +kernel
theorem dX12_valueOf_81 : decode cX12_valueOf 81 = .ok (.imul, 1) := by decide +kernel
theorem dX12_valueOf_82 : decode cX12_valueOf 82 = .ok (.iconst 5, 1) := by decide +kernel
theorem dX12_valueOf_83 : decode cX12_valueOf 83 = .ok (.iadd, 1) := by decide +kernel
theorem dX12_valueOf_84 : decode cX12_valueOf 84 = .ok (.iload_n 2, 1) := by decide +kernel
theorem dX12_valueOf_85 : decode cX12_valueOf 85 = .ok (.iadd, 1) := by decide +kernel
theorem dX12_valueOf_86 : decode cX12_valueOf 86 = .ok (.iaload, 1) := by decide +kernel
theorem dX12_valueOf_87 : decode cX12_valueOf 87 = .ok (.i2l, 1) := by decide +kernel
theorem dX12_valueOf_88 : decode cX12_valueOf 88 = .ok (.goto 4, 3) := by decide +kernel
theorem dX12_valueOf_91 : decode cX12_valueOf 91 = .ok (.lconst 0, 1) := by decide +kernel
theorem dX12_valueOf_92 : decode cX12_valueOf 92 = .ok (.lreturn, 1) := by decide +kernel
theorem dX12_valueOf_93 : decode cX12_valueOf 93 = .ok (.iload_n 2, 1) := by decide +kernel
theorem dX12_valueOf_94 : decode cX12_valueOf 94 = .ok (.aload_n 0, 1) := by decide +kernel
theorem dX12_valueOf_95 : decode cX12_valueOf 95 = .ok (.getfield 7, 3) := by decide +kernel
theorem dX12_valueOf_98 : decode cX12_valueOf 98 = .ok (.iconst 2, 1) := by decide +kernel
theorem dX12_valueOf_99 : decode cX12_valueOf 99 = .ok (.iaload, 1) := by decide +kernel
theorem dX12_valueOf_100 : decode cX12_valueOf 100 = .ok (.if_icmp .ge 24, 3) := by decide +kernel
theorem dX12_valueOf_103 : decode cX12_valueOf 103 = .ok (.aload_n 0, 1) := by decide +kernel
theorem dX12_valueOf_104 : decode cX12_valueOf 104 = .ok (.getfield 44, 3) := by decide +kernel
theorem dX12_valueOf_107 : decode cX12_valueOf 107 = .ok (.bipush 38, 2) := by decide +kernel
theorem dX12_valueOf_109 : decode cX12_valueOf 109 = .ok (.aload_n 0, 1) := by decide +kernel
theorem dX12_valueOf_110 : decode cX12_valueOf 110 = .ok (.getfield 284, 3) := by decide +kernel
theorem dX12_valueOf_113 : decode cX12_valueOf 113 = .ok (.imul, 1) := by decide +kernel
theorem dX12_valueOf_114 : decode cX12_valueOf 114 = .ok (.bipush 21, 2) := by decide +kernel
theorem dX12_valueOf_116 : decode cX12_valueOf 116 = .ok (.iadd, 1) := by decide +kernel
theorem dX12_valueOf_117 : decode cX12_valueOf 117 = .ok (.iload_n 2, 1) := by decide +kernel
theorem dX12_valueOf_118 : decode cX12_valueOf 118 = .ok (.iadd, 1) := by decide +kernel
theorem dX12_valueOf_119 : decode cX12_valueOf 119 = .ok (.iaload, 1) := by decide +kernel
theorem dX12_valueOf_120 : decode cX12_valueOf 120 = .ok (.i2l, 1) := by decide +kernel
theorem dX12_valueOf_121 : decode cX12_valueOf 121 = .ok (.goto 4, 3) := by decide +kernel
theorem dX12_valueOf_124 : decode cX12_valueOf 124 = .ok (.lconst 0, 1) := by decide +kernel
theorem dX12_valueOf_125 : decode cX12_valueOf 125 = .ok (.lreturn, 1) := by decide +kernel
theorem dX12_work_0 : decode cX12_work 0 = .ok (.iconst 0, 1) := by decide +kernel
theorem dX12_work_1 : decode cX12_work 1 = .ok (.istore 4, 2) := by decide +kernel
theorem dX12_work_3 : decode cX12_work 3 = .ok (.iconst 0, 1) := by decide +kernel
theorem dX12_work_4 : decode cX12_work 4 = .ok (.istore 5, 2) := by decide +kernel
theorem dX12_work_6 : decode cX12_work 6 = .ok (.iload_n 2, 1) := by decide +kernel
theorem dX12_work_7 : decode cX12_work 7 = .ok (.istore 6, 2) := by decide +kernel
theorem dX12_work_9 : decode cX12_work 9 = .ok (.iload 6, 2) := by decide +kernel
theorem dX12_work_11 : decode cX12_work 11 = .ok (.iload_n 3, 1) := by decide +kernel
theorem dX12_work_12 : decode cX12_work 12 = .ok (.if_icmp .ge 303, 3) := by decide +kernel
theorem dX12_work_15 : decode cX12_work 15 = .ok (.aload_n 0, 1) := by decide +kernel
theorem dX12_work_16 : decode cX12_work 16 = .ok (.getfield 16, 3) := by decide +kernel
theorem dX12_work_19 : decode cX12_work 19 = .ok (.iload_n 1, 1) := by decide +kernel
theorem dX12_work_20 : decode cX12_work 20 = .ok (.iconst 2, 1) := by decide +kernel
theorem dX12_work_21 : decode cX12_work 21 = .ok (.iload 6, 2) := by decide +kernel
theorem dX12_work_23 : decode cX12_work 23 = .ok (.imul, 1) := by decide +kernel
theorem dX12_work_24 : decode cX12_work 24 = .ok (.iadd, 1) := by decide +kernel
theorem dX12_work_25 : decode cX12_work 25 = .ok (.iaload, 1) := by decide +kernel
theorem dX12_work_26 : decode cX12_work 26 = .ok (.istore 7, 2) := by decide +kernel
theorem dX12_work_28 : decode cX12_work 28 = .ok (.aload_n 0, 1) := by decide +kernel
theorem dX12_work_29 : decode cX12_work 29 = .ok (.getfield 16, 3) := by decide +kernel
theorem dX12_work_32 : decode cX12_work 32 = .ok (.iload_n 1, 1) := by decide +kernel
theorem dX12_work_33 : decode cX12_work 33 = .ok (.iconst 2, 1) := by decide +kernel
theorem dX12_work_34 : decode cX12_work 34 = .ok (.iload 6, 2) := by decide +kernel
theorem dX12_work_36 : decode cX12_work 36 = .ok (.imul, 1) := by decide +kernel
theorem dX12_work_37 : decode cX12_work 37 = .ok (.iadd, 1) := by decide +kernel
theorem dX12_work_38 : decode cX12_work 38 = .ok (.iconst 1, 1) := by decide +kernel
theorem dX12_work_39 : decode cX12_work 39 = .ok (.iadd, 1) := by decide +kernel
theorem dX12_work_40 : decode cX12_work 40 = .ok (.iaload, 1) := by decide +kernel
theorem dX12_work_41 : decode cX12_work 41 = .ok (.istore 8, 2) := by decide +kernel
theorem dX12_work_43 : decode cX12_work 43 = .ok (.iload 7, 2) := by decide +kernel
theorem dX12_work_45 : decode cX12_work 45 = .ok (.iconst 1, 1) := by decide +kernel
theorem dX12_work_46 : decode cX12_work 46 = .ok (.if_icmp .le 10, 3) := by decide +kernel
theorem dX12_work_49 : decode cX12_work 49 = .ok (.iload 7, 2) := by decide +kernel
theorem dX12_work_51 : decode cX12_work 51 = .ok (.bipush 30, 2) := by decide +kernel
theorem dX12_work_53 : decode cX12_work 53 = .ok (.if_icmp .lt 28, 3) := by decide +kernel
theorem dX12_work_56 : decode cX12_work 56 = .ok (.aload_n 0, 1) := by decide +kernel
theorem dX12_work_57 : decode cX12_work 57 = .ok (.getfield 50, 3) := by decide +kernel
