theorem dX11_body_11 : decode cX11_body 11 = .ok (.iload_n 1, 1) := by decide +kernel
theorem dX11_body_12 : decode cX11_body 12 = .ok (.invokevirtual 57, 3) := by decide +kernel
theorem dX11_body_15 : decode cX11_body 15 = .ok (.ifCond .eq 25, 3) := by decide +kernel
theorem dX11_body_18 : decode cX11_body 18 = .ok (.iload 4, 2) := by decide +kernel
theorem dX11_body_20 : decode cX11_body 20 = .ok (.iconst 1, 1) := by decide +kernel
theorem dX11_body_21 : decode cX11_body 21 = .ok (.sipush 255, 3) := by decide +kernel
theorem dX11_body_24 : decode cX11_body 24 = .ok (.invokestatic 63, 3) := by decide +kernel
theorem dX11_body_27 : decode cX11_body 27 = .ok (.ifCond .eq 13, 3) := by decide +kernel
theorem dX11_body_30 : decode cX11_body 30 = .ok (.aload 5, 2) := by decide +kernel
theorem dX11_body_32 : decode cX11_body 32 = .ok (.getfield 70, 3) := by decide +kernel
theorem dX11_body_35 : decode cX11_body 35 = .ok (.bipush 6, 2) := by decide +kernel
theorem dX11_body_37 : decode cX11_body 37 = .ok (.if_icmp .lt 5, 3) := by decide +kernel
theorem dX11_body_40 : decode cX11_body 40 = .ok (.iconst (-1), 1) := by decide +kernel
theorem dX11_body_41 : decode cX11_body 41 = .ok (.ireturn, 1) := by decide +kernel
theorem dX11_body_42 : decode cX11_body 42 = .ok (.iload_n 2, 1) := by decide +kernel
theorem dX11_body_43 : decode cX11_body 43 = .ok (.bipush (-2), 2) := by decide +kernel
theorem dX11_body_45 : decode cX11_body 45 = .ok (.iconst 2, 1) := by decide +kernel
theorem dX11_body_46 : decode cX11_body 46 = .ok (.invokestatic 63, 3) := by decide +kernel
theorem dX11_body_49 : decode cX11_body 49 = .ok (.ifCond .eq 13, 3) := by decide +kernel
theorem dX11_body_52 : decode cX11_body 52 = .ok (.iload_n 3, 1) := by decide +kernel
theorem dX11_body_53 : decode cX11_body 53 = .ok (.bipush (-2), 2) := by decide +kernel
theorem dX11_body_55 : decode cX11_body 55 = .ok (.iconst 2, 1) := by decide +kernel
theorem dX11_body_56 : decode cX11_body 56 = .ok (.invokestatic 63, 3) := by decide +kernel
theorem dX11_body_59 : decode cX11_body 59 = .ok (.ifCond .ne 5, 3) := by decide +kernel
theorem dX11_body_62 : decode cX11_body 62 = .ok (.iconst (-1), 1) := by decide +kernel
theorem dX11_body_63 : decode cX11_body 63 = .ok (.ireturn, 1) := by decide +kernel
theorem dX11_body_64 : decode cX11_body 64 = .ok (.aload 5, 2) := by decide +kernel
theorem dX11_body_66 : decode cX11_body 66 = .ok (.getfield 70, 3) := by decide +kernel
theorem dX11_body_69 : decode cX11_body 69 = .ok (.istore 6, 2) := by decide +kernel
theorem dX11_body_71 : decode cX11_body 71 = .ok (.aload 5, 2) := by decide +kernel
theorem dX11_body_73 : decode cX11_body 73 = .ok (.getfield 74, 3) := by decide +kernel
theorem dX11_body_76 : decode cX11_body 76 = .ok (.iload 6, 2) := by decide +kernel
theorem dX11_body_78 : decode cX11_body 78 = .ok (.aload 5, 2) := by decide +kernel
theorem dX11_body_80 : decode cX11_body 80 = .ok (.iload_n 1, 1) := by decide +kernel
theorem dX11_body_81 : decode cX11_body 81 = .ok (.invokevirtual 77, 3) := by decide +kernel
theorem dX11_body_84 : decode cX11_body 84 = .ok (.iastore, 1) := by decide +kernel
theorem dX11_body_85 : decode cX11_body 85 = .ok (.aload 5, 2) := by decide +kernel
theorem dX11_body_87 : decode cX11_body 87 = .ok (.getfield 81, 3) := by decide +kernel
theorem dX11_body_90 : decode cX11_body 90 = .ok (.iload 6, 2) := by decide +kernel
theorem dX11_body_92 : decode cX11_body 92 = .ok (.iload_n 1, 1) := by decide +kernel
theorem dX11_body_93 : decode cX11_body 93 = .ok (.aload 5, 2) := by decide +kernel
theorem dX11_body_95 : decode cX11_body 95 = .ok (.getfield 74, 3) := by decide +kernel
theorem dX11_body_98 : decode cX11_body 98 = .ok (.iload 6, 2) := by decide +kernel
theorem dX11_body_100 : decode cX11_body 100 = .ok (.iaload, 1) := by decide +kernel
theorem dX11_body_101 : decode cX11_body 101 = .ok (.aload 5, 2) := by decide +kernel
theorem dX11_body_103 : decode cX11_body 103 = .ok (.getfield 84, 3) := by decide +kernel
theorem dX11_body_106 : decode cX11_body 106 = .ok (.imul, 1) := by decide +kernel
theorem dX11_body_107 : decode cX11_body 107 = .ok (.isub, 1) := by decide +kernel
theorem dX11_body_108 : decode cX11_body 108 = .ok (.iastore, 1) := by decide +kernel
theorem dX11_body_109 : decode cX11_body 109 = .ok (.aload 5, 2) := by decide +kernel
theorem dX11_body_111 : decode cX11_body 111 = .ok (.getfield 87, 3) := by decide +kernel
theorem dX11_body_114 : decode cX11_body 114 = .ok (.iload 6, 2) := by decide +kernel
theorem dX11_body_116 : decode cX11_body 116 = .ok (.iload_n 2, 1) := by decide +kernel
theorem dX11_body_117 : decode cX11_body 117 = .ok (.iastore, 1) := by decide +kernel
theorem dX11_body_118 : decode cX11_body 118 = .ok (.aload 5, 2) := by decide +kernel
theorem dX11_body_120 : decode cX11_body 120 = .ok (.getfield 90, 3) := by decide +kernel
theorem dX11_body_123 : decode cX11_body 123 = .ok (.iload 6, 2) := by decide +kernel
theorem dX11_body_125 : decode cX11_body 125 = .ok (.iload_n 3, 1) := by decide +kernel
theorem dX11_body_126 : decode cX11_body 126 = .ok (.iastore, 1) := by decide +kernel
theorem dX11_body_127 : decode cX11_body 127 = .ok (.aload 5, 2) := by decide +kernel
theorem dX11_body_129 : decode cX11_body 129 = .ok (.getfield 93, 3) := by decide +kernel
theorem dX11_body_132 : decode cX11_body 132 = .ok (.iload 6, 2) := by decide +kernel
theorem dX11_body_134 : decode cX11_body 134 = .ok (.iload 4, 2) := by decide +kernel
theorem dX11_body_136 : decode cX11_body 136 = .ok (.iastore, 1) := by decide +kernel
theorem dX11_body_137 : decode cX11_body 137 = .ok (.aload 5, 2) := by decide +kernel
theorem dX11_body_139 : decode cX11_body 139 = .ok (.iload 6, 2) := by decide +kernel
theorem dX11_body_141 : decode cX11_body 141 = .ok (.iconst 1, 1) := by decide +kernel
theorem dX11_body_142 : decode cX11_body 142 = .ok (.iadd, 1) := by decide +kernel
theorem dX11_body_143 : decode cX11_body 143 = .ok (.putfield 70, 3) := by decide +kernel
theorem dX11_body_146 : decode cX11_body 146 = .ok (.iload 6, 2) := by decide +kernel
theorem dX11_body_148 : decode cX11_body 148 = .ok (.ireturn, 1) := by decide +kernel
theorem dX11_markOf_0 : decode cX11_markOf 0 = .ok (.aload_n 0, 1) := by decide +kernel
theorem dX11_markOf_1 : decode cX11_markOf 1 = .ok (.getfield 14, 3) := by decide +kernel
theorem dX11_markOf_4 : decode cX11_markOf 4 = .ok (.getfield 23, 3) := by decide +kernel
theorem dX11_markOf_7 : decode cX11_markOf 7 = .ok (.iload_n 1, 1) := by decide +kernel
theorem dX11_markOf_8 : decode cX11_markOf 8 = .ok (.invokevirtual 57, 3) := by decide +kernel
theorem dX11_markOf_11 : decode cX11_markOf 11 = .ok (.ifCond .eq 25, 3) := by decide +kernel
theorem dX11_markOf_14 : decode cX11_markOf 14 = .ok (.iload_n 2, 1) := by decide +kernel
theorem dX11_markOf_15 : decode cX11_markOf 15 = .ok (.invokestatic 96, 3) := by decide +kernel
theorem dX11_markOf_18 : decode cX11_markOf 18 = .ok (.ifCond .eq 18, 3) := by decide +kernel
theorem dX11_markOf_21 : decode cX11_markOf 21 = .ok (.aload_n 0, 1) := by decide +kernel
theorem dX11_markOf_22 : decode cX11_markOf 22 = .ok (.getfield 14, 3) := by decide +kernel
theorem dX11_markOf_25 : decode cX11_markOf 25 = .ok (.getfield 23, 3) := by decide +kernel
theorem dX11_markOf_28 : decode cX11_markOf 28 = .ok (.iload_n 1, 1) := by decide +kernel
theorem dX11_markOf_29 : decode cX11_markOf 29 = .ok (.iload_n 2, 1) := by decide +kernel
theorem dX11_markOf_30 : decode cX11_markOf 30 = .ok (.invokevirtual 99, 3) := by decide +kernel
theorem dX11_markOf_33 : decode cX11_markOf 33 = .ok (.goto 4, 3) := by decide +kernel
theorem dX11_markOf_36 : decode cX11_markOf 36 = .ok (.iconst (-1), 1) := by decide +kernel
theorem dX11_markOf_37 : decode cX11_markOf 37 = .ok (.ireturn, 1) := by decide +kernel
theorem dX11_lens_0 : decode cX11_lens 0 = .ok (.aload_n 0, 1) := by decide +kernel
theorem dX11_lens_1 : decode cX11_lens 1 = .ok (.getfield 14, 3) := by decide +kernel
theorem dX11_lens_4 : decode cX11_lens 4 = .ok (.getfield 103, 3) := by decide +kernel
theorem dX11_lens_7 : decode cX11_lens 7 = .ok (.astore_n 3, 1) := by decide +kernel
theorem dX11_lens_8 : decode cX11_lens 8 = .ok (.iload_n 1, 1) := by decide +kernel
theorem dX11_lens_9 : decode cX11_lens 9 = .ok (.invokestatic 107, 3) := by decide +kernel
theorem dX11_lens_12 : decode cX11_lens 12 = .ok (.ifCond .eq 22, 3) := by decide +kernel
theorem dX11_lens_15 : decode cX11_lens 15 = .ok (.iload_n 2, 1) := by decide +kernel
theorem dX11_lens_16 : decode cX11_lens 16 = .ok (.iconst 0, 1) := by decide +kernel
theorem dX11_lens_17 : decode cX11_lens 17 = .ok (.bipush 7, 2) := by decide +kernel
theorem dX11_lens_19 : decode cX11_lens 19 = .ok (.invokestatic 63, 3) := by decide +kernel
theorem dX11_lens_22 : decode cX11_lens 22 = .ok (.ifCond .eq 12, 3) := by decide +kernel
theorem dX11_lens_25 : decode cX11_lens 25 = .ok (.aload_n 3, 1) := by decide +kernel
theorem dX11_lens_26 : decode cX11_lens 26 = .ok (.getfield 110, 3) := by decide +kernel
theorem dX11_lens_29 : decode cX11_lens 29 = .ok (.bipush 16, 2) := by decide +kernel
theorem dX11_lens_31 : decode cX11_lens 31 = .ok (.if_icmp .lt 5, 3) := by decide +kernel
theorem dX11_lens_34 : decode cX11_lens 34 = .ok (.iconst (-1), 1) := by decide +kernel
theorem dX11_lens_35 : decode cX11_lens 35 = .ok (.ireturn, 1) := by decide +kernel
theorem dX11_lens_36 : decode cX11_lens 36 = .ok (.aload_n 3, 1) := by decide +kernel
theorem dX11_lens_37 : decode cX11_lens 37 = .ok (.getfield 110, 3) := by decide +kernel
theorem dX11_lens_40 : decode cX11_lens 40 = .ok (.istore 4, 2) := by decide +kernel
theorem dX11_lens_42 : decode cX11_lens 42 = .ok (.aload_n 3, 1) := by decide +kernel
theorem dX11_lens_43 : decode cX11_lens 43 = .ok (.getfield 115, 3) := by decide +kernel
theorem dX11_lens_46 : decode cX11_lens 46 = .ok (.iload 4, 2) := by decide +kernel
theorem dX11_lens_48 : decode cX11_lens 48 = .ok (.iload_n 1, 1) := by decide +kernel
theorem dX11_lens_49 : decode cX11_lens 49 = .ok (.iastore, 1) := by decide +kernel
theorem dX11_lens_50 : decode cX11_lens 50 = .ok (.aload_n 3, 1) := by decide +kernel
theorem dX11_lens_51 : decode cX11_lens 51 = .ok (.getfield 118, 3) := by decide +kernel
theorem dX11_lens_54 : decode cX11_lens 54 = .ok (.iload 4, 2) := by decide +kernel
theorem dX11_lens_56 : decode cX11_lens 56 = .ok (.iload_n 2, 1) := by decide +kernel
theorem dX11_lens_57 : decode cX11_lens 57 = .ok (.iastore, 1) := by decide +kernel
theorem dX11_lens_58 : decode cX11_lens 58 = .ok (.aload_n 3, 1) := by decide +kernel
theorem dX11_lens_59 : decode cX11_lens 59 = .ok (.iload 4, 2) := by decide +kernel
theorem dX11_lens_61 : decode cX11_lens 61 = .ok (.iconst 1, 1) := by decide +kernel
theorem dX11_lens_62 : decode cX11_lens 62 = .ok (.iadd, 1) := by decide +kernel
theorem dX11_lens_63 : decode cX11_lens 63 = .ok (.putfield 110, 3) := by decide +kernel
theorem dX11_lens_66 : decode cX11_lens 66 = .ok (.iload 4, 2) := by decide +kernel
theorem dX11_lens_68 : decode cX11_lens 68 = .ok (.ireturn, 1) := by decide +kernel
theorem dX11_pair_0 : decode cX11_pair 0 = .ok (.aload_n 0, 1) := by decide +kernel
theorem dX11_pair_1 : decode cX11_pair 1 = .ok (.getfield 14, 3) := by decide +kernel
theorem dX11_pair_4 : decode cX11_pair 4 = .ok (.getfield 103, 3) := by decide +kernel
theorem dX11_pair_7 : decode cX11_pair 7 = .ok (.astore 4, 2) := by decide +kernel
theorem dX11_pair_9 : decode cX11_pair 9 = .ok (.aload 4, 2) := by decide +kernel
theorem dX11_pair_11 : decode cX11_pair 11 = .ok (.iload_n 1, 1) := by decide +kernel
theorem dX11_pair_12 : decode cX11_pair 12 = .ok (.invokevirtual 121, 3) := by decide +kernel
theorem dX11_pair_15 : decode cX11_pair 15 = .ok (.ifCond .eq 17, 3) := by decide +kernel
theorem dX11_pair_18 : decode cX11_pair 18 = .ok (.aload 4, 2) := by decide +kernel
theorem dX11_pair_20 : decode cX11_pair 20 = .ok (.iload_n 2, 1) := by decide +kernel
theorem dX11_pair_21 : decode cX11_pair 21 = .ok (.invokevirtual 121, 3) := by decide +kernel
theorem dX11_pair_24 : decode cX11_pair 24 = .ok (.ifCond .eq 8, 3) := by decide +kernel
theorem dX11_pair_27 : decode cX11_pair 27 = .ok (.iload_n 1, 1) := by decide +kernel
theorem dX11_pair_28 : decode cX11_pair 28 = .ok (.iload_n 2, 1) := by decide +kernel
theorem dX11_pair_29 : decode cX11_pair 29 = .ok (.if_icmp .ne 5, 3) := by decide +kernel
theorem dX11_pair_32 : decode cX11_pair 32 = .ok (.iconst (-1), 1) := by decide +kernel
theorem dX11_pair_33 : decode cX11_pair 33 = .ok (.ireturn, 1) := by decide +kernel
theorem dX11_pair_34 : decode cX11_pair 34 = .ok (.iload_n 3, 1) := by decide +kernel
theorem dX11_pair_35 : decode cX11_pair 35 = .ok (.iconst 1, 1) := by decide +kernel
theorem dX11_pair_36 : decode cX11_pair 36 = .ok (.bipush 8, 2) := by decide +kernel
theorem dX11_pair_38 : decode cX11_pair 38 = .ok (.invokestatic 63, 3) := by decide +kernel
theorem dX11_pair_41 : decode cX11_pair 41 = .ok (.ifCond .eq 13, 3) := by decide +kernel
theorem dX11_pair_44 : decode cX11_pair 44 = .ok (.aload 4, 2) := by decide +kernel
theorem dX11_pair_46 : decode cX11_pair 46 = .ok (.getfield 124, 3) := by decide +kernel
theorem dX11_pair_49 : decode cX11_pair 49 = .ok (.bipush 16, 2) := by decide +kernel
theorem dX11_pair_51 : decode cX11_pair 51 = .ok (.if_icmp .lt 5, 3) := by decide +kernel
theorem dX11_pair_54 : decode cX11_pair 54 = .ok (.iconst (-1), 1) := by decide +kernel
theorem dX11_pair_55 : decode cX11_pair 55 = .ok (.ireturn, 1) := by decide +kernel
theorem dX11_pair_56 : decode cX11_pair 56 = .ok (.aload 4, 2) := by decide +kernel
theorem dX11_pair_58 : decode cX11_pair 58 = .ok (.getfield 124, 3) := by decide +kernel
theorem dX11_pair_61 : decode cX11_pair 61 = .ok (.istore 5, 2) := by decide +kernel
theorem dX11_pair_63 : decode cX11_pair 63 = .ok (.aload 4, 2) := by decide +kernel
theorem dX11_pair_65 : decode cX11_pair 65 = .ok (.getfield 127, 3) := by decide +kernel
theorem dX11_pair_68 : decode cX11_pair 68 = .ok (.iload 5, 2) := by decide +kernel
theorem dX11_pair_70 : decode cX11_pair 70 = .ok (.iload_n 1, 1) := by decide +kernel
theorem dX11_pair_71 : decode cX11_pair 71 = .ok (.iastore, 1) := by decide +kernel
theorem dX11_pair_72 : decode cX11_pair 72 = .ok (.aload 4, 2) := by decide +kernel
theorem dX11_pair_74 : decode cX11_pair 74 = .ok (.getfield 130, 3) := by decide +kernel
theorem dX11_pair_77 : decode cX11_pair 77 = .ok (.iload 5, 2) := by decide +kernel
theorem dX11_pair_79 : decode cX11_pair 79 = .ok (.iload_n 2, 1) := by decide +kernel
theorem dX11_pair_80 : decode cX11_pair 80 = .ok (.iastore, 1) := by decide +kernel
theorem dX11_pair_81 : decode cX11_pair 81 = .ok (.aload 4, 2) := by decide +kernel
theorem dX11_pair_83 : decode cX11_pair 83 = .ok (.getfield 133, 3) := by decide +kernel
theorem dX11_pair_86 : decode cX11_pair 86 = .ok (.iload 5, 2) := by decide +kernel
theorem dX11_pair_88 : decode cX11_pair 88 = .ok (.iload_n 3, 1) := by decide +kernel
theorem dX11_pair_89 : decode cX11_pair 89 = .ok (.iastore, 1) := by decide +kernel
theorem dX11_pair_90 : decode cX11_pair 90 = .ok (.aload 4, 2) := by decide +kernel
theorem dX11_pair_92 : decode cX11_pair 92 = .ok (.iload 5, 2) := by decide +kernel
theorem dX11_pair_94 : decode cX11_pair 94 = .ok (.iconst 1, 1) := by decide +kernel
theorem dX11_pair_95 : decode cX11_pair 95 = .ok (.iadd, 1) := by decide +kernel
theorem dX11_pair_96 : decode cX11_pair 96 = .ok (.putfield 124, 3) := by decide +kernel
theorem dX11_pair_99 : decode cX11_pair 99 = .ok (.iload 5, 2) := by decide +kernel
theorem dX11_pair_101 : decode cX11_pair 101 = .ok (.ireturn, 1) := by decide +kernel
theorem dX11_ray_0 : decode cX11_ray 0 = .ok (.aload_n 0, 1) := by decide +kernel
theorem dX11_ray_1 : decode cX11_ray 1 = .ok (.getfield 14, 3) := by decide +kernel
theorem dX11_ray_4 : decode cX11_ray 4 = .ok (.getfield 23, 3) := by decide +kernel
theorem dX11_ray_7 : decode cX11_ray 7 = .ok (.iload_n 1, 1) := by decide +kernel
theorem dX11_ray_8 : decode cX11_ray 8 = .ok (.iload_n 2, 1) := by decide +kernel
theorem dX11_ray_9 : decode cX11_ray 9 = .ok (.invokevirtual 136, 3) := by decide +kernel
theorem dX11_ray_12 : decode cX11_ray 12 = .ok (.ifCond .eq 18, 3) := by decide +kernel
theorem dX11_ray_15 : decode cX11_ray 15 = .ok (.iload_n 3, 1) := by decide +kernel
theorem dX11_ray_16 : decode cX11_ray 16 = .ok (.invokestatic 107, 3) := by decide +kernel
theorem dX11_ray_19 : decode cX11_ray 19 = .ok (.ifCond .eq 11, 3) := by decide +kernel
theorem dX11_ray_22 : decode cX11_ray 22 = .ok (.iload 4, 2) := by decide +kernel
theorem dX11_ray_24 : decode cX11_ray 24 = .ok (.invokestatic 96, 3) := by decide +kernel
theorem dX11_ray_27 : decode cX11_ray 27 = .ok (.ifCond .ne 5, 3) := by decide +kernel
theorem dX11_ray_30 : decode cX11_ray 30 = .ok (.iconst (-1), 1) := by decide +kernel
theorem dX11_ray_31 : decode cX11_ray 31 = .ok (.ireturn, 1) := by decide +kernel
theorem dX11_ray_32 : decode cX11_ray 32 = .ok (.aload_n 0, 1) := by decide +kernel
theorem dX11_ray_33 : decode cX11_ray 33 = .ok (.getfield 30, 3) := by decide +kernel
theorem dX11_ray_36 : decode cX11_ray 36 = .ok (.iload_n 1, 1) := by decide +kernel
theorem dX11_ray_37 : decode cX11_ray 37 = .ok (.iload_n 2, 1) := by decide +kernel
theorem dX11_ray_38 : decode cX11_ray 38 = .ok (.iload 4, 2) := by decide +kernel
theorem dX11_ray_40 : decode cX11_ray 40 = .ok (.invokevirtual 140, 3) := by decide +kernel
theorem dX11_ray_43 : decode cX11_ray 43 = .ok (.aload_n 0, 1) := by decide +kernel
theorem dX11_ray_44 : decode cX11_ray 44 = .ok (.getfield 30, 3) := by decide +kernel
theorem dX11_ray_47 : decode cX11_ray 47 = .ok (.iload_n 3, 1) := by decide +kernel
theorem dX11_ray_48 : decode cX11_ray 48 = .ok (.invokevirtual 144, 3) := by decide +kernel
theorem dX11_ray_51 : decode cX11_ray 51 = .ok (.istore 6, 2) := by decide +kernel
theorem dX11_ray_53 : decode cX11_ray 53 = .ok (.iload 5, 2) := by decide +kernel
theorem dX11_ray_55 : decode cX11_ray 55 = .ok (.ifCond .eq 11, 3) := by decide +kernel
theorem dX11_ray_58 : decode cX11_ray 58 = .ok (.iload 6, 2) := by decide +kernel
theorem dX11_ray_60 : decode cX11_ray 60 = .ok (.bipush 8, 2) := by decide +kernel
theorem dX11_ray_62 : decode cX11_ray 62 = .ok (.ishr, 1) := by decide +kernel
theorem dX11_ray_63 : decode cX11_ray 63 = .ok (.goto 9, 3) := by decide +kernel
theorem dX11_ray_66 : decode cX11_ray 66 = .ok (.iload 6, 2) := by decide +kernel
theorem dX11_ray_68 : decode cX11_ray 68 = .ok (.sipush 255, 3) := by decide +kernel
theorem dX11_ray_71 : decode cX11_ray 71 = .ok (.iand, 1) := by decide +kernel
theorem dX11_ray_72 : decode cX11_ray 72 = .ok (.ireturn, 1) := by decide +kernel
theorem dX11_take_0 : decode cX11_take 0 = .ok (.aload_n 0, 1) := by decide +kernel
theorem dX11_take_1 : decode cX11_take 1 = .ok (.getfield 14, 3) := by decide +kernel
theorem dX11_take_4 : decode cX11_take 4 = .ok (.getfield 103, 3) := by decide +kernel
theorem dX11_take_7 : decode cX11_take 7 = .ok (.astore 6, 2) := by decide +kernel
theorem dX11_take_9 : decode cX11_take 9 = .ok (.aload 6, 2) := by decide +kernel
theorem dX11_take_11 : decode cX11_take 11 = .ok (.iload_n 1, 1) := by decide +kernel
theorem dX11_take_12 : decode cX11_take 12 = .ok (.invokevirtual 121, 3) := by decide +kernel
theorem dX11_take_15 : decode cX11_take 15 = .ok (.ifCond .eq 22, 3) := by decide +kernel
theorem dX11_take_18 : decode cX11_take 18 = .ok (.aload_n 0, 1) := by decide +kernel
theorem dX11_take_19 : decode cX11_take 19 = .ok (.iload_n 2, 1) := by decide +kernel
theorem dX11_take_20 : decode cX11_take 20 = .ok (.iload_n 3, 1) := by decide +kernel
theorem dX11_take_21 : decode cX11_take 21 = .ok (.iload 4, 2) := by decide +kernel
theorem dX11_take_23 : decode cX11_take 23 = .ok (.invokevirtual 147, 3) := by decide +kernel
theorem dX11_take_26 : decode cX11_take 26 = .ok (.ifCond .eq 11, 3) := by decide +kernel
theorem dX11_take_29 : decode cX11_take 29 = .ok (.iload 5, 2) := by decide +kernel
theorem dX11_take_31 : decode cX11_take 31 = .ok (.invokestatic 96, 3) := by decide +kernel
theorem dX11_take_34 : decode cX11_take 34 = .ok (.ifCond .ne 5, 3) := by decide +kernel
theorem dX11_take_37 : decode cX11_take 37 = .ok (.iconst (-1), 1) := by decide +kernel
theorem dX11_take_38 : decode cX11_take 38 = .ok (.ireturn, 1) := by decide +kernel
theorem dX11_take_39 : decode cX11_take 39 = .ok (.aload_n 0, 1) := by decide +kernel
theorem dX11_take_40 : decode cX11_take 40 = .ok (.getfield 30, 3) := by decide +kernel
theorem dX11_take_43 : decode cX11_take 43 = .ok (.iload_n 2, 1) := by decide +kernel
theorem dX11_take_44 : decode cX11_take 44 = .ok (.iload_n 3, 1) := by decide +kernel
theorem dX11_take_45 : decode cX11_take 45 = .ok (.iload 5, 2) := by decide +kernel
theorem dX11_take_47 : decode cX11_take 47 = .ok (.invokevirtual 140, 3) := by decide +kernel
theorem dX11_take_50 : decode cX11_take 50 = .ok (.aload_n 0, 1) := by decide +kernel
theorem dX11_take_51 : decode cX11_take 51 = .ok (.getfield 30, 3) := by decide +kernel
theorem dX11_take_54 : decode cX11_take 54 = .ok (.aload 6, 2) := by decide +kernel
theorem dX11_take_56 : decode cX11_take 56 = .ok (.getfield 115, 3) := by decide +kernel
theorem dX11_take_59 : decode cX11_take 59 = .ok (.iload_n 1, 1) := by decide +kernel
theorem dX11_take_60 : decode cX11_take 60 = .ok (.iaload, 1) := by decide +kernel
theorem dX11_take_61 : decode cX11_take 61 = .ok (.aload 6, 2) := by decide +kernel
theorem dX11_take_63 : decode cX11_take 63 = .ok (.getfield 118, 3) := by decide +kernel
theorem dX11_take_66 : decode cX11_take 66 = .ok (.iload_n 1, 1) := by decide +kernel
theorem dX11_take_67 : decode cX11_take 67 = .ok (.iaload, 1) := by decide +kernel
theorem dX11_take_68 : decode cX11_take 68 = .ok (.iload 4, 2) := by decide +kernel
theorem dX11_take_70 : decode cX11_take 70 = .ok (.invokevirtual 150, 3) := by decide +kernel
theorem dX11_take_73 : decode cX11_take 73 = .ok (.ireturn, 1) := by decide +kernel
theorem dX11_covered_0 : decode cX11_covered 0 = .ok (.iload_n 1, 1) := by decide +kernel
theorem dX11_covered_1 : decode cX11_covered 1 = .ok (.invokestatic 107, 3) := by decide +kernel
theorem dX11_covered_4 : decode cX11_covered 4 = .ok (.ifCond .eq 15, 3) := by decide +kernel
theorem dX11_covered_7 : decode cX11_covered 7 = .ok (.aload_n 0, 1) := by decide +kernel
theorem dX11_covered_8 : decode cX11_covered 8 = .ok (.getfield 14, 3) := by decide +kernel
theorem dX11_covered_11 : decode cX11_covered 11 = .ok (.getfield 103, 3) := by decide +kernel
theorem dX11_covered_14 : decode cX11_covered 14 = .ok (.iload_n 1, 1) := by decide +kernel
theorem dX11_covered_15 : decode cX11_covered 15 = .ok (.invokevirtual 154, 3) := by decide +kernel
theorem dX11_covered_18 : decode cX11_covered 18 = .ok (.ireturn, 1) := by decide +kernel
theorem dX11_covered_19 : decode cX11_covered 19 = .ok (.iload_n 1, 1) := by decide +kernel
theorem dX11_covered_20 : decode cX11_covered 20 = .ok (.iconst (-1), 1) := by decide +kernel
theorem dX11_covered_21 : decode cX11_covered 21 = .ok (.if_icmp .ne 16, 3) := by decide +kernel
theorem dX11_covered_24 : decode cX11_covered 24 = .ok (.aload_n 0, 1) := by decide +kernel
theorem dX11_covered_25 : decode cX11_covered 25 = .ok (.getfield 14, 3) := by decide +kernel
theorem dX11_covered_28 : decode cX11_covered 28 = .ok (.getfield 103, 3) := by decide +kernel
theorem dX11_covered_31 : decode cX11_covered 31 = .ok (.invokevirtual 157, 3) := by decide +kernel
theorem dX11_covered_34 : decode cX11_covered 34 = .ok (.goto 4, 3) := by decide +kernel
theorem dX11_covered_37 : decode cX11_covered 37 = .ok (.iconst (-1), 1) := by decide +kernel
theorem dX11_covered_38 : decode cX11_covered 38 = .ok (.ireturn, 1) := by decide +kernel
theorem dX11_ends_0 : decode cX11_ends 0 = .ok (.iload_n 1, 1) := by decide +kernel
theorem dX11_ends_1 : decode cX11_ends 1 = .ok (.invokestatic 107, 3) := by decide +kernel
theorem dX11_ends_4 : decode cX11_ends 4 = .ok (.ifCond .eq 14, 3) := by decide +kernel
theorem dX11_ends_7 : decode cX11_ends 7 = .ok (.aload_n 0, 1) := by decide +kernel
theorem dX11_ends_8 : decode cX11_ends 8 = .ok (.iload_n 2, 1) := by decide +kernel
theorem dX11_ends_9 : decode cX11_ends 9 = .ok (.iload_n 3, 1) := by decide +kernel
theorem dX11_ends_10 : decode cX11_ends 10 = .ok (.iload 4, 2) := by decide +kernel
theorem dX11_ends_12 : decode cX11_ends 12 = .ok (.invokevirtual 147, 3) := by decide +kernel
theorem dX11_ends_15 : decode cX11_ends 15 = .ok (.ifCond .ne 5, 3) := by decide +kernel
theorem dX11_ends_18 : decode cX11_ends 18 = .ok (.iconst (-1), 1) := by decide +kernel
theorem dX11_ends_19 : decode cX11_ends 19 = .ok (.ireturn, 1) := by decide +kernel
theorem dX11_ends_20 : decode cX11_ends 20 = .ok (.aload_n 0, 1) := by decide +kernel
theorem dX11_ends_21 : decode cX11_ends 21 = .ok (.getfield 30, 3) := by decide +kernel
theorem dX11_ends_24 : decode cX11_ends 24 = .ok (.iload_n 2, 1) := by decide +kernel
theorem dX11_ends_25 : decode cX11_ends 25 = .ok (.iload_n 3, 1) := by decide +kernel
theorem dX11_ends_26 : decode cX11_ends 26 = .ok (.iconst 0, 1) := by decide +kernel
theorem dX11_ends_27 : decode cX11_ends 27 = .ok (.invokevirtual 140, 3) := by decide +kernel
theorem dX11_ends_30 : decode cX11_ends 30 = .ok (.aload_n 0, 1) := by decide +kernel
theorem dX11_ends_31 : decode cX11_ends 31 = .ok (.getfield 14, 3) := by decide +kernel
theorem dX11_ends_34 : decode cX11_ends 34 = .ok (.getfield 103, 3) := by decide +kernel
theorem dX11_ends_37 : decode cX11_ends 37 = .ok (.astore 6, 2) := by decide +kernel
theorem dX11_ends_39 : decode cX11_ends 39 = .ok (.iconst 0, 1) := by decide +kernel
theorem dX11_ends_40 : decode cX11_ends 40 = .ok (.istore 7, 2) := by decide +kernel
theorem dX11_ends_42 : decode cX11_ends 42 = .ok (.sipush 255, 3) := by decide +kernel
theorem dX11_ends_45 : decode cX11_ends 45 = .ok (.istore 8, 2) := by decide +kernel
theorem dX11_ends_47 : decode cX11_ends 47 = .ok (.iconst 0, 1) := by decide +kernel
theorem dX11_ends_48 : decode cX11_ends 48 = .ok (.istore 9, 2) := by decide +kernel
theorem dX11_ends_50 : decode cX11_ends 50 = .ok (.iload 9, 2) := by decide +kernel
theorem dX11_ends_52 : decode cX11_ends 52 = .ok (.aload 6, 2) := by decide +kernel
theorem dX11_ends_54 : decode cX11_ends 54 = .ok (.getfield 110, 3) := by decide +kernel
theorem dX11_ends_57 : decode cX11_ends 57 = .ok (.if_icmp .ge 110, 3) := by decide +kernel
theorem dX11_ends_60 : decode cX11_ends 60 = .ok (.aload 6, 2) := by decide +kernel
theorem dX11_ends_62 : decode cX11_ends 62 = .ok (.iload 9, 2) := by decide +kernel
theorem dX11_ends_64 : decode cX11_ends 64 = .ok (.iload_n 1, 1) := by decide +kernel
theorem dX11_ends_65 : decode cX11_ends 65 = .ok (.invokevirtual 161, 3) := by decide +kernel
theorem dX11_ends_68 : decode cX11_ends 68 = .ok (.istore 10, 2) := by decide +kernel
theorem dX11_ends_70 : decode cX11_ends 70 = .ok (.iload 10, 2) := by decide +kernel
theorem dX11_ends_72 : decode cX11_ends 72 = .ok (.ifCond .le 89, 3) := by decide +kernel
theorem dX11_ends_75 : decode cX11_ends 75 = .ok (.aload 6, 2) := by decide +kernel
theorem dX11_ends_77 : decode cX11_ends 77 = .ok (.getfield 118, 3) := by decide +kernel
theorem dX11_ends_80 : decode cX11_ends 80 = .ok (.iload 9, 2) := by decide +kernel
theorem dX11_ends_82 : decode cX11_ends 82 = .ok (.iaload, 1) := by decide +kernel
theorem dX11_ends_83 : decode cX11_ends 83 = .ok (.invokestatic 164, 3) := by decide +kernel
theorem dX11_ends_86 : decode cX11_ends 86 = .ok (.istore 11, 2) := by decide +kernel
theorem dX11_ends_88 : decode cX11_ends 88 = .ok (.aload_n 0, 1) := by decide +kernel
theorem dX11_ends_89 : decode cX11_ends 89 = .ok (.getfield 30, 3) := by decide +kernel
theorem dX11_ends_92 : decode cX11_ends 92 = .ok (.aload 6, 2) := by decide +kernel
theorem dX11_ends_94 : decode cX11_ends 94 = .ok (.getfield 115, 3) := by decide +kernel
theorem dX11_ends_97 : decode cX11_ends 97 = .ok (.iload 9, 2) := by decide +kernel
theorem dX11_ends_99 : decode cX11_ends 99 = .ok (.iaload, 1) := by decide +kernel
theorem dX11_ends_100 : decode cX11_ends 100 = .ok (.aload 6, 2) := by decide +kernel
theorem dX11_ends_102 : decode cX11_ends 102 = .ok (.getfield 118, 3) := by decide +kernel
theorem dX11_ends_105 : decode cX11_ends 105 = .ok (.iload 9, 2) := by decide +kernel
theorem dX11_ends_107 : decode cX11_ends 107 = .ok (.iaload, 1) := by decide +kernel
theorem dX11_ends_108 : decode cX11_ends 108 = .ok (.iload 4, 2) := by decide +kernel
theorem dX11_ends_110 : decode cX11_ends 110 = .ok (.invokevirtual 150, 3) := by decide +kernel
theorem dX11_ends_113 : decode cX11_ends 113 = .ok (.istore 12, 2) := by decide +kernel
theorem dX11_ends_115 : decode cX11_ends 115 = .ok (.iload 7, 2) := by decide +kernel
theorem dX11_ends_117 : decode cX11_ends 117 = .ok (.iload 12, 2) := by decide +kernel
theorem dX11_ends_119 : decode cX11_ends 119 = .ok (.iload 11, 2) := by decide +kernel
theorem dX11_ends_121 : decode cX11_ends 121 = .ok (.imul, 1) := by decide +kernel
theorem dX11_ends_122 : decode cX11_ends 122 = .ok (.sipush 255, 3) := by decide +kernel
theorem dX11_ends_125 : decode cX11_ends 125 = .ok (.iload 11, 2) := by decide +kernel
theorem dX11_ends_127 : decode cX11_ends 127 = .ok (.iload 10, 2) := by decide +kernel
theorem dX11_ends_129 : decode cX11_ends 129 = .ok (.isub, 1) := by decide +kernel
theorem dX11_ends_130 : decode cX11_ends 130 = .ok (.imul, 1) := by decide +kernel
theorem dX11_ends_131 : decode cX11_ends 131 = .ok (.isub, 1) := by decide +kernel
theorem dX11_ends_132 : decode cX11_ends 132 = .ok (.iload 10, 2) := by decide +kernel
theorem dX11_ends_134 : decode cX11_ends 134 = .ok (.invokestatic 167, 3) := by decide +kernel
theorem dX11_ends_137 : decode cX11_ends 137 = .ok (.invokestatic 170, 3) := by decide +kernel
theorem dX11_ends_140 : decode cX11_ends 140 = .ok (.istore 7, 2) := by decide +kernel
theorem dX11_ends_142 : decode cX11_ends 142 = .ok (.iload 8, 2) := by decide +kernel
theorem dX11_ends_144 : decode cX11_ends 144 = .ok (.iload 12, 2) := by decide +kernel
theorem dX11_ends_146 : decode cX11_ends 146 = .ok (.iconst 1, 1) := by decide +kernel
theorem dX11_ends_147 : decode cX11_ends 147 = .ok (.iadd, 1) := by decide +kernel
theorem dX11_ends_148 : decode cX11_ends 148 = .ok (.iload 11, 2) := by decide +kernel
theorem dX11_ends_150 : decode cX11_ends 150 = .ok (.imul, 1) := by decide +kernel
theorem dX11_ends_151 : decode cX11_ends 151 = .ok (.iconst 1, 1) := by decide +kernel
theorem dX11_ends_152 : decode cX11_ends 152 = .ok (.isub, 1) := by decide +kernel
theorem dX11_ends_153 : decode cX11_ends 153 = .ok (.iload 10, 2) := by decide +kernel
theorem dX11_ends_155 : decode cX11_ends 155 = .ok (.idiv, 1) := by decide +kernel
theorem dX11_ends_156 : decode cX11_ends 156 = .ok (.invokestatic 175, 3) := by decide +kernel
theorem dX11_ends_159 : decode cX11_ends 159 = .ok (.istore 8, 2) := by decide +kernel
theorem dX11_ends_161 : decode cX11_ends 161 = .ok (.iinc 9 1, 3) := by decide +kernel
theorem dX11_ends_164 : decode cX11_ends 164 = .ok (.goto (-114), 3) := by decide +kernel
theorem dX11_ends_167 : decode cX11_ends 167 = .ok (.iload 5, 2) := by decide +kernel
theorem dX11_ends_169 : decode cX11_ends 169 = .ok (.ifCond .eq 8, 3) := by decide +kernel
theorem dX11_ends_172 : decode cX11_ends 172 = .ok (.iload 8, 2) := by decide +kernel
theorem dX11_ends_174 : decode cX11_ends 174 = .ok (.goto 5, 3) := by decide +kernel
theorem dX11_ends_177 : decode cX11_ends 177 = .ok (.iload 7, 2) := by decide +kernel
theorem dX11_ends_179 : decode cX11_ends 179 = .ok (.ireturn, 1) := by decide +kernel
theorem dX11_width_0 : decode cX11_width 0 = .ok (.iload_n 1, 1) := by decide +kernel
theorem dX11_width_1 : decode cX11_width 1 = .ok (.invokestatic 107, 3) := by decide +kernel
theorem dX11_width_4 : decode cX11_width 4 = .ok (.ifCond .eq 22, 3) := by decide +kernel
theorem dX11_width_7 : decode cX11_width 7 = .ok (.iload_n 2, 1) := by decide +kernel
theorem dX11_width_8 : decode cX11_width 8 = .ok (.invokestatic 107, 3) := by decide +kernel
theorem dX11_width_11 : decode cX11_width 11 = .ok (.ifCond .eq 15, 3) := by decide +kernel
theorem dX11_width_14 : decode cX11_width 14 = .ok (.aload_n 0, 1) := by decide +kernel
theorem dX11_width_15 : decode cX11_width 15 = .ok (.iload_n 3, 1) := by decide +kernel
theorem dX11_width_16 : decode cX11_width 16 = .ok (.iload 4, 2) := by decide +kernel
theorem dX11_width_18 : decode cX11_width 18 = .ok (.iload 5, 2) := by decide +kernel
theorem dX11_width_20 : decode cX11_width 20 = .ok (.invokevirtual 147, 3) := by decide +kernel
theorem dX11_width_23 : decode cX11_width 23 = .ok (.ifCond .ne 5, 3) := by decide +kernel
theorem dX11_width_26 : decode cX11_width 26 = .ok (.iconst (-1), 1) := by decide +kernel
theorem dX11_width_27 : decode cX11_width 27 = .ok (.ireturn, 1) := by decide +kernel
theorem dX11_width_28 : decode cX11_width 28 = .ok (.aload_n 0, 1) := by decide +kernel
theorem dX11_width_29 : decode cX11_width 29 = .ok (.getfield 30, 3) := by decide +kernel
theorem dX11_width_32 : decode cX11_width 32 = .ok (.iload_n 3, 1) := by decide +kernel
theorem dX11_width_33 : decode cX11_width 33 = .ok (.iload 4, 2) := by decide +kernel
theorem dX11_width_35 : decode cX11_width 35 = .ok (.iconst 0, 1) := by decide +kernel
theorem dX11_width_36 : decode cX11_width 36 = .ok (.invokevirtual 140, 3) := by decide +kernel
theorem dX11_width_39 : decode cX11_width 39 = .ok (.iconst (-1), 1) := by decide +kernel
theorem dX11_width_40 : decode cX11_width 40 = .ok (.istore 6, 2) := by decide +kernel
theorem dX11_width_42 : decode cX11_width 42 = .ok (.iconst (-1), 1) := by decide +kernel
theorem dX11_width_43 : decode cX11_width 43 = .ok (.istore 7, 2) := by decide +kernel
theorem dX11_width_45 : decode cX11_width 45 = .ok (.iconst 0, 1) := by decide +kernel
theorem dX11_width_46 : decode cX11_width 46 = .ok (.istore 8, 2) := by decide +kernel
theorem dX11_width_48 : decode cX11_width 48 = .ok (.iload 8, 2) := by decide +kernel
theorem dX11_width_50 : decode cX11_width 50 = .ok (.bipush 7, 2) := by decide +kernel
theorem dX11_width_52 : decode cX11_width 52 = .ok (.if_icmp .gt 54, 3) := by decide +kernel
theorem dX11_width_55 : decode cX11_width 55 = .ok (.aload_n 0, 1) := by decide +kernel
theorem dX11_width_56 : decode cX11_width 56 = .ok (.getfield 30, 3) := by decide +kernel
theorem dX11_width_59 : decode cX11_width 59 = .ok (.iload_n 1, 1) := by decide +kernel
theorem dX11_width_60 : decode cX11_width 60 = .ok (.iload 8, 2) := by decide +kernel
theorem dX11_width_62 : decode cX11_width 62 = .ok (.iload 5, 2) := by decide +kernel
theorem dX11_width_64 : decode cX11_width 64 = .ok (.invokevirtual 150, 3) := by decide +kernel
theorem dX11_width_67 : decode cX11_width 67 = .ok (.aload_n 0, 1) := by decide +kernel
theorem dX11_width_68 : decode cX11_width 68 = .ok (.getfield 30, 3) := by decide +kernel
theorem dX11_width_71 : decode cX11_width 71 = .ok (.iload_n 2, 1) := by decide +kernel
theorem dX11_width_72 : decode cX11_width 72 = .ok (.iload 8, 2) := by decide +kernel
theorem dX11_width_74 : decode cX11_width 74 = .ok (.iload 5, 2) := by decide +kernel
theorem dX11_width_76 : decode cX11_width 76 = .ok (.invokevirtual 150, 3) := by decide +kernel
theorem dX11_width_79 : decode cX11_width 79 = .ok (.isub, 1) := by decide +kernel
theorem dX11_width_80 : decode cX11_width 80 = .ok (.invokestatic 178, 3) := by decide +kernel
theorem dX11_width_83 : decode cX11_width 83 = .ok (.istore 9, 2) := by decide +kernel
theorem dX11_width_85 : decode cX11_width 85 = .ok (.iload 9, 2) := by decide +kernel
theorem dX11_width_87 : decode cX11_width 87 = .ok (.iload 7, 2) := by decide +kernel
theorem dX11_width_89 : decode cX11_width 89 = .ok (.if_icmp .le 11, 3) := by decide +kernel
theorem dX11_width_92 : decode cX11_width 92 = .ok (.iload 9, 2) := by decide +kernel
theorem dX11_width_94 : decode cX11_width 94 = .ok (.istore 7, 2) := by decide +kernel
theorem dX11_width_96 : decode cX11_width 96 = .ok (.iload 8, 2) := by decide +kernel
theorem dX11_width_98 : decode cX11_width 98 = .ok (.istore 6, 2) := by decide +kernel
theorem dX11_width_100 : decode cX11_width 100 = .ok (.iinc 8 1, 3) := by decide +kernel
theorem dX11_width_103 : decode cX11_width 103 = .ok (.goto (-55), 3) := by decide +kernel
theorem dX11_width_106 : decode cX11_width 106 = .ok (.iload 6, 2) := by decide +kernel
theorem dX11_width_108 : decode cX11_width 108 = .ok (.ireturn, 1) := by decide +kernel
theorem dX11_same_0 : decode cX11_same 0 = .ok (.aload_n 0, 1) := by decide +kernel
theorem dX11_same_1 : decode cX11_same 1 = .ok (.getfield 14, 3) := by decide +kernel
theorem dX11_same_4 : decode cX11_same 4 = .ok (.getfield 23, 3) := by decide +kernel
theorem dX11_same_7 : decode cX11_same 7 = .ok (.astore 7, 2) := by decide +kernel
theorem dX11_same_9 : decode cX11_same 9 = .ok (.aload 7, 2) := by decide +kernel
theorem dX11_same_11 : decode cX11_same 11 = .ok (.iload_n 1, 1) := by decide +kernel
theorem dX11_same_12 : decode cX11_same 12 = .ok (.invokevirtual 181, 3) := by decide +kernel
theorem dX11_same_15 : decode cX11_same 15 = .ok (.ifCond .eq 16, 3) := by decide +kernel
theorem dX11_same_18 : decode cX11_same 18 = .ok (.aload_n 0, 1) := by decide +kernel
theorem dX11_same_19 : decode cX11_same 19 = .ok (.iload 4, 2) := by decide +kernel
theorem dX11_same_21 : decode cX11_same 21 = .ok (.iload 5, 2) := by decide +kernel
theorem dX11_same_23 : decode cX11_same 23 = .ok (.iload 6, 2) := by decide +kernel
theorem dX11_same_25 : decode cX11_same 25 = .ok (.invokevirtual 147, 3) := by decide +kernel
theorem dX11_same_28 : decode cX11_same 28 = .ok (.ifCond .ne 5, 3) := by decide +kernel
theorem dX11_same_31 : decode cX11_same 31 = .ok (.iconst (-1), 1) := by decide +kernel
theorem dX11_same_32 : decode cX11_same 32 = .ok (.ireturn, 1) := by decide +kernel
theorem dX11_same_33 : decode cX11_same 33 = .ok (.aload 7, 2) := by decide +kernel
theorem dX11_same_35 : decode cX11_same 35 = .ok (.getfield 81, 3) := by decide +kernel
theorem dX11_same_38 : decode cX11_same 38 = .ok (.iload_n 1, 1) := by decide +kernel
theorem dX11_same_39 : decode cX11_same 39 = .ok (.iaload, 1) := by decide +kernel
theorem dX11_same_40 : decode cX11_same 40 = .ok (.istore 8, 2) := by decide +kernel
theorem dX11_same_42 : decode cX11_same 42 = .ok (.aload 7, 2) := by decide +kernel
theorem dX11_same_44 : decode cX11_same 44 = .ok (.getfield 74, 3) := by decide +kernel
theorem dX11_same_47 : decode cX11_same 47 = .ok (.iload_n 1, 1) := by decide +kernel
theorem dX11_same_48 : decode cX11_same 48 = .ok (.iaload, 1) := by decide +kernel
theorem dX11_same_49 : decode cX11_same 49 = .ok (.istore 9, 2) := by decide +kernel
theorem dX11_same_51 : decode cX11_same 51 = .ok (.iload_n 2, 1) := by decide +kernel
theorem dX11_same_52 : decode cX11_same 52 = .ok (.iload 8, 2) := by decide +kernel
theorem dX11_same_54 : decode cX11_same 54 = .ok (.ineg, 1) := by decide +kernel
theorem dX11_same_55 : decode cX11_same 55 = .ok (.aload 7, 2) := by decide +kernel
theorem dX11_same_57 : decode cX11_same 57 = .ok (.getfield 84, 3) := by decide +kernel
theorem dX11_same_60 : decode cX11_same 60 = .ok (.iconst 1, 1) := by decide +kernel
theorem dX11_same_61 : decode cX11_same 61 = .ok (.isub, 1) := by decide +kernel
theorem dX11_same_62 : decode cX11_same 62 = .ok (.iload 8, 2) := by decide +kernel
theorem dX11_same_64 : decode cX11_same 64 = .ok (.isub, 1) := by decide +kernel
theorem dX11_same_65 : decode cX11_same 65 = .ok (.invokestatic 63, 3) := by decide +kernel
theorem dX11_same_68 : decode cX11_same 68 = .ok (.ifCond .eq 23, 3) := by decide +kernel
theorem dX11_same_71 : decode cX11_same 71 = .ok (.iload_n 3, 1) := by decide +kernel
theorem dX11_same_72 : decode cX11_same 72 = .ok (.iload 9, 2) := by decide +kernel
theorem dX11_same_74 : decode cX11_same 74 = .ok (.ineg, 1) := by decide +kernel
theorem dX11_same_75 : decode cX11_same 75 = .ok (.aload 7, 2) := by decide +kernel
theorem dX11_same_77 : decode cX11_same 77 = .ok (.getfield 184, 3) := by decide +kernel
theorem dX11_same_80 : decode cX11_same 80 = .ok (.iconst 1, 1) := by decide +kernel
theorem dX11_same_81 : decode cX11_same 81 = .ok (.isub, 1) := by decide +kernel
theorem dX11_same_82 : decode cX11_same 82 = .ok (.iload 9, 2) := by decide +kernel
theorem dX11_same_84 : decode cX11_same 84 = .ok (.isub, 1) := by decide +kernel
theorem dX11_same_85 : decode cX11_same 85 = .ok (.invokestatic 63, 3) := by decide +kernel
theorem dX11_same_88 : decode cX11_same 88 = .ok (.ifCond .ne 5, 3) := by decide +kernel
theorem dX11_same_91 : decode cX11_same 91 = .ok (.iconst (-1), 1) := by decide +kernel
theorem dX11_same_92 : decode cX11_same 92 = .ok (.ireturn, 1) := by decide +kernel
theorem dX11_same_93 : decode cX11_same 93 = .ok (.aload_n 0, 1) := by decide +kernel
theorem dX11_same_94 : decode cX11_same 94 = .ok (.getfield 30, 3) := by decide +kernel
theorem dX11_same_97 : decode cX11_same 97 = .ok (.iload 4, 2) := by decide +kernel
theorem dX11_same_99 : decode cX11_same 99 = .ok (.iload 5, 2) := by decide +kernel
theorem dX11_same_101 : decode cX11_same 101 = .ok (.iconst 0, 1) := by decide +kernel
theorem dX11_same_102 : decode cX11_same 102 = .ok (.invokevirtual 140, 3) := by decide +kernel
theorem dX11_same_105 : decode cX11_same 105 = .ok (.aload_n 0, 1) := by decide +kernel
theorem dX11_same_106 : decode cX11_same 106 = .ok (.aload_n 0, 1) := by decide +kernel
theorem dX11_same_107 : decode cX11_same 107 = .ok (.getfield 54, 3) := by decide +kernel
theorem dX11_same_110 : decode cX11_same 110 = .ok (.iload 6, 2) := by decide +kernel
theorem dX11_same_112 : decode cX11_same 112 = .ok (.invokevirtual 187, 3) := by decide +kernel
theorem dX11_same_115 : decode cX11_same 115 = .ok (.aload 7, 2) := by decide +kernel
theorem dX11_same_117 : decode cX11_same 117 = .ok (.getfield 81, 3) := by decide +kernel
theorem dX11_same_120 : decode cX11_same 120 = .ok (.iload_n 1, 1) := by decide +kernel
theorem dX11_same_121 : decode cX11_same 121 = .ok (.iload 8, 2) := by decide +kernel
theorem dX11_same_123 : decode cX11_same 123 = .ok (.iload_n 2, 1) := by decide +kernel
theorem dX11_same_124 : decode cX11_same 124 = .ok (.iadd, 1) := by decide +kernel
theorem dX11_same_125 : decode cX11_same 125 = .ok (.iastore, 1) := by decide +kernel
theorem dX11_same_126 : decode cX11_same 126 = .ok (.aload 7, 2) := by decide +kernel
theorem dX11_same_128 : decode cX11_same 128 = .ok (.getfield 74, 3) := by decide +kernel
theorem dX11_same_131 : decode cX11_same 131 = .ok (.iload_n 1, 1) := by decide +kernel
theorem dX11_same_132 : decode cX11_same 132 = .ok (.iload 9, 2) := by decide +kernel
theorem dX11_same_134 : decode cX11_same 134 = .ok (.iload_n 3, 1) := by decide +kernel
theorem dX11_same_135 : decode cX11_same 135 = .ok (.iadd, 1) := by decide +kernel
theorem dX11_same_136 : decode cX11_same 136 = .ok (.iastore, 1) := by decide +kernel
theorem dX11_same_137 : decode cX11_same 137 = .ok (.aload_n 0, 1) := by decide +kernel
theorem dX11_same_138 : decode cX11_same 138 = .ok (.getfield 30, 3) := by decide +kernel
theorem dX11_same_141 : decode cX11_same 141 = .ok (.iload 4, 2) := by decide +kernel
theorem dX11_same_143 : decode cX11_same 143 = .ok (.iload 5, 2) := by decide +kernel
theorem dX11_same_145 : decode cX11_same 145 = .ok (.iconst 0, 1) := by decide +kernel
theorem dX11_same_146 : decode cX11_same 146 = .ok (.invokevirtual 140, 3) := by decide +kernel
theorem dX11_same_149 : decode cX11_same 149 = .ok (.aload_n 0, 1) := by decide +kernel
theorem dX11_same_150 : decode cX11_same 150 = .ok (.aload_n 0, 1) := by decide +kernel
theorem dX11_same_151 : decode cX11_same 151 = .ok (.getfield 54, 3) := by decide +kernel
theorem dX11_same_154 : decode cX11_same 154 = .ok (.iload 6, 2) := by decide +kernel
theorem dX11_same_156 : decode cX11_same 156 = .ok (.invokevirtual 191, 3) := by decide +kernel
theorem dX11_same_159 : decode cX11_same 159 = .ok (.istore 10, 2) := by decide +kernel
theorem dX11_same_161 : decode cX11_same 161 = .ok (.aload 7, 2) := by decide +kernel
theorem dX11_same_163 : decode cX11_same 163 = .ok (.getfield 81, 3) := by decide +kernel
theorem dX11_same_166 : decode cX11_same 166 = .ok (.iload_n 1, 1) := by decide +kernel
theorem dX11_same_167 : decode cX11_same 167 = .ok (.iload 8, 2) := by decide +kernel
theorem dX11_same_169 : decode cX11_same 169 = .ok (.iastore, 1) := by decide +kernel
theorem dX11_same_170 : decode cX11_same 170 = .ok (.aload 7, 2) := by decide +kernel
theorem dX11_same_172 : decode cX11_same 172 = .ok (.getfield 74, 3) := by decide +kernel
theorem dX11_same_175 : decode cX11_same 175 = .ok (.iload_n 1, 1) := by decide +kernel
theorem dX11_same_176 : decode cX11_same 176 = .ok (.iload 9, 2) := by decide +kernel
theorem dX11_same_178 : decode cX11_same 178 = .ok (.iastore, 1) := by decide +kernel
theorem dX11_same_179 : decode cX11_same 179 = .ok (.iload 10, 2) := by decide +kernel
theorem dX11_same_181 : decode cX11_same 181 = .ok (.ifCond .eq 7, 3) := by decide +kernel
theorem dX11_same_184 : decode cX11_same 184 = .ok (.iconst 1, 1) := by decide +kernel
theorem dX11_same_185 : decode cX11_same 185 = .ok (.goto 4, 3) := by decide +kernel
theorem dX11_same_188 : decode cX11_same 188 = .ok (.iconst 0, 1) := by decide +kernel
theorem dX11_same_189 : decode cX11_same 189 = .ok (.ireturn, 1) := by decide +kernel
theorem dX11_feed_0 : decode cX11_feed 0 = .ok (.aload_n 0, 1) := by decide +kernel
theorem dX11_feed_1 : decode cX11_feed 1 = .ok (.getfield 195, 3) := by decide +kernel
theorem dX11_feed_4 : decode cX11_feed 4 = .ok (.sipush 280, 3) := by decide +kernel
theorem dX11_feed_7 : decode cX11_feed 7 = .ok (.if_icmp .le 5, 3) := by decide +kernel
theorem dX11_feed_10 : decode cX11_feed 10 = .ok (.iconst (-1), 1) := by decide +kernel
theorem dX11_feed_11 : decode cX11_feed 11 = .ok (.ireturn, 1) := by decide +kernel
theorem dX11_feed_12 : decode cX11_feed 12 = .ok (.aload_n 0, 1) := by decide +kernel
theorem dX11_feed_13 : decode cX11_feed 13 = .ok (.iload_n 1, 1) := by decide +kernel
theorem dX11_feed_14 : decode cX11_feed 14 = .ok (.invokevirtual 198, 3) := by decide +kernel
theorem dX11_feed_17 : decode cX11_feed 17 = .ok (.aload_n 0, 1) := by decide +kernel
theorem dX11_feed_18 : decode cX11_feed 18 = .ok (.iload_n 2, 1) := by decide +kernel
theorem dX11_feed_19 : decode cX11_feed 19 = .ok (.invokevirtual 198, 3) := by decide +kernel
theorem dX11_feed_22 : decode cX11_feed 22 = .ok (.aload_n 0, 1) := by decide +kernel
theorem dX11_feed_23 : decode cX11_feed 23 = .ok (.iload_n 3, 1) := by decide +kernel
theorem dX11_feed_24 : decode cX11_feed 24 = .ok (.invokevirtual 198, 3) := by decide +kernel
theorem dX11_feed_27 : decode cX11_feed 27 = .ok (.aload_n 0, 1) := by decide +kernel
theorem dX11_feed_28 : decode cX11_feed 28 = .ok (.iload 4, 2) := by decide +kernel
theorem dX11_feed_30 : decode cX11_feed 30 = .ok (.invokevirtual 198, 3) := by decide +kernel
theorem dX11_feed_33 : decode cX11_feed 33 = .ok (.aload_n 0, 1) := by decide +kernel
theorem dX11_feed_34 : decode cX11_feed 34 = .ok (.iload 5, 2) := by decide +kernel
theorem dX11_feed_36 : decode cX11_feed 36 = .ok (.invokevirtual 198, 3) := by decide +kernel
theorem dX11_feed_39 : decode cX11_feed 39 = .ok (.aload_n 0, 1) := by decide +kernel
theorem dX11_feed_40 : decode cX11_feed 40 = .ok (.getfield 195, 3) := by decide +kernel
theorem dX11_feed_43 : decode cX11_feed 43 = .ok (.ireturn, 1) := by decide +kernel
theorem dX11_end_0 : decode cX11_end 0 = .ok (.iload_n 1, 1) := by decide +kernel
theorem dX11_end_1 : decode cX11_end 1 = .ok (.iconst 0, 1) := by decide +kernel
theorem dX11_end_2 : decode cX11_end 2 = .ok (.aload_n 0, 1) := by decide +kernel
theorem dX11_end_3 : decode cX11_end 3 = .ok (.getfield 195, 3) := by decide +kernel
theorem dX11_end_6 : decode cX11_end 6 = .ok (.invokestatic 63, 3) := by decide +kernel
theorem dX11_end_9 : decode cX11_end 9 = .ok (.ifCond .ne 5, 3) := by decide +kernel
theorem dX11_end_12 : decode cX11_end 12 = .ok (.iconst (-1), 1) := by decide +kernel
theorem dX11_end_13 : decode cX11_end 13 = .ok (.ireturn, 1) := by decide +kernel
theorem dX11_end_14 : decode cX11_end 14 = .ok (.aload_n 0, 1) := by decide +kernel
theorem dX11_end_15 : decode cX11_end 15 = .ok (.iload_n 1, 1) := by decide +kernel
theorem dX11_end_16 : decode cX11_end 16 = .ok (.putfield 195, 3) := by decide +kernel
theorem dX11_end_19 : decode cX11_end 19 = .ok (.iload_n 1, 1) := by decide +kernel
theorem dX11_end_20 : decode cX11_end 20 = .ok (.ireturn, 1) := by decide +kernel
theorem dX11_rule_0 : decode cX11_rule 0 = .ok (.aload_n 0, 1) := by decide +kernel
theorem dX11_rule_1 : decode cX11_rule 1 = .ok (.getfield 14, 3) := by decide +kernel
theorem dX11_rule_4 : decode cX11_rule 4 = .ok (.getfield 202, 3) := by decide +kernel
theorem dX11_rule_7 : decode cX11_rule 7 = .ok (.bipush 8, 2) := by decide +kernel
theorem dX11_rule_9 : decode cX11_rule 9 = .ok (.if_icmp .lt 5, 3) := by decide +kernel
theorem dX11_rule_12 : decode cX11_rule 12 = .ok (.iconst (-1), 1) := by decide +kernel
theorem dX11_rule_13 : decode cX11_rule 13 = .ok (.ireturn, 1) := by decide +kernel
theorem dX11_rule_14 : decode cX11_rule 14 = .ok (.aload_n 0, 1) := by decide +kernel
theorem dX11_rule_15 : decode cX11_rule 15 = .ok (.getfield 46, 3) := by decide +kernel
theorem dX11_rule_18 : decode cX11_rule 18 = .ok (.aload_n 0, 1) := by decide +kernel
theorem dX11_rule_19 : decode cX11_rule 19 = .ok (.getfield 50, 3) := by decide +kernel
theorem dX11_rule_22 : decode cX11_rule 22 = .ok (.aload_n 0, 1) := by decide +kernel
theorem dX11_rule_23 : decode cX11_rule 23 = .ok (.getfield 195, 3) := by decide +kernel
theorem dX11_rule_26 : decode cX11_rule 26 = .ok (.invokevirtual 205, 3) := by decide +kernel
theorem dX11_rule_29 : decode cX11_rule 29 = .ok (.aload_n 0, 1) := by decide +kernel
theorem dX11_rule_30 : decode cX11_rule 30 = .ok (.iconst 1, 1) := by decide +kernel
theorem dX11_rule_31 : decode cX11_rule 31 = .ok (.putfield 208, 3) := by decide +kernel
theorem dX11_rule_34 : decode cX11_rule 34 = .ok (.aload_n 0, 1) := by decide +kernel
theorem dX11_rule_35 : decode cX11_rule 35 = .ok (.iconst 0, 1) := by decide +kernel
theorem dX11_rule_36 : decode cX11_rule 36 = .ok (.putfield 195, 3) := by decide +kernel
theorem dX11_rule_39 : decode cX11_rule 39 = .ok (.aload_n 0, 1) := by decide +kernel
theorem dX11_rule_40 : decode cX11_rule 40 = .ok (.getfield 46, 3) := by decide +kernel
theorem dX11_rule_43 : decode cX11_rule 43 = .ok (.getfield 212, 3) := by decide +kernel
theorem dX11_rule_46 : decode cX11_rule 46 = .ok (.ifCond .eq 5, 3) := by decide +kernel
theorem dX11_rule_49 : decode cX11_rule 49 = .ok (.iconst (-1), 1) := by decide +kernel
theorem dX11_rule_50 : decode cX11_rule 50 = .ok (.ireturn, 1) := by decide +kernel
theorem dX11_rule_51 : decode cX11_rule 51 = .ok (.aload_n 0, 1) := by decide +kernel
theorem dX11_rule_52 : decode cX11_rule 52 = .ok (.getfield 14, 3) := by decide +kernel
theorem dX11_rule_55 : decode cX11_rule 55 = .ok (.getfield 202, 3) := by decide +kernel
theorem dX11_rule_58 : decode cX11_rule 58 = .ok (.istore_n 1, 1) := by decide +kernel
theorem dX11_rule_59 : decode cX11_rule 59 = .ok (.aload_n 0, 1) := by decide +kernel
theorem dX11_rule_60 : decode cX11_rule 60 = .ok (.getfield 14, 3) := by decide +kernel
theorem dX11_rule_63 : decode cX11_rule 63 = .ok (.getfield 215, 3) := by decide +kernel
theorem dX11_rule_66 : decode cX11_rule 66 = .ok (.iload_n 1, 1) := by decide +kernel
theorem dX11_rule_67 : decode cX11_rule 67 = .ok (.aload_n 0, 1) := by decide +kernel
theorem dX11_rule_68 : decode cX11_rule 68 = .ok (.getfield 46, 3) := by decide +kernel
theorem dX11_rule_71 : decode cX11_rule 71 = .ok (.invokevirtual 219, 3) := by decide +kernel
theorem dX11_rule_74 : decode cX11_rule 74 = .ok (.aastore, 1) := by decide +kernel
theorem dX11_rule_75 : decode cX11_rule 75 = .ok (.aload_n 0, 1) := by decide +kernel
theorem dX11_rule_76 : decode cX11_rule 76 = .ok (.getfield 14, 3) := by decide +kernel
theorem dX11_rule_79 : decode cX11_rule 79 = .ok (.iload_n 1, 1) := by decide +kernel
theorem dX11_rule_80 : decode cX11_rule 80 = .ok (.iconst 1, 1) := by decide +kernel
theorem dX11_rule_81 : decode cX11_rule 81 = .ok (.iadd, 1) := by decide +kernel
theorem dX11_rule_82 : decode cX11_rule 82 = .ok (.putfield 202, 3) := by decide +kernel
theorem dX11_rule_85 : decode cX11_rule 85 = .ok (.iload_n 1, 1) := by decide +kernel
theorem dX11_rule_86 : decode cX11_rule 86 = .ok (.ireturn, 1) := by decide +kernel
theorem dX11_fault_0 : decode cX11_fault 0 = .ok (.aload_n 0, 1) := by decide +kernel
theorem dX11_fault_1 : decode cX11_fault 1 = .ok (.getfield 208, 3) := by decide +kernel
theorem dX11_fault_4 : decode cX11_fault 4 = .ok (.ifCond .ne 5, 3) := by decide +kernel
theorem dX11_fault_7 : decode cX11_fault 7 = .ok (.iconst (-1), 1) := by decide +kernel
theorem dX11_fault_8 : decode cX11_fault 8 = .ok (.ireturn, 1) := by decide +kernel
theorem dX11_fault_9 : decode cX11_fault 9 = .ok (.iload_n 1, 1) := by decide +kernel
theorem dX11_fault_10 : decode cX11_fault 10 = .ok (.lookupswitch 42 #[(0, 26), (1, 34)], 26) := by decide +kernel
theorem dX11_fault_36 : decode cX11_fault 36 = .ok (.aload_n 0, 1) := by decide +kernel
theorem dX11_fault_37 : decode cX11_fault 37 = .ok (.getfield 46, 3) := by decide +kernel
theorem dX11_fault_40 : decode cX11_fault 40 = .ok (.getfield 212, 3) := by decide +kernel
theorem dX11_fault_43 : decode cX11_fault 43 = .ok (.ireturn, 1) := by decide +kernel
theorem dX11_fault_44 : decode cX11_fault 44 = .ok (.aload_n 0, 1) := by decide +kernel
theorem dX11_fault_45 : decode cX11_fault 45 = .ok (.getfield 46, 3) := by decide +kernel
theorem dX11_fault_48 : decode cX11_fault 48 = .ok (.getfield 223, 3) := by decide +kernel
theorem dX11_fault_51 : decode cX11_fault 51 = .ok (.ireturn, 1) := by decide +kernel
theorem dX11_fault_52 : decode cX11_fault 52 = .ok (.iconst (-1), 1) := by decide +kernel
theorem dX11_fault_53 : decode cX11_fault 53 = .ok (.ireturn, 1) := by decide +kernel
theorem dX11_fly_0 : decode cX11_fly 0 = .ok (.aload_n 0, 1) := by decide +kernel
theorem dX11_fly_1 : decode cX11_fly 1 = .ok (.getfield 14, 3) := by decide +kernel
theorem dX11_fly_4 : decode cX11_fly 4 = .ok (.iload_n 1, 1) := by decide +kernel
theorem dX11_fly_5 : decode cX11_fly 5 = .ok (.invokevirtual 226, 3) := by decide +kernel
theorem dX11_fly_8 : decode cX11_fly 8 = .ok (.ifCond .eq 25, 3) := by decide +kernel
theorem dX11_fly_11 : decode cX11_fly 11 = .ok (.aload_n 0, 1) := by decide +kernel
theorem dX11_fly_12 : decode cX11_fly 12 = .ok (.iload_n 2, 1) := by decide +kernel
theorem dX11_fly_13 : decode cX11_fly 13 = .ok (.iload_n 3, 1) := by decide +kernel
theorem dX11_fly_14 : decode cX11_fly 14 = .ok (.iload 4, 2) := by decide +kernel
theorem dX11_fly_16 : decode cX11_fly 16 = .ok (.invokevirtual 147, 3) := by decide +kernel
theorem dX11_fly_19 : decode cX11_fly 19 = .ok (.ifCond .eq 14, 3) := by decide +kernel
theorem dX11_fly_22 : decode cX11_fly 22 = .ok (.iload 5, 2) := by decide +kernel
theorem dX11_fly_24 : decode cX11_fly 24 = .ok (.iconst 1, 1) := by decide +kernel
theorem dX11_fly_25 : decode cX11_fly 25 = .ok (.bipush 60, 2) := by decide +kernel
theorem dX11_fly_27 : decode cX11_fly 27 = .ok (.invokestatic 63, 3) := by decide +kernel
theorem dX11_fly_30 : decode cX11_fly 30 = .ok (.ifCond .ne 5, 3) := by decide +kernel
theorem dX11_fly_33 : decode cX11_fly 33 = .ok (.iconst (-1), 1) := by decide +kernel
theorem dX11_fly_34 : decode cX11_fly 34 = .ok (.ireturn, 1) := by decide +kernel
theorem dX11_fly_35 : decode cX11_fly 35 = .ok (.iload 6, 2) := by decide +kernel
theorem dX11_fly_37 : decode cX11_fly 37 = .ok (.ifCond .eq 14, 3) := by decide +kernel
theorem dX11_fly_40 : decode cX11_fly 40 = .ok (.iload 6, 2) := by decide +kernel
theorem dX11_fly_42 : decode cX11_fly 42 = .ok (.iconst 4, 1) := by decide +kernel
theorem dX11_fly_43 : decode cX11_fly 43 = .ok (.bipush 20, 2) := by decide +kernel
theorem dX11_fly_45 : decode cX11_fly 45 = .ok (.invokestatic 63, 3) := by decide +kernel
theorem dX11_fly_48 : decode cX11_fly 48 = .ok (.ifCond .eq 19, 3) := by decide +kernel
theorem dX11_fly_51 : decode cX11_fly 51 = .ok (.aload_n 0, 1) := by decide +kernel
theorem dX11_fly_52 : decode cX11_fly 52 = .ok (.getfield 14, 3) := by decide +kernel
theorem dX11_fly_55 : decode cX11_fly 55 = .ok (.getfield 23, 3) := by decide +kernel
theorem dX11_fly_58 : decode cX11_fly 58 = .ok (.iload_n 2, 1) := by decide +kernel
theorem dX11_fly_59 : decode cX11_fly 59 = .ok (.iload_n 3, 1) := by decide +kernel
theorem dX11_fly_60 : decode cX11_fly 60 = .ok (.iconst 0, 1) := by decide +kernel
theorem dX11_fly_61 : decode cX11_fly 61 = .ok (.invokevirtual 229, 3) := by decide +kernel
theorem dX11_fly_64 : decode cX11_fly 64 = .ok (.ifCond .ne 5, 3) := by decide +kernel
theorem dX11_fly_67 : decode cX11_fly 67 = .ok (.iconst (-1), 1) := by decide +kernel
theorem dX11_fly_68 : decode cX11_fly 68 = .ok (.ireturn, 1) := by decide +kernel
theorem dX11_fly_69 : decode cX11_fly 69 = .ok (.aload_n 0, 1) := by decide +kernel
theorem dX11_fly_70 : decode cX11_fly 70 = .ok (.getfield 39, 3) := by decide +kernel
theorem dX11_fly_73 : decode cX11_fly 73 = .ok (.iload 6, 2) := by decide +kernel
theorem dX11_fly_75 : decode cX11_fly 75 = .ok (.ifCond .ne 8, 3) := by decide +kernel
theorem dX11_fly_78 : decode cX11_fly 78 = .ok (.ldc 232, 2) := by decide +kernel
theorem dX11_fly_80 : decode cX11_fly 80 = .ok (.goto 11, 3) := by decide +kernel
theorem dX11_fly_83 : decode cX11_fly 83 = .ok (.iconst 1, 1) := by decide +kernel
theorem dX11_fly_84 : decode cX11_fly 84 = .ok (.iload 6, 2) := by decide +kernel
theorem dX11_fly_86 : decode cX11_fly 86 = .ok (.iconst 1, 1) := by decide +kernel
theorem dX11_fly_87 : decode cX11_fly 87 = .ok (.isub, 1) := by decide +kernel
theorem dX11_fly_88 : decode cX11_fly 88 = .ok (.ishl, 1) := by decide +kernel
theorem dX11_fly_89 : decode cX11_fly 89 = .ok (.iconst 1, 1) := by decide +kernel
theorem dX11_fly_90 : decode cX11_fly 90 = .ok (.isub, 1) := by decide +kernel
theorem dX11_fly_91 : decode cX11_fly 91 = .ok (.invokevirtual 233, 3) := by decide +kernel
theorem dX11_fly_94 : decode cX11_fly 94 = .ok (.aload_n 0, 1) := by decide +kernel
theorem dX11_fly_95 : decode cX11_fly 95 = .ok (.getfield 39, 3) := by decide +kernel
theorem dX11_fly_98 : decode cX11_fly 98 = .ok (.aload_n 0, 1) := by decide +kernel
theorem dX11_fly_99 : decode cX11_fly 99 = .ok (.getfield 14, 3) := by decide +kernel
theorem dX11_fly_102 : decode cX11_fly 102 = .ok (.getfield 236, 3) := by decide +kernel
theorem dX11_fly_105 : decode cX11_fly 105 = .ok (.iload_n 2, 1) := by decide +kernel
theorem dX11_fly_106 : decode cX11_fly 106 = .ok (.iload_n 3, 1) := by decide +kernel
theorem dX11_fly_107 : decode cX11_fly 107 = .ok (.iload 4, 2) := by decide +kernel
theorem dX11_fly_109 : decode cX11_fly 109 = .ok (.invokevirtual 240, 3) := by decide +kernel
theorem dX11_fly_112 : decode cX11_fly 112 = .ok (.aload_n 0, 1) := by decide +kernel
theorem dX11_fly_113 : decode cX11_fly 113 = .ok (.getfield 39, 3) := by decide +kernel
theorem dX11_fly_116 : decode cX11_fly 116 = .ok (.aload_n 0, 1) := by decide +kernel
theorem dX11_fly_117 : decode cX11_fly 117 = .ok (.getfield 14, 3) := by decide +kernel
theorem dX11_fly_120 : decode cX11_fly 120 = .ok (.getfield 236, 3) := by decide +kernel
theorem dX11_fly_123 : decode cX11_fly 123 = .ok (.aload_n 0, 1) := by decide +kernel
theorem dX11_fly_124 : decode cX11_fly 124 = .ok (.getfield 14, 3) := by decide +kernel
theorem dX11_fly_127 : decode cX11_fly 127 = .ok (.getfield 215, 3) := by decide +kernel
theorem dX11_fly_130 : decode cX11_fly 130 = .ok (.iload_n 1, 1) := by decide +kernel
theorem dX11_fly_131 : decode cX11_fly 131 = .ok (.aaload, 1) := by decide +kernel
theorem dX11_fly_132 : decode cX11_fly 132 = .ok (.iload 5, 2) := by decide +kernel
theorem dX11_fly_134 : decode cX11_fly 134 = .ok (.invokevirtual 244, 3) := by decide +kernel
theorem dX11_fly_137 : decode cX11_fly 137 = .ok (.aload_n 0, 1) := by decide +kernel
theorem dX11_fly_138 : decode cX11_fly 138 = .ok (.getfield 14, 3) := by decide +kernel
theorem dX11_fly_141 : decode cX11_fly 141 = .ok (.getfield 236, 3) := by decide +kernel
theorem dX11_fly_144 : decode cX11_fly 144 = .ok (.getfield 248, 3) := by decide +kernel
theorem dX11_fly_147 : decode cX11_fly 147 = .ok (.ireturn, 1) := by decide +kernel
theorem dX11_flown_0 : decode cX11_flown 0 = .ok (.aload_n 0, 1) := by decide +kernel
theorem dX11_flown_1 : decode cX11_flown 1 = .ok (.getfield 14, 3) := by decide +kernel
theorem dX11_flown_4 : decode cX11_flown 4 = .ok (.getfield 236, 3) := by decide +kernel
