theorem dX12_pair_75 : decode cX12_pair 75 = .ok (.iastore, 1) := by decide +kernel
theorem dX12_pair_76 : decode cX12_pair 76 = .ok (.aload_n 0, 1) := by decide +kernel
theorem dX12_pair_77 : decode cX12_pair 77 = .ok (.getfield 7, 3) := by decide +kernel
theorem dX12_pair_80 : decode cX12_pair 80 = .ok (.iload 4, 2) := by decide +kernel
theorem dX12_pair_82 : decode cX12_pair 82 = .ok (.iconst 2, 1) := by decide +kernel
theorem dX12_pair_83 : decode cX12_pair 83 = .ok (.iadd, 1) := by decide +kernel
theorem dX12_pair_84 : decode cX12_pair 84 = .ok (.iload_n 3, 1) := by decide +kernel
theorem dX12_pair_85 : decode cX12_pair 85 = .ok (.iastore, 1) := by decide +kernel
theorem dX12_pair_86 : decode cX12_pair 86 = .ok (.aload_n 0, 1) := by decide +kernel
theorem dX12_pair_87 : decode cX12_pair 87 = .ok (.getfield 7, 3) := by decide +kernel
theorem dX12_pair_90 : decode cX12_pair 90 = .ok (.iconst 2, 1) := by decide +kernel
theorem dX12_pair_91 : decode cX12_pair 91 = .ok (.dup2, 1) := by decide +kernel
theorem dX12_pair_92 : decode cX12_pair 92 = .ok (.iaload, 1) := by decide +kernel
theorem dX12_pair_93 : decode cX12_pair 93 = .ok (.iconst 1, 1) := by decide +kernel
theorem dX12_pair_94 : decode cX12_pair 94 = .ok (.iadd, 1) := by decide +kernel
theorem dX12_pair_95 : decode cX12_pair 95 = .ok (.iastore, 1) := by decide +kernel
theorem dX12_pair_96 : decode cX12_pair 96 = .ok (.aload_n 0, 1) := by decide +kernel
theorem dX12_pair_97 : decode cX12_pair 97 = .ok (.getfield 7, 3) := by decide +kernel
theorem dX12_pair_100 : decode cX12_pair 100 = .ok (.iconst 2, 1) := by decide +kernel
theorem dX12_pair_101 : decode cX12_pair 101 = .ok (.iaload, 1) := by decide +kernel
theorem dX12_pair_102 : decode cX12_pair 102 = .ok (.iconst 1, 1) := by decide +kernel
theorem dX12_pair_103 : decode cX12_pair 103 = .ok (.isub, 1) := by decide +kernel
theorem dX12_pair_104 : decode cX12_pair 104 = .ok (.ireturn, 1) := by decide +kernel
theorem dX12_takeOf_0 : decode cX12_takeOf 0 = .ok (.iconst 0, 1) := by decide +kernel
theorem dX12_takeOf_1 : decode cX12_takeOf 1 = .ok (.istore 4, 2) := by decide +kernel
theorem dX12_takeOf_3 : decode cX12_takeOf 3 = .ok (.iload_n 2, 1) := by decide +kernel
theorem dX12_takeOf_4 : decode cX12_takeOf 4 = .ok (.ineg, 1) := by decide +kernel
theorem dX12_takeOf_5 : decode cX12_takeOf 5 = .ok (.istore 5, 2) := by decide +kernel
theorem dX12_takeOf_7 : decode cX12_takeOf 7 = .ok (.iload 5, 2) := by decide +kernel
theorem dX12_takeOf_9 : decode cX12_takeOf 9 = .ok (.iload_n 2, 1) := by decide +kernel
theorem dX12_takeOf_10 : decode cX12_takeOf 10 = .ok (.if_icmp .gt 41, 3) := by decide +kernel
theorem dX12_takeOf_13 : decode cX12_takeOf 13 = .ok (.iload 4, 2) := by decide +kernel
theorem dX12_takeOf_15 : decode cX12_takeOf 15 = .ok (.iload_n 2, 1) := by decide +kernel
theorem dX12_takeOf_16 : decode cX12_takeOf 16 = .ok (.iconst 1, 1) := by decide +kernel
theorem dX12_takeOf_17 : decode cX12_takeOf 17 = .ok (.iadd, 1) := by decide +kernel
theorem dX12_takeOf_18 : decode cX12_takeOf 18 = .ok (.iload 5, 2) := by decide +kernel
theorem dX12_takeOf_20 : decode cX12_takeOf 20 = .ok (.invokestatic 117, 3) := by decide +kernel
theorem dX12_takeOf_23 : decode cX12_takeOf 23 = .ok (.isub, 1) := by decide +kernel
theorem dX12_takeOf_24 : decode cX12_takeOf 24 = .ok (.aload_n 0, 1) := by decide +kernel
theorem dX12_takeOf_25 : decode cX12_takeOf 25 = .ok (.getfield 22, 3) := by decide +kernel
theorem dX12_takeOf_28 : decode cX12_takeOf 28 = .ok (.iload_n 3, 1) := by decide +kernel
theorem dX12_takeOf_29 : decode cX12_takeOf 29 = .ok (.iload_n 1, 1) := by decide +kernel
theorem dX12_takeOf_30 : decode cX12_takeOf 30 = .ok (.iadd, 1) := by decide +kernel
theorem dX12_takeOf_31 : decode cX12_takeOf 31 = .ok (.iload 5, 2) := by decide +kernel
theorem dX12_takeOf_33 : decode cX12_takeOf 33 = .ok (.iadd, 1) := by decide +kernel
theorem dX12_takeOf_34 : decode cX12_takeOf 34 = .ok (.bipush 64, 2) := by decide +kernel
theorem dX12_takeOf_36 : decode cX12_takeOf 36 = .ok (.iadd, 1) := by decide +kernel
theorem dX12_takeOf_37 : decode cX12_takeOf 37 = .ok (.bipush 64, 2) := by decide +kernel
theorem dX12_takeOf_39 : decode cX12_takeOf 39 = .ok (.irem, 1) := by decide +kernel
theorem dX12_takeOf_40 : decode cX12_takeOf 40 = .ok (.iaload, 1) := by decide +kernel
theorem dX12_takeOf_41 : decode cX12_takeOf 41 = .ok (.imul, 1) := by decide +kernel
theorem dX12_takeOf_42 : decode cX12_takeOf 42 = .ok (.iadd, 1) := by decide +kernel
theorem dX12_takeOf_43 : decode cX12_takeOf 43 = .ok (.istore 4, 2) := by decide +kernel
theorem dX12_takeOf_45 : decode cX12_takeOf 45 = .ok (.iinc 5 1, 3) := by decide +kernel
theorem dX12_takeOf_48 : decode cX12_takeOf 48 = .ok (.goto (-41), 3) := by decide +kernel
theorem dX12_takeOf_51 : decode cX12_takeOf 51 = .ok (.iload 4, 2) := by decide +kernel
theorem dX12_takeOf_53 : decode cX12_takeOf 53 = .ok (.iload_n 2, 1) := by decide +kernel
theorem dX12_takeOf_54 : decode cX12_takeOf 54 = .ok (.iconst 1, 1) := by decide +kernel
theorem dX12_takeOf_55 : decode cX12_takeOf 55 = .ok (.iadd, 1) := by decide +kernel
theorem dX12_takeOf_56 : decode cX12_takeOf 56 = .ok (.iload_n 2, 1) := by decide +kernel
theorem dX12_takeOf_57 : decode cX12_takeOf 57 = .ok (.iconst 1, 1) := by decide +kernel
theorem dX12_takeOf_58 : decode cX12_takeOf 58 = .ok (.iadd, 1) := by decide +kernel
theorem dX12_takeOf_59 : decode cX12_takeOf 59 = .ok (.imul, 1) := by decide +kernel
theorem dX12_takeOf_60 : decode cX12_takeOf 60 = .ok (.idiv, 1) := by decide +kernel
theorem dX12_takeOf_61 : decode cX12_takeOf 61 = .ok (.ireturn, 1) := by decide +kernel
theorem dX12_lensTake_0 : decode cX12_lensTake 0 = .ok (.aload_n 0, 1) := by decide +kernel
theorem dX12_lensTake_1 : decode cX12_lensTake 1 = .ok (.aload_n 0, 1) := by decide +kernel
theorem dX12_lensTake_2 : decode cX12_lensTake 2 = .ok (.getfield 7, 3) := by decide +kernel
theorem dX12_lensTake_5 : decode cX12_lensTake 5 = .ok (.sipush 620, 3) := by decide +kernel
theorem dX12_lensTake_8 : decode cX12_lensTake 8 = .ok (.iconst 2, 1) := by decide +kernel
theorem dX12_lensTake_9 : decode cX12_lensTake 9 = .ok (.iload_n 1, 1) := by decide +kernel
theorem dX12_lensTake_10 : decode cX12_lensTake 10 = .ok (.imul, 1) := by decide +kernel
theorem dX12_lensTake_11 : decode cX12_lensTake 11 = .ok (.iadd, 1) := by decide +kernel
theorem dX12_lensTake_12 : decode cX12_lensTake 12 = .ok (.iaload, 1) := by decide +kernel
theorem dX12_lensTake_13 : decode cX12_lensTake 13 = .ok (.aload_n 0, 1) := by decide +kernel
theorem dX12_lensTake_14 : decode cX12_lensTake 14 = .ok (.getfield 7, 3) := by decide +kernel
theorem dX12_lensTake_17 : decode cX12_lensTake 17 = .ok (.sipush 620, 3) := by decide +kernel
theorem dX12_lensTake_20 : decode cX12_lensTake 20 = .ok (.iconst 2, 1) := by decide +kernel
theorem dX12_lensTake_21 : decode cX12_lensTake 21 = .ok (.iload_n 1, 1) := by decide +kernel
theorem dX12_lensTake_22 : decode cX12_lensTake 22 = .ok (.imul, 1) := by decide +kernel
theorem dX12_lensTake_23 : decode cX12_lensTake 23 = .ok (.iadd, 1) := by decide +kernel
theorem dX12_lensTake_24 : decode cX12_lensTake 24 = .ok (.iconst 1, 1) := by decide +kernel
theorem dX12_lensTake_25 : decode cX12_lensTake 25 = .ok (.iadd, 1) := by decide +kernel
theorem dX12_lensTake_26 : decode cX12_lensTake 26 = .ok (.iaload, 1) := by decide +kernel
theorem dX12_lensTake_27 : decode cX12_lensTake 27 = .ok (.iload_n 2, 1) := by decide +kernel
theorem dX12_lensTake_28 : decode cX12_lensTake 28 = .ok (.invokevirtual 120, 3) := by decide +kernel
theorem dX12_lensTake_31 : decode cX12_lensTake 31 = .ok (.ireturn, 1) := by decide +kernel
theorem dX12_take_0 : decode cX12_take 0 = .ok (.aload_n 0, 1) := by decide +kernel
theorem dX12_take_1 : decode cX12_take 1 = .ok (.iload_n 1, 1) := by decide +kernel
theorem dX12_take_2 : decode cX12_take 2 = .ok (.invokevirtual 114, 3) := by decide +kernel
theorem dX12_take_5 : decode cX12_take 5 = .ok (.ifCond .eq 28, 3) := by decide +kernel
theorem dX12_take_8 : decode cX12_take 8 = .ok (.aload_n 0, 1) := by decide +kernel
theorem dX12_take_9 : decode cX12_take 9 = .ok (.iload_n 2, 1) := by decide +kernel
theorem dX12_take_10 : decode cX12_take 10 = .ok (.iload_n 3, 1) := by decide +kernel
theorem dX12_take_11 : decode cX12_take 11 = .ok (.invokevirtual 107, 3) := by decide +kernel
theorem dX12_take_14 : decode cX12_take 14 = .ok (.ifCond .eq 19, 3) := by decide +kernel
theorem dX12_take_17 : decode cX12_take 17 = .ok (.iload 4, 2) := by decide +kernel
theorem dX12_take_19 : decode cX12_take 19 = .ok (.invokestatic 111, 3) := by decide +kernel
theorem dX12_take_22 : decode cX12_take 22 = .ok (.ifCond .eq 11, 3) := by decide +kernel
theorem dX12_take_25 : decode cX12_take 25 = .ok (.iload 5, 2) := by decide +kernel
theorem dX12_take_27 : decode cX12_take 27 = .ok (.invokestatic 83, 3) := by decide +kernel
theorem dX12_take_30 : decode cX12_take 30 = .ok (.ifCond .ne 5, 3) := by decide +kernel
theorem dX12_take_33 : decode cX12_take 33 = .ok (.iconst (-1), 1) := by decide +kernel
theorem dX12_take_34 : decode cX12_take 34 = .ok (.ireturn, 1) := by decide +kernel
theorem dX12_take_35 : decode cX12_take 35 = .ok (.aload_n 0, 1) := by decide +kernel
theorem dX12_take_36 : decode cX12_take 36 = .ok (.iload_n 2, 1) := by decide +kernel
theorem dX12_take_37 : decode cX12_take 37 = .ok (.iload_n 3, 1) := by decide +kernel
theorem dX12_take_38 : decode cX12_take 38 = .ok (.iload 5, 2) := by decide +kernel
theorem dX12_take_40 : decode cX12_take 40 = .ok (.invokevirtual 124, 3) := by decide +kernel
theorem dX12_take_43 : decode cX12_take 43 = .ok (.aload_n 0, 1) := by decide +kernel
theorem dX12_take_44 : decode cX12_take 44 = .ok (.iload_n 1, 1) := by decide +kernel
theorem dX12_take_45 : decode cX12_take 45 = .ok (.iload 4, 2) := by decide +kernel
theorem dX12_take_47 : decode cX12_take 47 = .ok (.invokevirtual 127, 3) := by decide +kernel
theorem dX12_take_50 : decode cX12_take 50 = .ok (.ireturn, 1) := by decide +kernel
theorem dX12_apart_0 : decode cX12_apart 0 = .ok (.aload_n 0, 1) := by decide +kernel
theorem dX12_apart_1 : decode cX12_apart 1 = .ok (.getfield 7, 3) := by decide +kernel
theorem dX12_apart_4 : decode cX12_apart 4 = .ok (.sipush 620, 3) := by decide +kernel
theorem dX12_apart_7 : decode cX12_apart 7 = .ok (.iconst 2, 1) := by decide +kernel
theorem dX12_apart_8 : decode cX12_apart 8 = .ok (.iload_n 1, 1) := by decide +kernel
theorem dX12_apart_9 : decode cX12_apart 9 = .ok (.imul, 1) := by decide +kernel
theorem dX12_apart_10 : decode cX12_apart 10 = .ok (.iadd, 1) := by decide +kernel
theorem dX12_apart_11 : decode cX12_apart 11 = .ok (.iaload, 1) := by decide +kernel
theorem dX12_apart_12 : decode cX12_apart 12 = .ok (.iload_n 2, 1) := by decide +kernel
theorem dX12_apart_13 : decode cX12_apart 13 = .ok (.isub, 1) := by decide +kernel
theorem dX12_apart_14 : decode cX12_apart 14 = .ok (.invokestatic 117, 3) := by decide +kernel
theorem dX12_apart_17 : decode cX12_apart 17 = .ok (.istore_n 3, 1) := by decide +kernel
theorem dX12_apart_18 : decode cX12_apart 18 = .ok (.iload_n 3, 1) := by decide +kernel
theorem dX12_apart_19 : decode cX12_apart 19 = .ok (.bipush 64, 2) := by decide +kernel
theorem dX12_apart_21 : decode cX12_apart 21 = .ok (.iload_n 3, 1) := by decide +kernel
theorem dX12_apart_22 : decode cX12_apart 22 = .ok (.isub, 1) := by decide +kernel
theorem dX12_apart_23 : decode cX12_apart 23 = .ok (.if_icmp .ge 7, 3) := by decide +kernel
theorem dX12_apart_26 : decode cX12_apart 26 = .ok (.iload_n 3, 1) := by decide +kernel
theorem dX12_apart_27 : decode cX12_apart 27 = .ok (.goto 7, 3) := by decide +kernel
theorem dX12_apart_30 : decode cX12_apart 30 = .ok (.bipush 64, 2) := by decide +kernel
theorem dX12_apart_32 : decode cX12_apart 32 = .ok (.iload_n 3, 1) := by decide +kernel
theorem dX12_apart_33 : decode cX12_apart 33 = .ok (.isub, 1) := by decide +kernel
theorem dX12_apart_34 : decode cX12_apart 34 = .ok (.ireturn, 1) := by decide +kernel
theorem dX12_coverOf_0 : decode cX12_coverOf 0 = .ok (.iconst 0, 1) := by decide +kernel
theorem dX12_coverOf_1 : decode cX12_coverOf 1 = .ok (.istore_n 2, 1) := by decide +kernel
theorem dX12_coverOf_2 : decode cX12_coverOf 2 = .ok (.iconst 0, 1) := by decide +kernel
theorem dX12_coverOf_3 : decode cX12_coverOf 3 = .ok (.istore_n 3, 1) := by decide +kernel
theorem dX12_coverOf_4 : decode cX12_coverOf 4 = .ok (.iload_n 3, 1) := by decide +kernel
theorem dX12_coverOf_5 : decode cX12_coverOf 5 = .ok (.aload_n 0, 1) := by decide +kernel
theorem dX12_coverOf_6 : decode cX12_coverOf 6 = .ok (.getfield 7, 3) := by decide +kernel
theorem dX12_coverOf_9 : decode cX12_coverOf 9 = .ok (.iconst 1, 1) := by decide +kernel
theorem dX12_coverOf_10 : decode cX12_coverOf 10 = .ok (.iaload, 1) := by decide +kernel
theorem dX12_coverOf_11 : decode cX12_coverOf 11 = .ok (.if_icmp .ge 40, 3) := by decide +kernel
theorem dX12_coverOf_14 : decode cX12_coverOf 14 = .ok (.iload_n 2, 1) := by decide +kernel
theorem dX12_coverOf_15 : decode cX12_coverOf 15 = .ok (.aload_n 0, 1) := by decide +kernel
theorem dX12_coverOf_16 : decode cX12_coverOf 16 = .ok (.iload_n 3, 1) := by decide +kernel
theorem dX12_coverOf_17 : decode cX12_coverOf 17 = .ok (.iload_n 1, 1) := by decide +kernel
theorem dX12_coverOf_18 : decode cX12_coverOf 18 = .ok (.invokevirtual 130, 3) := by decide +kernel
theorem dX12_coverOf_21 : decode cX12_coverOf 21 = .ok (.aload_n 0, 1) := by decide +kernel
theorem dX12_coverOf_22 : decode cX12_coverOf 22 = .ok (.getfield 7, 3) := by decide +kernel
theorem dX12_coverOf_25 : decode cX12_coverOf 25 = .ok (.sipush 620, 3) := by decide +kernel
theorem dX12_coverOf_28 : decode cX12_coverOf 28 = .ok (.iconst 2, 1) := by decide +kernel
theorem dX12_coverOf_29 : decode cX12_coverOf 29 = .ok (.iload_n 3, 1) := by decide +kernel
theorem dX12_coverOf_30 : decode cX12_coverOf 30 = .ok (.imul, 1) := by decide +kernel
theorem dX12_coverOf_31 : decode cX12_coverOf 31 = .ok (.iadd, 1) := by decide +kernel
theorem dX12_coverOf_32 : decode cX12_coverOf 32 = .ok (.iconst 1, 1) := by decide +kernel
theorem dX12_coverOf_33 : decode cX12_coverOf 33 = .ok (.iadd, 1) := by decide +kernel
theorem dX12_coverOf_34 : decode cX12_coverOf 34 = .ok (.iaload, 1) := by decide +kernel
theorem dX12_coverOf_35 : decode cX12_coverOf 35 = .ok (.if_icmp .gt 7, 3) := by decide +kernel
theorem dX12_coverOf_38 : decode cX12_coverOf 38 = .ok (.iconst 1, 1) := by decide +kernel
theorem dX12_coverOf_39 : decode cX12_coverOf 39 = .ok (.goto 4, 3) := by decide +kernel
theorem dX12_coverOf_42 : decode cX12_coverOf 42 = .ok (.iconst 0, 1) := by decide +kernel
theorem dX12_coverOf_43 : decode cX12_coverOf 43 = .ok (.iadd, 1) := by decide +kernel
theorem dX12_coverOf_44 : decode cX12_coverOf 44 = .ok (.istore_n 2, 1) := by decide +kernel
theorem dX12_coverOf_45 : decode cX12_coverOf 45 = .ok (.iinc 3 1, 3) := by decide +kernel
theorem dX12_coverOf_48 : decode cX12_coverOf 48 = .ok (.goto (-44), 3) := by decide +kernel
theorem dX12_coverOf_51 : decode cX12_coverOf 51 = .ok (.iload_n 2, 1) := by decide +kernel
theorem dX12_coverOf_52 : decode cX12_coverOf 52 = .ok (.ireturn, 1) := by decide +kernel
theorem dX12_covered_0 : decode cX12_covered 0 = .ok (.iload_n 1, 1) := by decide +kernel
theorem dX12_covered_1 : decode cX12_covered 1 = .ok (.iconst (-1), 1) := by decide +kernel
theorem dX12_covered_2 : decode cX12_covered 2 = .ok (.if_icmp .eq 12, 3) := by decide +kernel
theorem dX12_covered_5 : decode cX12_covered 5 = .ok (.iload_n 1, 1) := by decide +kernel
theorem dX12_covered_6 : decode cX12_covered 6 = .ok (.invokestatic 111, 3) := by decide +kernel
theorem dX12_covered_9 : decode cX12_covered 9 = .ok (.ifCond .ne 5, 3) := by decide +kernel
theorem dX12_covered_12 : decode cX12_covered 12 = .ok (.iconst (-1), 1) := by decide +kernel
theorem dX12_covered_13 : decode cX12_covered 13 = .ok (.ireturn, 1) := by decide +kernel
theorem dX12_covered_14 : decode cX12_covered 14 = .ok (.iload_n 1, 1) := by decide +kernel
theorem dX12_covered_15 : decode cX12_covered 15 = .ok (.iconst (-1), 1) := by decide +kernel
theorem dX12_covered_16 : decode cX12_covered 16 = .ok (.if_icmp .eq 9, 3) := by decide +kernel
theorem dX12_covered_19 : decode cX12_covered 19 = .ok (.aload_n 0, 1) := by decide +kernel
theorem dX12_covered_20 : decode cX12_covered 20 = .ok (.iload_n 1, 1) := by decide +kernel
theorem dX12_covered_21 : decode cX12_covered 21 = .ok (.invokevirtual 133, 3) := by decide +kernel
theorem dX12_covered_24 : decode cX12_covered 24 = .ok (.ireturn, 1) := by decide +kernel
theorem dX12_covered_25 : decode cX12_covered 25 = .ok (.iconst 0, 1) := by decide +kernel
theorem dX12_covered_26 : decode cX12_covered 26 = .ok (.istore_n 2, 1) := by decide +kernel
theorem dX12_covered_27 : decode cX12_covered 27 = .ok (.iconst 0, 1) := by decide +kernel
theorem dX12_covered_28 : decode cX12_covered 28 = .ok (.istore_n 3, 1) := by decide +kernel
theorem dX12_covered_29 : decode cX12_covered 29 = .ok (.iload_n 3, 1) := by decide +kernel
theorem dX12_covered_30 : decode cX12_covered 30 = .ok (.bipush 64, 2) := by decide +kernel
theorem dX12_covered_32 : decode cX12_covered 32 = .ok (.if_icmp .ge 25, 3) := by decide +kernel
theorem dX12_covered_35 : decode cX12_covered 35 = .ok (.iload_n 2, 1) := by decide +kernel
theorem dX12_covered_36 : decode cX12_covered 36 = .ok (.aload_n 0, 1) := by decide +kernel
theorem dX12_covered_37 : decode cX12_covered 37 = .ok (.iload_n 3, 1) := by decide +kernel
theorem dX12_covered_38 : decode cX12_covered 38 = .ok (.invokevirtual 133, 3) := by decide +kernel
theorem dX12_covered_41 : decode cX12_covered 41 = .ok (.ifCond .ne 7, 3) := by decide +kernel
theorem dX12_covered_44 : decode cX12_covered 44 = .ok (.iconst 1, 1) := by decide +kernel
theorem dX12_covered_45 : decode cX12_covered 45 = .ok (.goto 4, 3) := by decide +kernel
theorem dX12_covered_48 : decode cX12_covered 48 = .ok (.iconst 0, 1) := by decide +kernel
theorem dX12_covered_49 : decode cX12_covered 49 = .ok (.iadd, 1) := by decide +kernel
theorem dX12_covered_50 : decode cX12_covered 50 = .ok (.istore_n 2, 1) := by decide +kernel
theorem dX12_covered_51 : decode cX12_covered 51 = .ok (.iinc 3 1, 3) := by decide +kernel
theorem dX12_covered_54 : decode cX12_covered 54 = .ok (.goto (-25), 3) := by decide +kernel
theorem dX12_covered_57 : decode cX12_covered 57 = .ok (.iload_n 2, 1) := by decide +kernel
theorem dX12_covered_58 : decode cX12_covered 58 = .ok (.ireturn, 1) := by decide +kernel
theorem dX12_ends_0 : decode cX12_ends 0 = .ok (.iload_n 1, 1) := by decide +kernel
theorem dX12_ends_1 : decode cX12_ends 1 = .ok (.invokestatic 111, 3) := by decide +kernel
theorem dX12_ends_4 : decode cX12_ends 4 = .ok (.ifCond .eq 20, 3) := by decide +kernel
theorem dX12_ends_7 : decode cX12_ends 7 = .ok (.aload_n 0, 1) := by decide +kernel
theorem dX12_ends_8 : decode cX12_ends 8 = .ok (.iload_n 2, 1) := by decide +kernel
theorem dX12_ends_9 : decode cX12_ends 9 = .ok (.iload_n 3, 1) := by decide +kernel
theorem dX12_ends_10 : decode cX12_ends 10 = .ok (.invokevirtual 107, 3) := by decide +kernel
theorem dX12_ends_13 : decode cX12_ends 13 = .ok (.ifCond .eq 11, 3) := by decide +kernel
theorem dX12_ends_16 : decode cX12_ends 16 = .ok (.iload 4, 2) := by decide +kernel
theorem dX12_ends_18 : decode cX12_ends 18 = .ok (.invokestatic 111, 3) := by decide +kernel
theorem dX12_ends_21 : decode cX12_ends 21 = .ok (.ifCond .ne 5, 3) := by decide +kernel
theorem dX12_ends_24 : decode cX12_ends 24 = .ok (.iconst (-1), 1) := by decide +kernel
theorem dX12_ends_25 : decode cX12_ends 25 = .ok (.ireturn, 1) := by decide +kernel
theorem dX12_ends_26 : decode cX12_ends 26 = .ok (.aload_n 0, 1) := by decide +kernel
theorem dX12_ends_27 : decode cX12_ends 27 = .ok (.iload_n 2, 1) := by decide +kernel
theorem dX12_ends_28 : decode cX12_ends 28 = .ok (.iload_n 3, 1) := by decide +kernel
theorem dX12_ends_29 : decode cX12_ends 29 = .ok (.iconst 0, 1) := by decide +kernel
theorem dX12_ends_30 : decode cX12_ends 30 = .ok (.invokevirtual 124, 3) := by decide +kernel
theorem dX12_ends_33 : decode cX12_ends 33 = .ok (.iconst 0, 1) := by decide +kernel
theorem dX12_ends_34 : decode cX12_ends 34 = .ok (.istore 6, 2) := by decide +kernel
theorem dX12_ends_36 : decode cX12_ends 36 = .ok (.sipush 255, 3) := by decide +kernel
theorem dX12_ends_39 : decode cX12_ends 39 = .ok (.istore 7, 2) := by decide +kernel
theorem dX12_ends_41 : decode cX12_ends 41 = .ok (.iconst 0, 1) := by decide +kernel
theorem dX12_ends_42 : decode cX12_ends 42 = .ok (.istore 8, 2) := by decide +kernel
theorem dX12_ends_44 : decode cX12_ends 44 = .ok (.iload 8, 2) := by decide +kernel
theorem dX12_ends_46 : decode cX12_ends 46 = .ok (.aload_n 0, 1) := by decide +kernel
theorem dX12_ends_47 : decode cX12_ends 47 = .ok (.getfield 7, 3) := by decide +kernel
theorem dX12_ends_50 : decode cX12_ends 50 = .ok (.iconst 1, 1) := by decide +kernel
theorem dX12_ends_51 : decode cX12_ends 51 = .ok (.iaload, 1) := by decide +kernel
theorem dX12_ends_52 : decode cX12_ends 52 = .ok (.if_icmp .ge 136, 3) := by decide +kernel
theorem dX12_ends_55 : decode cX12_ends 55 = .ok (.aload_n 0, 1) := by decide +kernel
theorem dX12_ends_56 : decode cX12_ends 56 = .ok (.getfield 7, 3) := by decide +kernel
theorem dX12_ends_59 : decode cX12_ends 59 = .ok (.sipush 620, 3) := by decide +kernel
theorem dX12_ends_62 : decode cX12_ends 62 = .ok (.iconst 2, 1) := by decide +kernel
theorem dX12_ends_63 : decode cX12_ends 63 = .ok (.iload 8, 2) := by decide +kernel
theorem dX12_ends_65 : decode cX12_ends 65 = .ok (.imul, 1) := by decide +kernel
theorem dX12_ends_66 : decode cX12_ends 66 = .ok (.iadd, 1) := by decide +kernel
theorem dX12_ends_67 : decode cX12_ends 67 = .ok (.iconst 1, 1) := by decide +kernel
theorem dX12_ends_68 : decode cX12_ends 68 = .ok (.iadd, 1) := by decide +kernel
theorem dX12_ends_69 : decode cX12_ends 69 = .ok (.iaload, 1) := by decide +kernel
theorem dX12_ends_70 : decode cX12_ends 70 = .ok (.istore 9, 2) := by decide +kernel
theorem dX12_ends_72 : decode cX12_ends 72 = .ok (.aload_n 0, 1) := by decide +kernel
theorem dX12_ends_73 : decode cX12_ends 73 = .ok (.iload 8, 2) := by decide +kernel
theorem dX12_ends_75 : decode cX12_ends 75 = .ok (.iload_n 1, 1) := by decide +kernel
theorem dX12_ends_76 : decode cX12_ends 76 = .ok (.invokevirtual 130, 3) := by decide +kernel
theorem dX12_ends_79 : decode cX12_ends 79 = .ok (.iload 9, 2) := by decide +kernel
theorem dX12_ends_81 : decode cX12_ends 81 = .ok (.if_icmp .le 6, 3) := by decide +kernel
theorem dX12_ends_84 : decode cX12_ends 84 = .ok (.goto 98, 3) := by decide +kernel
theorem dX12_ends_87 : decode cX12_ends 87 = .ok (.iload 9, 2) := by decide +kernel
theorem dX12_ends_89 : decode cX12_ends 89 = .ok (.iconst 1, 1) := by decide +kernel
theorem dX12_ends_90 : decode cX12_ends 90 = .ok (.iadd, 1) := by decide +kernel
theorem dX12_ends_91 : decode cX12_ends 91 = .ok (.aload_n 0, 1) := by decide +kernel
theorem dX12_ends_92 : decode cX12_ends 92 = .ok (.iload 8, 2) := by decide +kernel
theorem dX12_ends_94 : decode cX12_ends 94 = .ok (.iload_n 1, 1) := by decide +kernel
theorem dX12_ends_95 : decode cX12_ends 95 = .ok (.invokevirtual 130, 3) := by decide +kernel
theorem dX12_ends_98 : decode cX12_ends 98 = .ok (.isub, 1) := by decide +kernel
theorem dX12_ends_99 : decode cX12_ends 99 = .ok (.istore 10, 2) := by decide +kernel
theorem dX12_ends_101 : decode cX12_ends 101 = .ok (.iload 9, 2) := by decide +kernel
theorem dX12_ends_103 : decode cX12_ends 103 = .ok (.iconst 1, 1) := by decide +kernel
theorem dX12_ends_104 : decode cX12_ends 104 = .ok (.iadd, 1) := by decide +kernel
theorem dX12_ends_105 : decode cX12_ends 105 = .ok (.iload 9, 2) := by decide +kernel
theorem dX12_ends_107 : decode cX12_ends 107 = .ok (.iconst 1, 1) := by decide +kernel
theorem dX12_ends_108 : decode cX12_ends 108 = .ok (.iadd, 1) := by decide +kernel
theorem dX12_ends_109 : decode cX12_ends 109 = .ok (.imul, 1) := by decide +kernel
theorem dX12_ends_110 : decode cX12_ends 110 = .ok (.istore 11, 2) := by decide +kernel
theorem dX12_ends_112 : decode cX12_ends 112 = .ok (.aload_n 0, 1) := by decide +kernel
theorem dX12_ends_113 : decode cX12_ends 113 = .ok (.iload 8, 2) := by decide +kernel
theorem dX12_ends_115 : decode cX12_ends 115 = .ok (.iload 4, 2) := by decide +kernel
theorem dX12_ends_117 : decode cX12_ends 117 = .ok (.invokevirtual 127, 3) := by decide +kernel
theorem dX12_ends_120 : decode cX12_ends 120 = .ok (.istore 12, 2) := by decide +kernel
theorem dX12_ends_122 : decode cX12_ends 122 = .ok (.iload 12, 2) := by decide +kernel
theorem dX12_ends_124 : decode cX12_ends 124 = .ok (.iload 11, 2) := by decide +kernel
theorem dX12_ends_126 : decode cX12_ends 126 = .ok (.imul, 1) := by decide +kernel
theorem dX12_ends_127 : decode cX12_ends 127 = .ok (.sipush 255, 3) := by decide +kernel
theorem dX12_ends_130 : decode cX12_ends 130 = .ok (.iload 11, 2) := by decide +kernel
theorem dX12_ends_132 : decode cX12_ends 132 = .ok (.iload 10, 2) := by decide +kernel
theorem dX12_ends_134 : decode cX12_ends 134 = .ok (.isub, 1) := by decide +kernel
theorem dX12_ends_135 : decode cX12_ends 135 = .ok (.imul, 1) := by decide +kernel
theorem dX12_ends_136 : decode cX12_ends 136 = .ok (.isub, 1) := by decide +kernel
theorem dX12_ends_137 : decode cX12_ends 137 = .ok (.ineg, 1) := by decide +kernel
theorem dX12_ends_138 : decode cX12_ends 138 = .ok (.iload 10, 2) := by decide +kernel
theorem dX12_ends_140 : decode cX12_ends 140 = .ok (.invokestatic 93, 3) := by decide +kernel
theorem dX12_ends_143 : decode cX12_ends 143 = .ok (.ineg, 1) := by decide +kernel
theorem dX12_ends_144 : decode cX12_ends 144 = .ok (.istore 13, 2) := by decide +kernel
theorem dX12_ends_146 : decode cX12_ends 146 = .ok (.iload 12, 2) := by decide +kernel
theorem dX12_ends_148 : decode cX12_ends 148 = .ok (.iconst 1, 1) := by decide +kernel
theorem dX12_ends_149 : decode cX12_ends 149 = .ok (.iadd, 1) := by decide +kernel
theorem dX12_ends_150 : decode cX12_ends 150 = .ok (.iload 11, 2) := by decide +kernel
theorem dX12_ends_152 : decode cX12_ends 152 = .ok (.imul, 1) := by decide +kernel
theorem dX12_ends_153 : decode cX12_ends 153 = .ok (.iconst 1, 1) := by decide +kernel
theorem dX12_ends_154 : decode cX12_ends 154 = .ok (.isub, 1) := by decide +kernel
theorem dX12_ends_155 : decode cX12_ends 155 = .ok (.iload 10, 2) := by decide +kernel
theorem dX12_ends_157 : decode cX12_ends 157 = .ok (.idiv, 1) := by decide +kernel
theorem dX12_ends_158 : decode cX12_ends 158 = .ok (.istore 14, 2) := by decide +kernel
theorem dX12_ends_160 : decode cX12_ends 160 = .ok (.iload 13, 2) := by decide +kernel
theorem dX12_ends_162 : decode cX12_ends 162 = .ok (.iload 6, 2) := by decide +kernel
theorem dX12_ends_164 : decode cX12_ends 164 = .ok (.if_icmp .le 7, 3) := by decide +kernel
theorem dX12_ends_167 : decode cX12_ends 167 = .ok (.iload 13, 2) := by decide +kernel
theorem dX12_ends_169 : decode cX12_ends 169 = .ok (.istore 6, 2) := by decide +kernel
theorem dX12_ends_171 : decode cX12_ends 171 = .ok (.iload 14, 2) := by decide +kernel
theorem dX12_ends_173 : decode cX12_ends 173 = .ok (.iload 7, 2) := by decide +kernel
theorem dX12_ends_175 : decode cX12_ends 175 = .ok (.if_icmp .ge 7, 3) := by decide +kernel
theorem dX12_ends_178 : decode cX12_ends 178 = .ok (.iload 14, 2) := by decide +kernel
theorem dX12_ends_180 : decode cX12_ends 180 = .ok (.istore 7, 2) := by decide +kernel
theorem dX12_ends_182 : decode cX12_ends 182 = .ok (.iinc 8 1, 3) := by decide +kernel
theorem dX12_ends_185 : decode cX12_ends 185 = .ok (.goto (-141), 3) := by decide +kernel
theorem dX12_ends_188 : decode cX12_ends 188 = .ok (.iload 5, 2) := by decide +kernel
theorem dX12_ends_190 : decode cX12_ends 190 = .ok (.ifCond .eq 8, 3) := by decide +kernel
theorem dX12_ends_193 : decode cX12_ends 193 = .ok (.iload 7, 2) := by decide +kernel
theorem dX12_ends_195 : decode cX12_ends 195 = .ok (.goto 5, 3) := by decide +kernel
theorem dX12_ends_198 : decode cX12_ends 198 = .ok (.iload 6, 2) := by decide +kernel
theorem dX12_ends_200 : decode cX12_ends 200 = .ok (.ireturn, 1) := by decide +kernel
theorem dX12_width_0 : decode cX12_width 0 = .ok (.iload_n 1, 1) := by decide +kernel
theorem dX12_width_1 : decode cX12_width 1 = .ok (.invokestatic 111, 3) := by decide +kernel
theorem dX12_width_4 : decode cX12_width 4 = .ok (.ifCond .eq 28, 3) := by decide +kernel
theorem dX12_width_7 : decode cX12_width 7 = .ok (.iload_n 2, 1) := by decide +kernel
theorem dX12_width_8 : decode cX12_width 8 = .ok (.invokestatic 111, 3) := by decide +kernel
theorem dX12_width_11 : decode cX12_width 11 = .ok (.ifCond .eq 21, 3) := by decide +kernel
theorem dX12_width_14 : decode cX12_width 14 = .ok (.aload_n 0, 1) := by decide +kernel
theorem dX12_width_15 : decode cX12_width 15 = .ok (.iload_n 3, 1) := by decide +kernel
theorem dX12_width_16 : decode cX12_width 16 = .ok (.iload 4, 2) := by decide +kernel
theorem dX12_width_18 : decode cX12_width 18 = .ok (.invokevirtual 107, 3) := by decide +kernel
theorem dX12_width_21 : decode cX12_width 21 = .ok (.ifCond .eq 11, 3) := by decide +kernel
theorem dX12_width_24 : decode cX12_width 24 = .ok (.iload 5, 2) := by decide +kernel
theorem dX12_width_26 : decode cX12_width 26 = .ok (.invokestatic 111, 3) := by decide +kernel
theorem dX12_width_29 : decode cX12_width 29 = .ok (.ifCond .ne 5, 3) := by decide +kernel
theorem dX12_width_32 : decode cX12_width 32 = .ok (.iconst (-1), 1) := by decide +kernel
theorem dX12_width_33 : decode cX12_width 33 = .ok (.ireturn, 1) := by decide +kernel
theorem dX12_width_34 : decode cX12_width 34 = .ok (.aload_n 0, 1) := by decide +kernel
theorem dX12_width_35 : decode cX12_width 35 = .ok (.iload_n 3, 1) := by decide +kernel
theorem dX12_width_36 : decode cX12_width 36 = .ok (.iload 4, 2) := by decide +kernel
theorem dX12_width_38 : decode cX12_width 38 = .ok (.iconst 0, 1) := by decide +kernel
theorem dX12_width_39 : decode cX12_width 39 = .ok (.invokevirtual 124, 3) := by decide +kernel
theorem dX12_width_42 : decode cX12_width 42 = .ok (.iconst 0, 1) := by decide +kernel
theorem dX12_width_43 : decode cX12_width 43 = .ok (.istore 6, 2) := by decide +kernel
theorem dX12_width_45 : decode cX12_width 45 = .ok (.iconst (-1), 1) := by decide +kernel
theorem dX12_width_46 : decode cX12_width 46 = .ok (.istore 7, 2) := by decide +kernel
theorem dX12_width_48 : decode cX12_width 48 = .ok (.iconst 0, 1) := by decide +kernel
theorem dX12_width_49 : decode cX12_width 49 = .ok (.istore 8, 2) := by decide +kernel
theorem dX12_width_51 : decode cX12_width 51 = .ok (.iload 8, 2) := by decide +kernel
theorem dX12_width_53 : decode cX12_width 53 = .ok (.bipush 8, 2) := by decide +kernel
theorem dX12_width_55 : decode cX12_width 55 = .ok (.if_icmp .ge 51, 3) := by decide +kernel
theorem dX12_width_58 : decode cX12_width 58 = .ok (.aload_n 0, 1) := by decide +kernel
theorem dX12_width_59 : decode cX12_width 59 = .ok (.iload_n 1, 1) := by decide +kernel
theorem dX12_width_60 : decode cX12_width 60 = .ok (.iload 8, 2) := by decide +kernel
theorem dX12_width_62 : decode cX12_width 62 = .ok (.iload 5, 2) := by decide +kernel
theorem dX12_width_64 : decode cX12_width 64 = .ok (.invokevirtual 120, 3) := by decide +kernel
theorem dX12_width_67 : decode cX12_width 67 = .ok (.aload_n 0, 1) := by decide +kernel
theorem dX12_width_68 : decode cX12_width 68 = .ok (.iload_n 2, 1) := by decide +kernel
theorem dX12_width_69 : decode cX12_width 69 = .ok (.iload 8, 2) := by decide +kernel
theorem dX12_width_71 : decode cX12_width 71 = .ok (.iload 5, 2) := by decide +kernel
theorem dX12_width_73 : decode cX12_width 73 = .ok (.invokevirtual 120, 3) := by decide +kernel
theorem dX12_width_76 : decode cX12_width 76 = .ok (.isub, 1) := by decide +kernel
theorem dX12_width_77 : decode cX12_width 77 = .ok (.invokestatic 117, 3) := by decide +kernel
theorem dX12_width_80 : decode cX12_width 80 = .ok (.istore 9, 2) := by decide +kernel
theorem dX12_width_82 : decode cX12_width 82 = .ok (.iload 9, 2) := by decide +kernel
theorem dX12_width_84 : decode cX12_width 84 = .ok (.iload 7, 2) := by decide +kernel
theorem dX12_width_86 : decode cX12_width 86 = .ok (.if_icmp .gt 6, 3) := by decide +kernel
theorem dX12_width_89 : decode cX12_width 89 = .ok (.goto 11, 3) := by decide +kernel
theorem dX12_width_92 : decode cX12_width 92 = .ok (.iload 8, 2) := by decide +kernel
theorem dX12_width_94 : decode cX12_width 94 = .ok (.istore 6, 2) := by decide +kernel
theorem dX12_width_96 : decode cX12_width 96 = .ok (.iload 9, 2) := by decide +kernel
theorem dX12_width_98 : decode cX12_width 98 = .ok (.istore 7, 2) := by decide +kernel
theorem dX12_width_100 : decode cX12_width 100 = .ok (.iinc 8 1, 3) := by decide +kernel
theorem dX12_width_103 : decode cX12_width 103 = .ok (.goto (-52), 3) := by decide +kernel
theorem dX12_width_106 : decode cX12_width 106 = .ok (.iload 6, 2) := by decide +kernel
theorem dX12_width_108 : decode cX12_width 108 = .ok (.ireturn, 1) := by decide +kernel
theorem dX12_same_0 : decode cX12_same 0 = .ok (.iload_n 1, 1) := by decide +kernel
theorem dX12_same_1 : decode cX12_same 1 = .ok (.iconst 0, 1) := by decide +kernel
theorem dX12_same_2 : decode cX12_same 2 = .ok (.aload_n 0, 1) := by decide +kernel
theorem dX12_same_3 : decode cX12_same 3 = .ok (.getfield 7, 3) := by decide +kernel
theorem dX12_same_6 : decode cX12_same 6 = .ok (.iconst 0, 1) := by decide +kernel
theorem dX12_same_7 : decode cX12_same 7 = .ok (.iaload, 1) := by decide +kernel
theorem dX12_same_8 : decode cX12_same 8 = .ok (.iconst 1, 1) := by decide +kernel
theorem dX12_same_9 : decode cX12_same 9 = .ok (.isub, 1) := by decide +kernel
theorem dX12_same_10 : decode cX12_same 10 = .ok (.invokestatic 71, 3) := by decide +kernel
theorem dX12_same_13 : decode cX12_same 13 = .ok (.ifCond .eq 44, 3) := by decide +kernel
theorem dX12_same_16 : decode cX12_same 16 = .ok (.aload_n 0, 1) := by decide +kernel
theorem dX12_same_17 : decode cX12_same 17 = .ok (.iload 4, 2) := by decide +kernel
theorem dX12_same_19 : decode cX12_same 19 = .ok (.iload 5, 2) := by decide +kernel
theorem dX12_same_21 : decode cX12_same 21 = .ok (.invokevirtual 107, 3) := by decide +kernel
theorem dX12_same_24 : decode cX12_same 24 = .ok (.ifCond .eq 33, 3) := by decide +kernel
theorem dX12_same_27 : decode cX12_same 27 = .ok (.iload 6, 2) := by decide +kernel
theorem dX12_same_29 : decode cX12_same 29 = .ok (.invokestatic 111, 3) := by decide +kernel
theorem dX12_same_32 : decode cX12_same 32 = .ok (.ifCond .eq 25, 3) := by decide +kernel
theorem dX12_same_35 : decode cX12_same 35 = .ok (.iload_n 2, 1) := by decide +kernel
theorem dX12_same_36 : decode cX12_same 36 = .ok (.bipush (-23), 2) := by decide +kernel
theorem dX12_same_38 : decode cX12_same 38 = .ok (.bipush 23, 2) := by decide +kernel
theorem dX12_same_40 : decode cX12_same 40 = .ok (.invokestatic 71, 3) := by decide +kernel
theorem dX12_same_43 : decode cX12_same 43 = .ok (.ifCond .eq 14, 3) := by decide +kernel
theorem dX12_same_46 : decode cX12_same 46 = .ok (.iload_n 3, 1) := by decide +kernel
theorem dX12_same_47 : decode cX12_same 47 = .ok (.bipush (-23), 2) := by decide +kernel
theorem dX12_same_49 : decode cX12_same 49 = .ok (.bipush 23, 2) := by decide +kernel
theorem dX12_same_51 : decode cX12_same 51 = .ok (.invokestatic 71, 3) := by decide +kernel
theorem dX12_same_54 : decode cX12_same 54 = .ok (.ifCond .ne 5, 3) := by decide +kernel
theorem dX12_same_57 : decode cX12_same 57 = .ok (.iconst (-1), 1) := by decide +kernel
theorem dX12_same_58 : decode cX12_same 58 = .ok (.ireturn, 1) := by decide +kernel
theorem dX12_same_59 : decode cX12_same 59 = .ok (.aload_n 0, 1) := by decide +kernel
theorem dX12_same_60 : decode cX12_same 60 = .ok (.getfield 7, 3) := by decide +kernel
theorem dX12_same_63 : decode cX12_same 63 = .ok (.sipush 590, 3) := by decide +kernel
theorem dX12_same_66 : decode cX12_same 66 = .ok (.iconst 4, 1) := by decide +kernel
theorem dX12_same_67 : decode cX12_same 67 = .ok (.iload_n 1, 1) := by decide +kernel
theorem dX12_same_68 : decode cX12_same 68 = .ok (.imul, 1) := by decide +kernel
theorem dX12_same_69 : decode cX12_same 69 = .ok (.iadd, 1) := by decide +kernel
theorem dX12_same_70 : decode cX12_same 70 = .ok (.iaload, 1) := by decide +kernel
theorem dX12_same_71 : decode cX12_same 71 = .ok (.istore 7, 2) := by decide +kernel
theorem dX12_same_73 : decode cX12_same 73 = .ok (.iload 7, 2) := by decide +kernel
theorem dX12_same_75 : decode cX12_same 75 = .ok (.aload_n 0, 1) := by decide +kernel
theorem dX12_same_76 : decode cX12_same 76 = .ok (.getfield 61, 3) := by decide +kernel
theorem dX12_same_79 : decode cX12_same 79 = .ok (.irem, 1) := by decide +kernel
theorem dX12_same_80 : decode cX12_same 80 = .ok (.iload_n 2, 1) := by decide +kernel
theorem dX12_same_81 : decode cX12_same 81 = .ok (.iadd, 1) := by decide +kernel
theorem dX12_same_82 : decode cX12_same 82 = .ok (.istore 8, 2) := by decide +kernel
theorem dX12_same_84 : decode cX12_same 84 = .ok (.iload 7, 2) := by decide +kernel
theorem dX12_same_86 : decode cX12_same 86 = .ok (.aload_n 0, 1) := by decide +kernel
theorem dX12_same_87 : decode cX12_same 87 = .ok (.getfield 61, 3) := by decide +kernel
theorem dX12_same_90 : decode cX12_same 90 = .ok (.idiv, 1) := by decide +kernel
theorem dX12_same_91 : decode cX12_same 91 = .ok (.iload_n 3, 1) := by decide +kernel
theorem dX12_same_92 : decode cX12_same 92 = .ok (.iadd, 1) := by decide +kernel
theorem dX12_same_93 : decode cX12_same 93 = .ok (.istore 9, 2) := by decide +kernel
theorem dX12_same_95 : decode cX12_same 95 = .ok (.iload 8, 2) := by decide +kernel
theorem dX12_same_97 : decode cX12_same 97 = .ok (.iconst 0, 1) := by decide +kernel
theorem dX12_same_98 : decode cX12_same 98 = .ok (.aload_n 0, 1) := by decide +kernel
theorem dX12_same_99 : decode cX12_same 99 = .ok (.getfield 61, 3) := by decide +kernel
theorem dX12_same_102 : decode cX12_same 102 = .ok (.iconst 1, 1) := by decide +kernel
theorem dX12_same_103 : decode cX12_same 103 = .ok (.isub, 1) := by decide +kernel
theorem dX12_same_104 : decode cX12_same 104 = .ok (.invokestatic 71, 3) := by decide +kernel
theorem dX12_same_107 : decode cX12_same 107 = .ok (.ifCond .eq 18, 3) := by decide +kernel
theorem dX12_same_110 : decode cX12_same 110 = .ok (.iload 9, 2) := by decide +kernel
theorem dX12_same_112 : decode cX12_same 112 = .ok (.iconst 0, 1) := by decide +kernel
theorem dX12_same_113 : decode cX12_same 113 = .ok (.aload_n 0, 1) := by decide +kernel
theorem dX12_same_114 : decode cX12_same 114 = .ok (.getfield 64, 3) := by decide +kernel
theorem dX12_same_117 : decode cX12_same 117 = .ok (.iconst 1, 1) := by decide +kernel
theorem dX12_same_118 : decode cX12_same 118 = .ok (.isub, 1) := by decide +kernel
theorem dX12_same_119 : decode cX12_same 119 = .ok (.invokestatic 71, 3) := by decide +kernel
theorem dX12_same_122 : decode cX12_same 122 = .ok (.ifCond .ne 5, 3) := by decide +kernel
theorem dX12_same_125 : decode cX12_same 125 = .ok (.iconst (-1), 1) := by decide +kernel
theorem dX12_same_126 : decode cX12_same 126 = .ok (.ireturn, 1) := by decide +kernel
theorem dX12_same_127 : decode cX12_same 127 = .ok (.aload_n 0, 1) := by decide +kernel
theorem dX12_same_128 : decode cX12_same 128 = .ok (.iload 4, 2) := by decide +kernel
theorem dX12_same_130 : decode cX12_same 130 = .ok (.iload 5, 2) := by decide +kernel
theorem dX12_same_132 : decode cX12_same 132 = .ok (.iconst 0, 1) := by decide +kernel
theorem dX12_same_133 : decode cX12_same 133 = .ok (.invokevirtual 124, 3) := by decide +kernel
theorem dX12_same_136 : decode cX12_same 136 = .ok (.iconst 0, 1) := by decide +kernel
theorem dX12_same_137 : decode cX12_same 137 = .ok (.istore 10, 2) := by decide +kernel
theorem dX12_same_139 : decode cX12_same 139 = .ok (.iload 10, 2) := by decide +kernel
theorem dX12_same_141 : decode cX12_same 141 = .ok (.aload_n 0, 1) := by decide +kernel
theorem dX12_same_142 : decode cX12_same 142 = .ok (.getfield 7, 3) := by decide +kernel
theorem dX12_same_145 : decode cX12_same 145 = .ok (.iconst 1, 1) := by decide +kernel
theorem dX12_same_146 : decode cX12_same 146 = .ok (.iaload, 1) := by decide +kernel
theorem dX12_same_147 : decode cX12_same 147 = .ok (.if_icmp .ge 24, 3) := by decide +kernel
theorem dX12_same_150 : decode cX12_same 150 = .ok (.aload_n 0, 1) := by decide +kernel
theorem dX12_same_151 : decode cX12_same 151 = .ok (.getfield 28, 3) := by decide +kernel
theorem dX12_same_154 : decode cX12_same 154 = .ok (.iload 10, 2) := by decide +kernel
theorem dX12_same_156 : decode cX12_same 156 = .ok (.aload_n 0, 1) := by decide +kernel
theorem dX12_same_157 : decode cX12_same 157 = .ok (.iload 10, 2) := by decide +kernel
theorem dX12_same_159 : decode cX12_same 159 = .ok (.iload 6, 2) := by decide +kernel
theorem dX12_same_161 : decode cX12_same 161 = .ok (.invokevirtual 127, 3) := by decide +kernel
theorem dX12_same_164 : decode cX12_same 164 = .ok (.iastore, 1) := by decide +kernel
theorem dX12_same_165 : decode cX12_same 165 = .ok (.iinc 10 1, 3) := by decide +kernel
theorem dX12_same_168 : decode cX12_same 168 = .ok (.goto (-29), 3) := by decide +kernel
theorem dX12_same_171 : decode cX12_same 171 = .ok (.aload_n 0, 1) := by decide +kernel
theorem dX12_same_172 : decode cX12_same 172 = .ok (.getfield 7, 3) := by decide +kernel
theorem dX12_same_175 : decode cX12_same 175 = .ok (.sipush 590, 3) := by decide +kernel
theorem dX12_same_178 : decode cX12_same 178 = .ok (.iconst 4, 1) := by decide +kernel
theorem dX12_same_179 : decode cX12_same 179 = .ok (.iload_n 1, 1) := by decide +kernel
theorem dX12_same_180 : decode cX12_same 180 = .ok (.imul, 1) := by decide +kernel
theorem dX12_same_181 : decode cX12_same 181 = .ok (.iadd, 1) := by decide +kernel
theorem dX12_same_182 : decode cX12_same 182 = .ok (.iload 9, 2) := by decide +kernel
theorem dX12_same_184 : decode cX12_same 184 = .ok (.aload_n 0, 1) := by decide +kernel
theorem dX12_same_185 : decode cX12_same 185 = .ok (.getfield 61, 3) := by decide +kernel
theorem dX12_same_188 : decode cX12_same 188 = .ok (.imul, 1) := by decide +kernel
theorem dX12_same_189 : decode cX12_same 189 = .ok (.iload 8, 2) := by decide +kernel
theorem dX12_same_191 : decode cX12_same 191 = .ok (.iadd, 1) := by decide +kernel
theorem dX12_same_192 : decode cX12_same 192 = .ok (.iastore, 1) := by decide +kernel
theorem dX12_same_193 : decode cX12_same 193 = .ok (.aload_n 0, 1) := by decide +kernel
theorem dX12_same_194 : decode cX12_same 194 = .ok (.iload 4, 2) := by decide +kernel
theorem dX12_same_196 : decode cX12_same 196 = .ok (.iload 5, 2) := by decide +kernel
theorem dX12_same_198 : decode cX12_same 198 = .ok (.iconst 0, 1) := by decide +kernel
theorem dX12_same_199 : decode cX12_same 199 = .ok (.invokevirtual 124, 3) := by decide +kernel
theorem dX12_same_202 : decode cX12_same 202 = .ok (.iconst 1, 1) := by decide +kernel
theorem dX12_same_203 : decode cX12_same 203 = .ok (.istore 10, 2) := by decide +kernel
theorem dX12_same_205 : decode cX12_same 205 = .ok (.iconst 0, 1) := by decide +kernel
theorem dX12_same_206 : decode cX12_same 206 = .ok (.istore 11, 2) := by decide +kernel
theorem dX12_same_208 : decode cX12_same 208 = .ok (.iload 11, 2) := by decide +kernel
theorem dX12_same_210 : decode cX12_same 210 = .ok (.aload_n 0, 1) := by decide +kernel
theorem dX12_same_211 : decode cX12_same 211 = .ok (.getfield 7, 3) := by decide +kernel
theorem dX12_same_214 : decode cX12_same 214 = .ok (.iconst 1, 1) := by decide +kernel
theorem dX12_same_215 : decode cX12_same 215 = .ok (.iaload, 1) := by decide +kernel
theorem dX12_same_216 : decode cX12_same 216 = .ok (.if_icmp .ge 39, 3) := by decide +kernel
theorem dX12_same_219 : decode cX12_same 219 = .ok (.iload 10, 2) := by decide +kernel
theorem dX12_same_221 : decode cX12_same 221 = .ok (.ifCond .eq 25, 3) := by decide +kernel
theorem dX12_same_224 : decode cX12_same 224 = .ok (.aload_n 0, 1) := by decide +kernel
theorem dX12_same_225 : decode cX12_same 225 = .ok (.iload 11, 2) := by decide +kernel
theorem dX12_same_227 : decode cX12_same 227 = .ok (.iload 6, 2) := by decide +kernel
theorem dX12_same_229 : decode cX12_same 229 = .ok (.invokevirtual 127, 3) := by decide +kernel
theorem dX12_same_232 : decode cX12_same 232 = .ok (.aload_n 0, 1) := by decide +kernel
theorem dX12_same_233 : decode cX12_same 233 = .ok (.getfield 28, 3) := by decide +kernel
theorem dX12_same_236 : decode cX12_same 236 = .ok (.iload 11, 2) := by decide +kernel
theorem dX12_same_238 : decode cX12_same 238 = .ok (.iaload, 1) := by decide +kernel
theorem dX12_same_239 : decode cX12_same 239 = .ok (.if_icmp .ne 7, 3) := by decide +kernel
theorem dX12_same_242 : decode cX12_same 242 = .ok (.iconst 1, 1) := by decide +kernel
theorem dX12_same_243 : decode cX12_same 243 = .ok (.goto 4, 3) := by decide +kernel
theorem dX12_same_246 : decode cX12_same 246 = .ok (.iconst 0, 1) := by decide +kernel
theorem dX12_same_247 : decode cX12_same 247 = .ok (.istore 10, 2) := by decide +kernel
theorem dX12_same_249 : decode cX12_same 249 = .ok (.iinc 11 1, 3) := by decide +kernel
theorem dX12_same_252 : decode cX12_same 252 = .ok (.goto (-44), 3) := by decide +kernel
theorem dX12_same_255 : decode cX12_same 255 = .ok (.aload_n 0, 1) := by decide +kernel
theorem dX12_same_256 : decode cX12_same 256 = .ok (.getfield 7, 3) := by decide +kernel
theorem dX12_same_259 : decode cX12_same 259 = .ok (.sipush 590, 3) := by decide +kernel
theorem dX12_same_262 : decode cX12_same 262 = .ok (.iconst 4, 1) := by decide +kernel
theorem dX12_same_263 : decode cX12_same 263 = .ok (.iload_n 1, 1) := by decide +kernel
theorem dX12_same_264 : decode cX12_same 264 = .ok (.imul, 1) := by decide +kernel
theorem dX12_same_265 : decode cX12_same 265 = .ok (.iadd, 1) := by decide +kernel
theorem dX12_same_266 : decode cX12_same 266 = .ok (.iload 7, 2) := by decide +kernel
theorem dX12_same_268 : decode cX12_same 268 = .ok (.iastore, 1) := by decide +kernel
theorem dX12_same_269 : decode cX12_same 269 = .ok (.iload 10, 2) := by decide +kernel
theorem dX12_same_271 : decode cX12_same 271 = .ok (.ifCond .eq 7, 3) := by decide +kernel
theorem dX12_same_274 : decode cX12_same 274 = .ok (.iconst 1, 1) := by decide +kernel
theorem dX12_same_275 : decode cX12_same 275 = .ok (.goto 4, 3) := by decide +kernel
theorem dX12_same_278 : decode cX12_same 278 = .ok (.iconst 0, 1) := by decide +kernel
theorem dX12_same_279 : decode cX12_same 279 = .ok (.ireturn, 1) := by decide +kernel
theorem dX12_four_0 : decode cX12_four 0 = .ok (.bipush 24, 2) := by decide +kernel
theorem dX12_four_2 : decode cX12_four 2 = .ok (.istore_n 2, 1) := by decide +kernel
theorem dX12_four_3 : decode cX12_four 3 = .ok (.iload_n 2, 1) := by decide +kernel
theorem dX12_four_4 : decode cX12_four 4 = .ok (.ifCond .lt 35, 3) := by decide +kernel
theorem dX12_four_7 : decode cX12_four 7 = .ok (.aload_n 0, 1) := by decide +kernel
theorem dX12_four_8 : decode cX12_four 8 = .ok (.getfield 31, 3) := by decide +kernel
theorem dX12_four_11 : decode cX12_four 11 = .ok (.aload_n 0, 1) := by decide +kernel
theorem dX12_four_12 : decode cX12_four 12 = .ok (.getfield 136, 3) := by decide +kernel
theorem dX12_four_15 : decode cX12_four 15 = .ok (.iload_n 1, 1) := by decide +kernel
theorem dX12_four_16 : decode cX12_four 16 = .ok (.iload_n 2, 1) := by decide +kernel
theorem dX12_four_17 : decode cX12_four 17 = .ok (.ishr, 1) := by decide +kernel
theorem dX12_four_18 : decode cX12_four 18 = .ok (.sipush 255, 3) := by decide +kernel
theorem dX12_four_21 : decode cX12_four 21 = .ok (.iand, 1) := by decide +kernel
theorem dX12_four_22 : decode cX12_four 22 = .ok (.iastore, 1) := by decide +kernel
theorem dX12_four_23 : decode cX12_four 23 = .ok (.aload_n 0, 1) := by decide +kernel
theorem dX12_four_24 : decode cX12_four 24 = .ok (.dup, 1) := by decide +kernel
theorem dX12_four_25 : decode cX12_four 25 = .ok (.getfield 136, 3) := by decide +kernel
theorem dX12_four_28 : decode cX12_four 28 = .ok (.iconst 1, 1) := by decide +kernel
theorem dX12_four_29 : decode cX12_four 29 = .ok (.iadd, 1) := by decide +kernel
theorem dX12_four_30 : decode cX12_four 30 = .ok (.putfield 136, 3) := by decide +kernel
theorem dX12_four_33 : decode cX12_four 33 = .ok (.iinc 2 (-8), 3) := by decide +kernel
theorem dX12_four_36 : decode cX12_four 36 = .ok (.goto (-33), 3) := by decide +kernel
theorem dX12_four_39 : decode cX12_four 39 = .ok (.return_, 1) := by decide +kernel
theorem dX12_feed_0 : decode cX12_feed 0 = .ok (.aload_n 0, 1) := by decide +kernel
theorem dX12_feed_1 : decode cX12_feed 1 = .ok (.getfield 136, 3) := by decide +kernel
theorem dX12_feed_4 : decode cX12_feed 4 = .ok (.bipush 20, 2) := by decide +kernel
theorem dX12_feed_6 : decode cX12_feed 6 = .ok (.iadd, 1) := by decide +kernel
theorem dX12_feed_7 : decode cX12_feed 7 = .ok (.sipush 300, 3) := by decide +kernel
theorem dX12_feed_10 : decode cX12_feed 10 = .ok (.if_icmp .le 5, 3) := by decide +kernel
theorem dX12_feed_13 : decode cX12_feed 13 = .ok (.iconst (-1), 1) := by decide +kernel
theorem dX12_feed_14 : decode cX12_feed 14 = .ok (.ireturn, 1) := by decide +kernel
theorem dX12_feed_15 : decode cX12_feed 15 = .ok (.aload_n 0, 1) := by decide +kernel
theorem dX12_feed_16 : decode cX12_feed 16 = .ok (.iload_n 1, 1) := by decide +kernel
theorem dX12_feed_17 : decode cX12_feed 17 = .ok (.invokevirtual 139, 3) := by decide +kernel
theorem dX12_feed_20 : decode cX12_feed 20 = .ok (.aload_n 0, 1) := by decide +kernel
theorem dX12_feed_21 : decode cX12_feed 21 = .ok (.iload_n 2, 1) := by decide +kernel
theorem dX12_feed_22 : decode cX12_feed 22 = .ok (.invokevirtual 139, 3) := by decide +kernel
theorem dX12_feed_25 : decode cX12_feed 25 = .ok (.aload_n 0, 1) := by decide +kernel
theorem dX12_feed_26 : decode cX12_feed 26 = .ok (.iload_n 3, 1) := by decide +kernel
theorem dX12_feed_27 : decode cX12_feed 27 = .ok (.invokevirtual 139, 3) := by decide +kernel
theorem dX12_feed_30 : decode cX12_feed 30 = .ok (.aload_n 0, 1) := by decide +kernel
theorem dX12_feed_31 : decode cX12_feed 31 = .ok (.iload 4, 2) := by decide +kernel
theorem dX12_feed_33 : decode cX12_feed 33 = .ok (.invokevirtual 139, 3) := by decide +kernel
theorem dX12_feed_36 : decode cX12_feed 36 = .ok (.aload_n 0, 1) := by decide +kernel
theorem dX12_feed_37 : decode cX12_feed 37 = .ok (.iload 5, 2) := by decide +kernel
theorem dX12_feed_39 : decode cX12_feed 39 = .ok (.invokevirtual 139, 3) := by decide +kernel
theorem dX12_feed_42 : decode cX12_feed 42 = .ok (.aload_n 0, 1) := by decide +kernel
theorem dX12_feed_43 : decode cX12_feed 43 = .ok (.getfield 136, 3) := by decide +kernel
theorem dX12_feed_46 : decode cX12_feed 46 = .ok (.ireturn, 1) := by decide +kernel
theorem dX12_end_0 : decode cX12_end 0 = .ok (.iload_n 1, 1) := by decide +kernel
theorem dX12_end_1 : decode cX12_end 1 = .ok (.iconst 0, 1) := by decide +kernel
theorem dX12_end_2 : decode cX12_end 2 = .ok (.aload_n 0, 1) := by decide +kernel
theorem dX12_end_3 : decode cX12_end 3 = .ok (.getfield 136, 3) := by decide +kernel
theorem dX12_end_6 : decode cX12_end 6 = .ok (.invokestatic 71, 3) := by decide +kernel
theorem dX12_end_9 : decode cX12_end 9 = .ok (.ifCond .ne 5, 3) := by decide +kernel
theorem dX12_end_12 : decode cX12_end 12 = .ok (.iconst (-1), 1) := by decide +kernel
theorem dX12_end_13 : decode cX12_end 13 = .ok (.ireturn, 1) := by decide +kernel
theorem dX12_end_14 : decode cX12_end 14 = .ok (.aload_n 0, 1) := by decide +kernel
theorem dX12_end_15 : decode cX12_end 15 = .ok (.iload_n 1, 1) := by decide +kernel
theorem dX12_end_16 : decode cX12_end 16 = .ok (.putfield 136, 3) := by decide +kernel
theorem dX12_end_19 : decode cX12_end 19 = .ok (.iload_n 1, 1) := by decide +kernel
theorem dX12_end_20 : decode cX12_end 20 = .ok (.ireturn, 1) := by decide +kernel
theorem dX12_see_0 : decode cX12_see 0 = .ok (.iload_n 1, 1) := by decide +kernel
theorem dX12_see_1 : decode cX12_see 1 = .ok (.aload_n 0, 1) := by decide +kernel
theorem dX12_see_2 : decode cX12_see 2 = .ok (.getfield 136, 3) := by decide +kernel
theorem dX12_see_5 : decode cX12_see 5 = .ok (.if_icmp .ge 12, 3) := by decide +kernel
theorem dX12_see_8 : decode cX12_see 8 = .ok (.aload_n 0, 1) := by decide +kernel
theorem dX12_see_9 : decode cX12_see 9 = .ok (.getfield 31, 3) := by decide +kernel
theorem dX12_see_12 : decode cX12_see 12 = .ok (.iload_n 1, 1) := by decide +kernel
theorem dX12_see_13 : decode cX12_see 13 = .ok (.iaload, 1) := by decide +kernel
theorem dX12_see_14 : decode cX12_see 14 = .ok (.goto 4, 3) := by decide +kernel
theorem dX12_see_17 : decode cX12_see 17 = .ok (.iconst (-1), 1) := by decide +kernel
theorem dX12_see_18 : decode cX12_see 18 = .ok (.ireturn, 1) := by decide +kernel
theorem dX12_isLetter_0 : decode cX12_isLetter 0 = .ok (.iload_n 0, 1) := by decide +kernel
theorem dX12_isLetter_1 : decode cX12_isLetter 1 = .ok (.bipush 97, 2) := by decide +kernel
theorem dX12_isLetter_3 : decode cX12_isLetter 3 = .ok (.bipush 122, 2) := by decide +kernel
theorem dX12_isLetter_5 : decode cX12_isLetter 5 = .ok (.invokestatic 71, 3) := by decide +kernel
theorem dX12_isLetter_8 : decode cX12_isLetter 8 = .ok (.ifCond .ne 14, 3) := by decide +kernel
theorem dX12_isLetter_11 : decode cX12_isLetter 11 = .ok (.iload_n 0, 1) := by decide +kernel
theorem dX12_isLetter_12 : decode cX12_isLetter 12 = .ok (.bipush 65, 2) := by decide +kernel
theorem dX12_isLetter_14 : decode cX12_isLetter 14 = .ok (.bipush 90, 2) := by decide +kernel
theorem dX12_isLetter_16 : decode cX12_isLetter 16 = .ok (.invokestatic 71, 3) := by decide +kernel
theorem dX12_isLetter_19 : decode cX12_isLetter 19 = .ok (.ifCond .eq 7, 3) := by decide +kernel
theorem dX12_isLetter_22 : decode cX12_isLetter 22 = .ok (.iconst 1, 1) := by decide +kernel
theorem dX12_isLetter_23 : decode cX12_isLetter 23 = .ok (.goto 4, 3) := by decide +kernel
theorem dX12_isLetter_26 : decode cX12_isLetter 26 = .ok (.iconst 0, 1) := by decide +kernel
theorem dX12_isLetter_27 : decode cX12_isLetter 27 = .ok (.ireturn, 1) := by decide +kernel
theorem dX12_isDigit_0 : decode cX12_isDigit 0 = .ok (.iload_n 0, 1) := by decide +kernel
theorem dX12_isDigit_1 : decode cX12_isDigit 1 = .ok (.bipush 48, 2) := by decide +kernel
theorem dX12_isDigit_3 : decode cX12_isDigit 3 = .ok (.bipush 57, 2) := by decide +kernel
theorem dX12_isDigit_5 : decode cX12_isDigit 5 = .ok (.invokestatic 71, 3) := by decide +kernel
theorem dX12_isDigit_8 : decode cX12_isDigit 8 = .ok (.ireturn, 1) := by decide +kernel
theorem dX12_nextToken_0 : decode cX12_nextToken 0 = .ok (.aload_n 0, 1) := by decide +kernel
theorem dX12_nextToken_1 : decode cX12_nextToken 1 = .ok (.aload_n 0, 1) := by decide +kernel
theorem dX12_nextToken_2 : decode cX12_nextToken 2 = .ok (.getfield 142, 3) := by decide +kernel
theorem dX12_nextToken_5 : decode cX12_nextToken 5 = .ok (.invokevirtual 145, 3) := by decide +kernel
theorem dX12_nextToken_8 : decode cX12_nextToken 8 = .ok (.bipush 32, 2) := by decide +kernel
theorem dX12_nextToken_10 : decode cX12_nextToken 10 = .ok (.if_icmp .eq 16, 3) := by decide +kernel
theorem dX12_nextToken_13 : decode cX12_nextToken 13 = .ok (.aload_n 0, 1) := by decide +kernel
theorem dX12_nextToken_14 : decode cX12_nextToken 14 = .ok (.aload_n 0, 1) := by decide +kernel
theorem dX12_nextToken_15 : decode cX12_nextToken 15 = .ok (.getfield 142, 3) := by decide +kernel
theorem dX12_nextToken_18 : decode cX12_nextToken 18 = .ok (.invokevirtual 145, 3) := by decide +kernel
theorem dX12_nextToken_21 : decode cX12_nextToken 21 = .ok (.bipush 10, 2) := by decide +kernel
theorem dX12_nextToken_23 : decode cX12_nextToken 23 = .ok (.if_icmp .ne 16, 3) := by decide +kernel
theorem dX12_nextToken_26 : decode cX12_nextToken 26 = .ok (.aload_n 0, 1) := by decide +kernel
theorem dX12_nextToken_27 : decode cX12_nextToken 27 = .ok (.dup, 1) := by decide +kernel
theorem dX12_nextToken_28 : decode cX12_nextToken 28 = .ok (.getfield 142, 3) := by decide +kernel
theorem dX12_nextToken_31 : decode cX12_nextToken 31 = .ok (.iconst 1, 1) := by decide +kernel
theorem dX12_nextToken_32 : decode cX12_nextToken 32 = .ok (.iadd, 1) := by decide +kernel
theorem dX12_nextToken_33 : decode cX12_nextToken 33 = .ok (.putfield 142, 3) := by decide +kernel
theorem dX12_nextToken_36 : decode cX12_nextToken 36 = .ok (.goto (-36), 3) := by decide +kernel
theorem dX12_nextToken_39 : decode cX12_nextToken 39 = .ok (.aload_n 0, 1) := by decide +kernel
theorem dX12_nextToken_40 : decode cX12_nextToken 40 = .ok (.aload_n 0, 1) := by decide +kernel
theorem dX12_nextToken_41 : decode cX12_nextToken 41 = .ok (.getfield 142, 3) := by decide +kernel
theorem dX12_nextToken_44 : decode cX12_nextToken 44 = .ok (.putfield 148, 3) := by decide +kernel
theorem dX12_nextToken_47 : decode cX12_nextToken 47 = .ok (.aload_n 0, 1) := by decide +kernel
theorem dX12_nextToken_48 : decode cX12_nextToken 48 = .ok (.aload_n 0, 1) := by decide +kernel
theorem dX12_nextToken_49 : decode cX12_nextToken 49 = .ok (.getfield 142, 3) := by decide +kernel
theorem dX12_nextToken_52 : decode cX12_nextToken 52 = .ok (.invokevirtual 145, 3) := by decide +kernel
theorem dX12_nextToken_55 : decode cX12_nextToken 55 = .ok (.istore_n 1, 1) := by decide +kernel
theorem dX12_nextToken_56 : decode cX12_nextToken 56 = .ok (.iload_n 1, 1) := by decide +kernel
theorem dX12_nextToken_57 : decode cX12_nextToken 57 = .ok (.ifCond .ge 11, 3) := by decide +kernel
theorem dX12_nextToken_60 : decode cX12_nextToken 60 = .ok (.aload_n 0, 1) := by decide +kernel
theorem dX12_nextToken_61 : decode cX12_nextToken 61 = .ok (.iconst 0, 1) := by decide +kernel
theorem dX12_nextToken_62 : decode cX12_nextToken 62 = .ok (.putfield 151, 3) := by decide +kernel
theorem dX12_nextToken_65 : decode cX12_nextToken 65 = .ok (.goto 331, 3) := by decide +kernel
theorem dX12_nextToken_68 : decode cX12_nextToken 68 = .ok (.iload_n 1, 1) := by decide +kernel
theorem dX12_nextToken_69 : decode cX12_nextToken 69 = .ok (.invokestatic 154, 3) := by decide +kernel
theorem dX12_nextToken_72 : decode cX12_nextToken 72 = .ok (.ifCond .eq 72, 3) := by decide +kernel
theorem dX12_nextToken_75 : decode cX12_nextToken 75 = .ok (.aload_n 0, 1) := by decide +kernel
theorem dX12_nextToken_76 : decode cX12_nextToken 76 = .ok (.iconst 1, 1) := by decide +kernel
theorem dX12_nextToken_77 : decode cX12_nextToken 77 = .ok (.putfield 151, 3) := by decide +kernel
theorem dX12_nextToken_80 : decode cX12_nextToken 80 = .ok (.aload_n 0, 1) := by decide +kernel
theorem dX12_nextToken_81 : decode cX12_nextToken 81 = .ok (.iconst 0, 1) := by decide +kernel
theorem dX12_nextToken_82 : decode cX12_nextToken 82 = .ok (.putfield 157, 3) := by decide +kernel
theorem dX12_nextToken_85 : decode cX12_nextToken 85 = .ok (.aload_n 0, 1) := by decide +kernel
theorem dX12_nextToken_86 : decode cX12_nextToken 86 = .ok (.aload_n 0, 1) := by decide +kernel
theorem dX12_nextToken_87 : decode cX12_nextToken 87 = .ok (.getfield 142, 3) := by decide +kernel
theorem dX12_nextToken_90 : decode cX12_nextToken 90 = .ok (.invokevirtual 145, 3) := by decide +kernel
theorem dX12_nextToken_93 : decode cX12_nextToken 93 = .ok (.invokestatic 154, 3) := by decide +kernel
theorem dX12_nextToken_96 : decode cX12_nextToken 96 = .ok (.ifCond .eq 300, 3) := by decide +kernel
theorem dX12_nextToken_99 : decode cX12_nextToken 99 = .ok (.aload_n 0, 1) := by decide +kernel
theorem dX12_nextToken_100 : decode cX12_nextToken 100 = .ok (.getfield 157, 3) := by decide +kernel
theorem dX12_nextToken_103 : decode cX12_nextToken 103 = .ok (.ldc 160, 2) := by decide +kernel
theorem dX12_nextToken_105 : decode cX12_nextToken 105 = .ok (.if_icmp .ge 26, 3) := by decide +kernel
theorem dX12_nextToken_108 : decode cX12_nextToken 108 = .ok (.aload_n 0, 1) := by decide +kernel
theorem dX12_nextToken_109 : decode cX12_nextToken 109 = .ok (.bipush 10, 2) := by decide +kernel
theorem dX12_nextToken_111 : decode cX12_nextToken 111 = .ok (.aload_n 0, 1) := by decide +kernel
theorem dX12_nextToken_112 : decode cX12_nextToken 112 = .ok (.getfield 157, 3) := by decide +kernel
theorem dX12_nextToken_115 : decode cX12_nextToken 115 = .ok (.imul, 1) := by decide +kernel
theorem dX12_nextToken_116 : decode cX12_nextToken 116 = .ok (.aload_n 0, 1) := by decide +kernel
theorem dX12_nextToken_117 : decode cX12_nextToken 117 = .ok (.aload_n 0, 1) := by decide +kernel
theorem dX12_nextToken_118 : decode cX12_nextToken 118 = .ok (.getfield 142, 3) := by decide +kernel
theorem dX12_nextToken_121 : decode cX12_nextToken 121 = .ok (.invokevirtual 145, 3) := by decide +kernel
theorem dX12_nextToken_124 : decode cX12_nextToken 124 = .ok (.iadd, 1) := by decide +kernel
theorem dX12_nextToken_125 : decode cX12_nextToken 125 = .ok (.bipush 48, 2) := by decide +kernel
theorem dX12_nextToken_127 : decode cX12_nextToken 127 = .ok (.isub, 1) := by decide +kernel
theorem dX12_nextToken_128 : decode cX12_nextToken 128 = .ok (.putfield 157, 3) := by decide +kernel
theorem dX12_nextToken_131 : decode cX12_nextToken 131 = .ok (.aload_n 0, 1) := by decide +kernel
theorem dX12_nextToken_132 : decode cX12_nextToken 132 = .ok (.dup, 1) := by decide +kernel
theorem dX12_nextToken_133 : decode cX12_nextToken 133 = .ok (.getfield 142, 3) := by decide +kernel
theorem dX12_nextToken_136 : decode cX12_nextToken 136 = .ok (.iconst 1, 1) := by decide +kernel
theorem dX12_nextToken_137 : decode cX12_nextToken 137 = .ok (.iadd, 1) := by decide +kernel
theorem dX12_nextToken_138 : decode cX12_nextToken 138 = .ok (.putfield 142, 3) := by decide +kernel
theorem dX12_nextToken_141 : decode cX12_nextToken 141 = .ok (.goto (-56), 3) := by decide +kernel
theorem dX12_nextToken_144 : decode cX12_nextToken 144 = .ok (.iload_n 1, 1) := by decide +kernel
theorem dX12_nextToken_145 : decode cX12_nextToken 145 = .ok (.invokestatic 161, 3) := by decide +kernel
theorem dX12_nextToken_148 : decode cX12_nextToken 148 = .ok (.ifCond .eq 97, 3) := by decide +kernel
theorem dX12_nextToken_151 : decode cX12_nextToken 151 = .ok (.aload_n 0, 1) := by decide +kernel
theorem dX12_nextToken_152 : decode cX12_nextToken 152 = .ok (.iconst 2, 1) := by decide +kernel
