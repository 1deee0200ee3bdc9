theorem dX4_refuse_24 : decode cX4_refuse 24 = .ok (.ireturn, 1) := by decide +kernel
theorem dX4_emit_0 : decode cX4_emit 0 = .ok (.aload_n 0, 1) := by decide +kernel
theorem dX4_emit_1 : decode cX4_emit 1 = .ok (.getfield 26, 3) := by decide +kernel
theorem dX4_emit_4 : decode cX4_emit 4 = .ok (.aload_n 0, 1) := by decide +kernel
theorem dX4_emit_5 : decode cX4_emit 5 = .ok (.getfield 18, 3) := by decide +kernel
theorem dX4_emit_8 : decode cX4_emit 8 = .ok (.arraylength, 1) := by decide +kernel
theorem dX4_emit_9 : decode cX4_emit 9 = .ok (.if_icmp .ge 27, 3) := by decide +kernel
theorem dX4_emit_12 : decode cX4_emit 12 = .ok (.aload_n 0, 1) := by decide +kernel
theorem dX4_emit_13 : decode cX4_emit 13 = .ok (.getfield 18, 3) := by decide +kernel
theorem dX4_emit_16 : decode cX4_emit 16 = .ok (.aload_n 0, 1) := by decide +kernel
theorem dX4_emit_17 : decode cX4_emit 17 = .ok (.getfield 26, 3) := by decide +kernel
theorem dX4_emit_20 : decode cX4_emit 20 = .ok (.iload_n 2, 1) := by decide +kernel
theorem dX4_emit_21 : decode cX4_emit 21 = .ok (.iconst 5, 1) := by decide +kernel
theorem dX4_emit_22 : decode cX4_emit 22 = .ok (.ishl, 1) := by decide +kernel
theorem dX4_emit_23 : decode cX4_emit 23 = .ok (.iload_n 1, 1) := by decide +kernel
theorem dX4_emit_24 : decode cX4_emit 24 = .ok (.iadd, 1) := by decide +kernel
theorem dX4_emit_25 : decode cX4_emit 25 = .ok (.iastore, 1) := by decide +kernel
theorem dX4_emit_26 : decode cX4_emit 26 = .ok (.aload_n 0, 1) := by decide +kernel
theorem dX4_emit_27 : decode cX4_emit 27 = .ok (.dup, 1) := by decide +kernel
theorem dX4_emit_28 : decode cX4_emit 28 = .ok (.getfield 26, 3) := by decide +kernel
theorem dX4_emit_31 : decode cX4_emit 31 = .ok (.iconst 1, 1) := by decide +kernel
theorem dX4_emit_32 : decode cX4_emit 32 = .ok (.iadd, 1) := by decide +kernel
theorem dX4_emit_33 : decode cX4_emit 33 = .ok (.putfield 26, 3) := by decide +kernel
theorem dX4_emit_36 : decode cX4_emit 36 = .ok (.return_, 1) := by decide +kernel
theorem dX4_isAndOr_0 : decode cX4_isAndOr 0 = .ok (.iload_n 0, 1) := by decide +kernel
theorem dX4_isAndOr_1 : decode cX4_isAndOr 1 = .ok (.ldc 97, 2) := by decide +kernel
theorem dX4_isAndOr_3 : decode cX4_isAndOr 3 = .ok (.if_icmp .eq 10, 3) := by decide +kernel
theorem dX4_isAndOr_6 : decode cX4_isAndOr 6 = .ok (.iload_n 0, 1) := by decide +kernel
theorem dX4_isAndOr_7 : decode cX4_isAndOr 7 = .ok (.sipush 28530, 3) := by decide +kernel
theorem dX4_isAndOr_10 : decode cX4_isAndOr 10 = .ok (.if_icmp .ne 7, 3) := by decide +kernel
theorem dX4_isAndOr_13 : decode cX4_isAndOr 13 = .ok (.iconst 1, 1) := by decide +kernel
theorem dX4_isAndOr_14 : decode cX4_isAndOr 14 = .ok (.goto 4, 3) := by decide +kernel
theorem dX4_isAndOr_17 : decode cX4_isAndOr 17 = .ok (.iconst 0, 1) := by decide +kernel
theorem dX4_isAndOr_18 : decode cX4_isAndOr 18 = .ok (.ireturn, 1) := by decide +kernel
theorem dX4_clauseOperation_0 : decode cX4_clauseOperation 0 = .ok (.iload_n 0, 1) := by decide +kernel
theorem dX4_clauseOperation_1 : decode cX4_clauseOperation 1 = .ok (.lookupswitch 55 #[(26479, 49), (7103860, 43), (1919251316, 52), (1953854062, 46)], 43) := by decide +kernel
theorem dX4_clauseOperation_44 : decode cX4_clauseOperation 44 = .ok (.bipush 21, 2) := by decide +kernel
theorem dX4_clauseOperation_46 : decode cX4_clauseOperation 46 = .ok (.ireturn, 1) := by decide +kernel
theorem dX4_clauseOperation_47 : decode cX4_clauseOperation 47 = .ok (.bipush 22, 2) := by decide +kernel
theorem dX4_clauseOperation_49 : decode cX4_clauseOperation 49 = .ok (.ireturn, 1) := by decide +kernel
theorem dX4_clauseOperation_50 : decode cX4_clauseOperation 50 = .ok (.bipush 23, 2) := by decide +kernel
theorem dX4_clauseOperation_52 : decode cX4_clauseOperation 52 = .ok (.ireturn, 1) := by decide +kernel
theorem dX4_clauseOperation_53 : decode cX4_clauseOperation 53 = .ok (.bipush 24, 2) := by decide +kernel
theorem dX4_clauseOperation_55 : decode cX4_clauseOperation 55 = .ok (.ireturn, 1) := by decide +kernel
theorem dX4_clauseOperation_56 : decode cX4_clauseOperation 56 = .ok (.iconst (-1), 1) := by decide +kernel
theorem dX4_clauseOperation_57 : decode cX4_clauseOperation 57 = .ok (.ireturn, 1) := by decide +kernel
theorem dX4_compareOperation_0 : decode cX4_compareOperation 0 = .ok (.iload_n 0, 1) := by decide +kernel
theorem dX4_compareOperation_1 : decode cX4_compareOperation 1 = .ok (.lookupswitch 77 #[(-6, 68), (-5, 62), (35, 74), (60, 59), (61, 71), (62, 65)], 59) := by decide +kernel
theorem dX4_compareOperation_60 : decode cX4_compareOperation 60 = .ok (.bipush 13, 2) := by decide +kernel
theorem dX4_compareOperation_62 : decode cX4_compareOperation 62 = .ok (.ireturn, 1) := by decide +kernel
theorem dX4_compareOperation_63 : decode cX4_compareOperation 63 = .ok (.bipush 14, 2) := by decide +kernel
theorem dX4_compareOperation_65 : decode cX4_compareOperation 65 = .ok (.ireturn, 1) := by decide +kernel
theorem dX4_compareOperation_66 : decode cX4_compareOperation 66 = .ok (.bipush 15, 2) := by decide +kernel
theorem dX4_compareOperation_68 : decode cX4_compareOperation 68 = .ok (.ireturn, 1) := by decide +kernel
theorem dX4_compareOperation_69 : decode cX4_compareOperation 69 = .ok (.bipush 16, 2) := by decide +kernel
theorem dX4_compareOperation_71 : decode cX4_compareOperation 71 = .ok (.ireturn, 1) := by decide +kernel
theorem dX4_compareOperation_72 : decode cX4_compareOperation 72 = .ok (.bipush 17, 2) := by decide +kernel
theorem dX4_compareOperation_74 : decode cX4_compareOperation 74 = .ok (.ireturn, 1) := by decide +kernel
theorem dX4_compareOperation_75 : decode cX4_compareOperation 75 = .ok (.bipush 18, 2) := by decide +kernel
theorem dX4_compareOperation_77 : decode cX4_compareOperation 77 = .ok (.ireturn, 1) := by decide +kernel
theorem dX4_compareOperation_78 : decode cX4_compareOperation 78 = .ok (.iconst (-1), 1) := by decide +kernel
theorem dX4_compareOperation_79 : decode cX4_compareOperation 79 = .ok (.ireturn, 1) := by decide +kernel
theorem dX4_joinOperation_0 : decode cX4_joinOperation 0 = .ok (.iload_n 0, 1) := by decide +kernel
theorem dX4_joinOperation_1 : decode cX4_joinOperation 1 = .ok (.tableswitch 51 42 47 #[45, 39, 51, 42, 51, 48], 39) := by decide +kernel
theorem dX4_joinOperation_40 : decode cX4_joinOperation 40 = .ok (.bipush 7, 2) := by decide +kernel
theorem dX4_joinOperation_42 : decode cX4_joinOperation 42 = .ok (.ireturn, 1) := by decide +kernel
theorem dX4_joinOperation_43 : decode cX4_joinOperation 43 = .ok (.bipush 8, 2) := by decide +kernel
theorem dX4_joinOperation_45 : decode cX4_joinOperation 45 = .ok (.ireturn, 1) := by decide +kernel
theorem dX4_joinOperation_46 : decode cX4_joinOperation 46 = .ok (.bipush 9, 2) := by decide +kernel
theorem dX4_joinOperation_48 : decode cX4_joinOperation 48 = .ok (.ireturn, 1) := by decide +kernel
theorem dX4_joinOperation_49 : decode cX4_joinOperation 49 = .ok (.bipush 10, 2) := by decide +kernel
theorem dX4_joinOperation_51 : decode cX4_joinOperation 51 = .ok (.ireturn, 1) := by decide +kernel
theorem dX4_joinOperation_52 : decode cX4_joinOperation 52 = .ok (.iconst (-1), 1) := by decide +kernel
theorem dX4_joinOperation_53 : decode cX4_joinOperation 53 = .ok (.ireturn, 1) := by decide +kernel
theorem dX5_init_0 : decode cX5_init 0 = .ok (.aload_n 0, 1) := by decide +kernel
theorem dX5_init_1 : decode cX5_init 1 = .ok (.invokespecial 3, 3) := by decide +kernel
theorem dX5_init_4 : decode cX5_init 4 = .ok (.aload_n 0, 1) := by decide +kernel
theorem dX5_init_5 : decode cX5_init 5 = .ok (.bipush 6, 2) := by decide +kernel
theorem dX5_init_7 : decode cX5_init 7 = .ok (.newarray .int, 2) := by decide +kernel
theorem dX5_init_9 : decode cX5_init 9 = .ok (.putfield 9, 3) := by decide +kernel
theorem dX5_init_12 : decode cX5_init 12 = .ok (.aload_n 0, 1) := by decide +kernel
theorem dX5_init_13 : decode cX5_init 13 = .ok (.bipush 6, 2) := by decide +kernel
theorem dX5_init_15 : decode cX5_init 15 = .ok (.newarray .int, 2) := by decide +kernel
theorem dX5_init_17 : decode cX5_init 17 = .ok (.putfield 15, 3) := by decide +kernel
theorem dX5_init_20 : decode cX5_init 20 = .ok (.aload_n 0, 1) := by decide +kernel
theorem dX5_init_21 : decode cX5_init 21 = .ok (.bipush 6, 2) := by decide +kernel
theorem dX5_init_23 : decode cX5_init 23 = .ok (.newarray .int, 2) := by decide +kernel
theorem dX5_init_25 : decode cX5_init 25 = .ok (.putfield 18, 3) := by decide +kernel
theorem dX5_init_28 : decode cX5_init 28 = .ok (.aload_n 0, 1) := by decide +kernel
theorem dX5_init_29 : decode cX5_init 29 = .ok (.bipush 6, 2) := by decide +kernel
theorem dX5_init_31 : decode cX5_init 31 = .ok (.newarray .int, 2) := by decide +kernel
theorem dX5_init_33 : decode cX5_init 33 = .ok (.putfield 21, 3) := by decide +kernel
theorem dX5_init_36 : decode cX5_init 36 = .ok (.aload_n 0, 1) := by decide +kernel
theorem dX5_init_37 : decode cX5_init 37 = .ok (.bipush 120, 2) := by decide +kernel
theorem dX5_init_39 : decode cX5_init 39 = .ok (.newarray .int, 2) := by decide +kernel
theorem dX5_init_41 : decode cX5_init 41 = .ok (.putfield 24, 3) := by decide +kernel
theorem dX5_init_44 : decode cX5_init 44 = .ok (.return_, 1) := by decide +kernel
theorem dX5_copyFrom_0 : decode cX5_copyFrom 0 = .ok (.aload_n 1, 1) := by decide +kernel
theorem dX5_copyFrom_1 : decode cX5_copyFrom 1 = .ok (.getfield 9, 3) := by decide +kernel
theorem dX5_copyFrom_4 : decode cX5_copyFrom 4 = .ok (.aload_n 0, 1) := by decide +kernel
theorem dX5_copyFrom_5 : decode cX5_copyFrom 5 = .ok (.getfield 9, 3) := by decide +kernel
theorem dX5_copyFrom_8 : decode cX5_copyFrom 8 = .ok (.invokestatic 27, 3) := by decide +kernel
theorem dX5_copyFrom_11 : decode cX5_copyFrom 11 = .ok (.aload_n 1, 1) := by decide +kernel
theorem dX5_copyFrom_12 : decode cX5_copyFrom 12 = .ok (.getfield 15, 3) := by decide +kernel
theorem dX5_copyFrom_15 : decode cX5_copyFrom 15 = .ok (.aload_n 0, 1) := by decide +kernel
theorem dX5_copyFrom_16 : decode cX5_copyFrom 16 = .ok (.getfield 15, 3) := by decide +kernel
theorem dX5_copyFrom_19 : decode cX5_copyFrom 19 = .ok (.invokestatic 27, 3) := by decide +kernel
theorem dX5_copyFrom_22 : decode cX5_copyFrom 22 = .ok (.aload_n 1, 1) := by decide +kernel
theorem dX5_copyFrom_23 : decode cX5_copyFrom 23 = .ok (.getfield 18, 3) := by decide +kernel
theorem dX5_copyFrom_26 : decode cX5_copyFrom 26 = .ok (.aload_n 0, 1) := by decide +kernel
theorem dX5_copyFrom_27 : decode cX5_copyFrom 27 = .ok (.getfield 18, 3) := by decide +kernel
theorem dX5_copyFrom_30 : decode cX5_copyFrom 30 = .ok (.invokestatic 27, 3) := by decide +kernel
theorem dX5_copyFrom_33 : decode cX5_copyFrom 33 = .ok (.aload_n 1, 1) := by decide +kernel
theorem dX5_copyFrom_34 : decode cX5_copyFrom 34 = .ok (.getfield 21, 3) := by decide +kernel
theorem dX5_copyFrom_37 : decode cX5_copyFrom 37 = .ok (.aload_n 0, 1) := by decide +kernel
theorem dX5_copyFrom_38 : decode cX5_copyFrom 38 = .ok (.getfield 21, 3) := by decide +kernel
theorem dX5_copyFrom_41 : decode cX5_copyFrom 41 = .ok (.invokestatic 27, 3) := by decide +kernel
theorem dX5_copyFrom_44 : decode cX5_copyFrom 44 = .ok (.aload_n 1, 1) := by decide +kernel
theorem dX5_copyFrom_45 : decode cX5_copyFrom 45 = .ok (.getfield 24, 3) := by decide +kernel
theorem dX5_copyFrom_48 : decode cX5_copyFrom 48 = .ok (.aload_n 0, 1) := by decide +kernel
theorem dX5_copyFrom_49 : decode cX5_copyFrom 49 = .ok (.getfield 24, 3) := by decide +kernel
theorem dX5_copyFrom_52 : decode cX5_copyFrom 52 = .ok (.invokestatic 27, 3) := by decide +kernel
theorem dX5_copyFrom_55 : decode cX5_copyFrom 55 = .ok (.aload_n 0, 1) := by decide +kernel
theorem dX5_copyFrom_56 : decode cX5_copyFrom 56 = .ok (.aload_n 1, 1) := by decide +kernel
theorem dX5_copyFrom_57 : decode cX5_copyFrom 57 = .ok (.getfield 31, 3) := by decide +kernel
theorem dX5_copyFrom_60 : decode cX5_copyFrom 60 = .ok (.putfield 31, 3) := by decide +kernel
theorem dX5_copyFrom_63 : decode cX5_copyFrom 63 = .ok (.return_, 1) := by decide +kernel
theorem dX6_init_0 : decode cX6_init 0 = .ok (.aload_n 0, 1) := by decide +kernel
theorem dX6_init_1 : decode cX6_init 1 = .ok (.invokespecial 3, 3) := by decide +kernel
theorem dX6_init_4 : decode cX6_init 4 = .ok (.aload_n 0, 1) := by decide +kernel
theorem dX6_init_5 : decode cX6_init 5 = .ok (.aload_n 1, 1) := by decide +kernel
theorem dX6_init_6 : decode cX6_init 6 = .ok (.putfield 9, 3) := by decide +kernel
theorem dX6_init_9 : decode cX6_init 9 = .ok (.aload_n 0, 1) := by decide +kernel
theorem dX6_init_10 : decode cX6_init 10 = .ok (.bipush 64, 2) := by decide +kernel
theorem dX6_init_12 : decode cX6_init 12 = .ok (.newarray .int, 2) := by decide +kernel
theorem dX6_init_14 : decode cX6_init 14 = .ok (.putfield 15, 3) := by decide +kernel
theorem dX6_init_17 : decode cX6_init 17 = .ok (.aload_n 0, 1) := by decide +kernel
theorem dX6_init_18 : decode cX6_init 18 = .ok (.bipush 8, 2) := by decide +kernel
theorem dX6_init_20 : decode cX6_init 20 = .ok (.newarray .int, 2) := by decide +kernel
theorem dX6_init_22 : decode cX6_init 22 = .ok (.putfield 19, 3) := by decide +kernel
theorem dX6_init_25 : decode cX6_init 25 = .ok (.aload_n 0, 1) := by decide +kernel
theorem dX6_init_26 : decode cX6_init 26 = .ok (.ldc 22, 2) := by decide +kernel
theorem dX6_init_28 : decode cX6_init 28 = .ok (.putfield 23, 3) := by decide +kernel
theorem dX6_init_31 : decode cX6_init 31 = .ok (.return_, 1) := by decide +kernel
theorem dX6_run_0 : decode cX6_run 0 = .ok (.aload_n 0, 1) := by decide +kernel
theorem dX6_run_1 : decode cX6_run 1 = .ok (.iconst 0, 1) := by decide +kernel
theorem dX6_run_2 : decode cX6_run 2 = .ok (.putfield 27, 3) := by decide +kernel
theorem dX6_run_5 : decode cX6_run 5 = .ok (.aload_n 0, 1) := by decide +kernel
theorem dX6_run_6 : decode cX6_run 6 = .ok (.iconst 0, 1) := by decide +kernel
theorem dX6_run_7 : decode cX6_run 7 = .ok (.putfield 30, 3) := by decide +kernel
theorem dX6_run_10 : decode cX6_run 10 = .ok (.aload_n 0, 1) := by decide +kernel
theorem dX6_run_11 : decode cX6_run 11 = .ok (.iconst 0, 1) := by decide +kernel
theorem dX6_run_12 : decode cX6_run 12 = .ok (.putfield 33, 3) := by decide +kernel
theorem dX6_run_15 : decode cX6_run 15 = .ok (.aload_n 0, 1) := by decide +kernel
theorem dX6_run_16 : decode cX6_run 16 = .ok (.iconst 0, 1) := by decide +kernel
theorem dX6_run_17 : decode cX6_run 17 = .ok (.putfield 36, 3) := by decide +kernel
theorem dX6_run_20 : decode cX6_run 20 = .ok (.aload_n 0, 1) := by decide +kernel
theorem dX6_run_21 : decode cX6_run 21 = .ok (.iconst 0, 1) := by decide +kernel
theorem dX6_run_22 : decode cX6_run 22 = .ok (.putfield 39, 3) := by decide +kernel
theorem dX6_run_25 : decode cX6_run 25 = .ok (.iconst 0, 1) := by decide +kernel
theorem dX6_run_26 : decode cX6_run 26 = .ok (.istore_n 3, 1) := by decide +kernel
theorem dX6_run_27 : decode cX6_run 27 = .ok (.iload_n 3, 1) := by decide +kernel
theorem dX6_run_28 : decode cX6_run 28 = .ok (.aload_n 1, 1) := by decide +kernel
theorem dX6_run_29 : decode cX6_run 29 = .ok (.arraylength, 1) := by decide +kernel
theorem dX6_run_30 : decode cX6_run 30 = .ok (.if_icmp .ge 128, 3) := by decide +kernel
theorem dX6_run_33 : decode cX6_run 33 = .ok (.aload_n 1, 1) := by decide +kernel
theorem dX6_run_34 : decode cX6_run 34 = .ok (.iload_n 3, 1) := by decide +kernel
theorem dX6_run_35 : decode cX6_run 35 = .ok (.iaload, 1) := by decide +kernel
theorem dX6_run_36 : decode cX6_run 36 = .ok (.bipush 31, 2) := by decide +kernel
theorem dX6_run_38 : decode cX6_run 38 = .ok (.iand, 1) := by decide +kernel
theorem dX6_run_39 : decode cX6_run 39 = .ok (.istore 4, 2) := by decide +kernel
theorem dX6_run_41 : decode cX6_run 41 = .ok (.aload_n 1, 1) := by decide +kernel
theorem dX6_run_42 : decode cX6_run 42 = .ok (.iload_n 3, 1) := by decide +kernel
theorem dX6_run_43 : decode cX6_run 43 = .ok (.iaload, 1) := by decide +kernel
theorem dX6_run_44 : decode cX6_run 44 = .ok (.iconst 5, 1) := by decide +kernel
theorem dX6_run_45 : decode cX6_run 45 = .ok (.ishr, 1) := by decide +kernel
theorem dX6_run_46 : decode cX6_run 46 = .ok (.istore 5, 2) := by decide +kernel
theorem dX6_run_48 : decode cX6_run 48 = .ok (.iload 4, 2) := by decide +kernel
theorem dX6_run_50 : decode cX6_run 50 = .ok (.iconst 4, 1) := by decide +kernel
theorem dX6_run_51 : decode cX6_run 51 = .ok (.if_icmp .gt 20, 3) := by decide +kernel
theorem dX6_run_54 : decode cX6_run 54 = .ok (.aload_n 0, 1) := by decide +kernel
theorem dX6_run_55 : decode cX6_run 55 = .ok (.aload_n 0, 1) := by decide +kernel
theorem dX6_run_56 : decode cX6_run 56 = .ok (.iload 4, 2) := by decide +kernel
theorem dX6_run_58 : decode cX6_run 58 = .ok (.iload 5, 2) := by decide +kernel
theorem dX6_run_60 : decode cX6_run 60 = .ok (.aload_n 2, 1) := by decide +kernel
theorem dX6_run_61 : decode cX6_run 61 = .ok (.invokevirtual 45, 3) := by decide +kernel
theorem dX6_run_64 : decode cX6_run 64 = .ok (.i2l, 1) := by decide +kernel
theorem dX6_run_65 : decode cX6_run 65 = .ok (.invokevirtual 49, 3) := by decide +kernel
theorem dX6_run_68 : decode cX6_run 68 = .ok (.goto 84, 3) := by decide +kernel
theorem dX6_run_71 : decode cX6_run 71 = .ok (.iload 4, 2) := by decide +kernel
theorem dX6_run_73 : decode cX6_run 73 = .ok (.bipush 6, 2) := by decide +kernel
theorem dX6_run_75 : decode cX6_run 75 = .ok (.if_icmp .gt 34, 3) := by decide +kernel
theorem dX6_run_78 : decode cX6_run 78 = .ok (.aload_n 0, 1) := by decide +kernel
theorem dX6_run_79 : decode cX6_run 79 = .ok (.invokevirtual 53, 3) := by decide +kernel
theorem dX6_run_82 : decode cX6_run 82 = .ok (.istore 6, 2) := by decide +kernel
theorem dX6_run_84 : decode cX6_run 84 = .ok (.aload_n 0, 1) := by decide +kernel
theorem dX6_run_85 : decode cX6_run 85 = .ok (.iload 4, 2) := by decide +kernel
theorem dX6_run_87 : decode cX6_run 87 = .ok (.iconst 5, 1) := by decide +kernel
theorem dX6_run_88 : decode cX6_run 88 = .ok (.if_icmp .ne 10, 3) := by decide +kernel
theorem dX6_run_91 : decode cX6_run 91 = .ok (.iload 6, 2) := by decide +kernel
theorem dX6_run_93 : decode cX6_run 93 = .ok (.i2l, 1) := by decide +kernel
theorem dX6_run_94 : decode cX6_run 94 = .ok (.lneg, 1) := by decide +kernel
theorem dX6_run_95 : decode cX6_run 95 = .ok (.goto 8, 3) := by decide +kernel
theorem dX6_run_98 : decode cX6_run 98 = .ok (.iconst 1, 1) := by decide +kernel
theorem dX6_run_99 : decode cX6_run 99 = .ok (.iload 6, 2) := by decide +kernel
theorem dX6_run_101 : decode cX6_run 101 = .ok (.isub, 1) := by decide +kernel
theorem dX6_run_102 : decode cX6_run 102 = .ok (.i2l, 1) := by decide +kernel
theorem dX6_run_103 : decode cX6_run 103 = .ok (.invokevirtual 49, 3) := by decide +kernel
theorem dX6_run_106 : decode cX6_run 106 = .ok (.goto 46, 3) := by decide +kernel
theorem dX6_run_109 : decode cX6_run 109 = .ok (.iload 4, 2) := by decide +kernel
theorem dX6_run_111 : decode cX6_run 111 = .ok (.bipush 20, 2) := by decide +kernel
theorem dX6_run_113 : decode cX6_run 113 = .ok (.if_icmp .gt 27, 3) := by decide +kernel
theorem dX6_run_116 : decode cX6_run 116 = .ok (.aload_n 0, 1) := by decide +kernel
theorem dX6_run_117 : decode cX6_run 117 = .ok (.invokevirtual 53, 3) := by decide +kernel
theorem dX6_run_120 : decode cX6_run 120 = .ok (.istore 6, 2) := by decide +kernel
theorem dX6_run_122 : decode cX6_run 122 = .ok (.aload_n 0, 1) := by decide +kernel
theorem dX6_run_123 : decode cX6_run 123 = .ok (.iload 4, 2) := by decide +kernel
theorem dX6_run_125 : decode cX6_run 125 = .ok (.aload_n 0, 1) := by decide +kernel
theorem dX6_run_126 : decode cX6_run 126 = .ok (.invokevirtual 53, 3) := by decide +kernel
theorem dX6_run_129 : decode cX6_run 129 = .ok (.iload 6, 2) := by decide +kernel
theorem dX6_run_131 : decode cX6_run 131 = .ok (.invokestatic 57, 3) := by decide +kernel
theorem dX6_run_134 : decode cX6_run 134 = .ok (.invokevirtual 49, 3) := by decide +kernel
theorem dX6_run_137 : decode cX6_run 137 = .ok (.goto 15, 3) := by decide +kernel
theorem dX6_run_140 : decode cX6_run 140 = .ok (.aload_n 0, 1) := by decide +kernel
theorem dX6_run_141 : decode cX6_run 141 = .ok (.iload 4, 2) := by decide +kernel
theorem dX6_run_143 : decode cX6_run 143 = .ok (.iload 5, 2) := by decide +kernel
theorem dX6_run_145 : decode cX6_run 145 = .ok (.aload_n 0, 1) := by decide +kernel
theorem dX6_run_146 : decode cX6_run 146 = .ok (.invokevirtual 53, 3) := by decide +kernel
theorem dX6_run_149 : decode cX6_run 149 = .ok (.invokevirtual 61, 3) := by decide +kernel
theorem dX6_run_152 : decode cX6_run 152 = .ok (.iinc 3 1, 3) := by decide +kernel
theorem dX6_run_155 : decode cX6_run 155 = .ok (.goto (-128), 3) := by decide +kernel
theorem dX6_run_158 : decode cX6_run 158 = .ok (.return_, 1) := by decide +kernel
theorem dX6_push_0 : decode cX6_push 0 = .ok (.aload_n 0, 1) := by decide +kernel
theorem dX6_push_1 : decode cX6_push 1 = .ok (.getfield 27, 3) := by decide +kernel
theorem dX6_push_4 : decode cX6_push 4 = .ok (.aload_n 0, 1) := by decide +kernel
theorem dX6_push_5 : decode cX6_push 5 = .ok (.getfield 15, 3) := by decide +kernel
theorem dX6_push_8 : decode cX6_push 8 = .ok (.arraylength, 1) := by decide +kernel
theorem dX6_push_9 : decode cX6_push 9 = .ok (.if_icmp .ge 27, 3) := by decide +kernel
theorem dX6_push_12 : decode cX6_push 12 = .ok (.aload_n 0, 1) := by decide +kernel
theorem dX6_push_13 : decode cX6_push 13 = .ok (.getfield 15, 3) := by decide +kernel
theorem dX6_push_16 : decode cX6_push 16 = .ok (.aload_n 0, 1) := by decide +kernel
theorem dX6_push_17 : decode cX6_push 17 = .ok (.getfield 27, 3) := by decide +kernel
theorem dX6_push_20 : decode cX6_push 20 = .ok (.aload_n 0, 1) := by decide +kernel
theorem dX6_push_21 : decode cX6_push 21 = .ok (.lload_n 1, 1) := by decide +kernel
theorem dX6_push_22 : decode cX6_push 22 = .ok (.invokevirtual 65, 3) := by decide +kernel
theorem dX6_push_25 : decode cX6_push 25 = .ok (.iastore, 1) := by decide +kernel
theorem dX6_push_26 : decode cX6_push 26 = .ok (.aload_n 0, 1) := by decide +kernel
theorem dX6_push_27 : decode cX6_push 27 = .ok (.dup, 1) := by decide +kernel
theorem dX6_push_28 : decode cX6_push 28 = .ok (.getfield 27, 3) := by decide +kernel
theorem dX6_push_31 : decode cX6_push 31 = .ok (.iconst 1, 1) := by decide +kernel
theorem dX6_push_32 : decode cX6_push 32 = .ok (.iadd, 1) := by decide +kernel
theorem dX6_push_33 : decode cX6_push 33 = .ok (.putfield 27, 3) := by decide +kernel
theorem dX6_push_36 : decode cX6_push 36 = .ok (.return_, 1) := by decide +kernel
theorem dX6_bounded_0 : decode cX6_bounded 0 = .ok (.lload_n 1, 1) := by decide +kernel
theorem dX6_bounded_1 : decode cX6_bounded 1 = .ok (.aload_n 0, 1) := by decide +kernel
theorem dX6_bounded_2 : decode cX6_bounded 2 = .ok (.getfield 23, 3) := by decide +kernel
theorem dX6_bounded_5 : decode cX6_bounded 5 = .ok (.i2l, 1) := by decide +kernel
theorem dX6_bounded_6 : decode cX6_bounded 6 = .ok (.lcmp, 1) := by decide +kernel
theorem dX6_bounded_7 : decode cX6_bounded 7 = .ok (.ifCond .le 18, 3) := by decide +kernel
theorem dX6_bounded_10 : decode cX6_bounded 10 = .ok (.aload_n 0, 1) := by decide +kernel
theorem dX6_bounded_11 : decode cX6_bounded 11 = .ok (.dup, 1) := by decide +kernel
theorem dX6_bounded_12 : decode cX6_bounded 12 = .ok (.getfield 30, 3) := by decide +kernel
theorem dX6_bounded_15 : decode cX6_bounded 15 = .ok (.iconst 1, 1) := by decide +kernel
theorem dX6_bounded_16 : decode cX6_bounded 16 = .ok (.iadd, 1) := by decide +kernel
theorem dX6_bounded_17 : decode cX6_bounded 17 = .ok (.putfield 30, 3) := by decide +kernel
theorem dX6_bounded_20 : decode cX6_bounded 20 = .ok (.aload_n 0, 1) := by decide +kernel
theorem dX6_bounded_21 : decode cX6_bounded 21 = .ok (.getfield 23, 3) := by decide +kernel
theorem dX6_bounded_24 : decode cX6_bounded 24 = .ok (.ireturn, 1) := by decide +kernel
theorem dX6_bounded_25 : decode cX6_bounded 25 = .ok (.lload_n 1, 1) := by decide +kernel
theorem dX6_bounded_26 : decode cX6_bounded 26 = .ok (.aload_n 0, 1) := by decide +kernel
theorem dX6_bounded_27 : decode cX6_bounded 27 = .ok (.getfield 23, 3) := by decide +kernel
theorem dX6_bounded_30 : decode cX6_bounded 30 = .ok (.ineg, 1) := by decide +kernel
theorem dX6_bounded_31 : decode cX6_bounded 31 = .ok (.i2l, 1) := by decide +kernel
theorem dX6_bounded_32 : decode cX6_bounded 32 = .ok (.lcmp, 1) := by decide +kernel
theorem dX6_bounded_33 : decode cX6_bounded 33 = .ok (.ifCond .ge 19, 3) := by decide +kernel
theorem dX6_bounded_36 : decode cX6_bounded 36 = .ok (.aload_n 0, 1) := by decide +kernel
theorem dX6_bounded_37 : decode cX6_bounded 37 = .ok (.dup, 1) := by decide +kernel
theorem dX6_bounded_38 : decode cX6_bounded 38 = .ok (.getfield 30, 3) := by decide +kernel
theorem dX6_bounded_41 : decode cX6_bounded 41 = .ok (.iconst 1, 1) := by decide +kernel
theorem dX6_bounded_42 : decode cX6_bounded 42 = .ok (.iadd, 1) := by decide +kernel
theorem dX6_bounded_43 : decode cX6_bounded 43 = .ok (.putfield 30, 3) := by decide +kernel
theorem dX6_bounded_46 : decode cX6_bounded 46 = .ok (.aload_n 0, 1) := by decide +kernel
theorem dX6_bounded_47 : decode cX6_bounded 47 = .ok (.getfield 23, 3) := by decide +kernel
theorem dX6_bounded_50 : decode cX6_bounded 50 = .ok (.ineg, 1) := by decide +kernel
theorem dX6_bounded_51 : decode cX6_bounded 51 = .ok (.ireturn, 1) := by decide +kernel
theorem dX6_bounded_52 : decode cX6_bounded 52 = .ok (.lload_n 1, 1) := by decide +kernel
theorem dX6_bounded_53 : decode cX6_bounded 53 = .ok (.l2i, 1) := by decide +kernel
theorem dX6_bounded_54 : decode cX6_bounded 54 = .ok (.ireturn, 1) := by decide +kernel
theorem dX6_pop_0 : decode cX6_pop 0 = .ok (.aload_n 0, 1) := by decide +kernel
theorem dX6_pop_1 : decode cX6_pop 1 = .ok (.getfield 27, 3) := by decide +kernel
theorem dX6_pop_4 : decode cX6_pop 4 = .ok (.ifCond .gt 5, 3) := by decide +kernel
theorem dX6_pop_7 : decode cX6_pop 7 = .ok (.iconst 0, 1) := by decide +kernel
theorem dX6_pop_8 : decode cX6_pop 8 = .ok (.ireturn, 1) := by decide +kernel
theorem dX6_pop_9 : decode cX6_pop 9 = .ok (.aload_n 0, 1) := by decide +kernel
theorem dX6_pop_10 : decode cX6_pop 10 = .ok (.dup, 1) := by decide +kernel
theorem dX6_pop_11 : decode cX6_pop 11 = .ok (.getfield 27, 3) := by decide +kernel
theorem dX6_pop_14 : decode cX6_pop 14 = .ok (.iconst 1, 1) := by decide +kernel
theorem dX6_pop_15 : decode cX6_pop 15 = .ok (.isub, 1) := by decide +kernel
theorem dX6_pop_16 : decode cX6_pop 16 = .ok (.putfield 27, 3) := by decide +kernel
theorem dX6_pop_19 : decode cX6_pop 19 = .ok (.aload_n 0, 1) := by decide +kernel
theorem dX6_pop_20 : decode cX6_pop 20 = .ok (.getfield 15, 3) := by decide +kernel
theorem dX6_pop_23 : decode cX6_pop 23 = .ok (.aload_n 0, 1) := by decide +kernel
theorem dX6_pop_24 : decode cX6_pop 24 = .ok (.getfield 27, 3) := by decide +kernel
theorem dX6_pop_27 : decode cX6_pop 27 = .ok (.iaload, 1) := by decide +kernel
theorem dX6_pop_28 : decode cX6_pop 28 = .ok (.ireturn, 1) := by decide +kernel
theorem dX6_brought_0 : decode cX6_brought 0 = .ok (.iload_n 1, 1) := by decide +kernel
theorem dX6_brought_1 : decode cX6_brought 1 = .ok (.tableswitch 78 0 3 #[31, 33, 54, 64], 31) := by decide +kernel
theorem dX6_brought_32 : decode cX6_brought 32 = .ok (.iload_n 2, 1) := by decide +kernel
theorem dX6_brought_33 : decode cX6_brought 33 = .ok (.ireturn, 1) := by decide +kernel
theorem dX6_brought_34 : decode cX6_brought 34 = .ok (.iload_n 2, 1) := by decide +kernel
theorem dX6_brought_35 : decode cX6_brought 35 = .ok (.iconst 0, 1) := by decide +kernel
theorem dX6_brought_36 : decode cX6_brought 36 = .ok (.bipush 7, 2) := by decide +kernel
theorem dX6_brought_38 : decode cX6_brought 38 = .ok (.invokestatic 69, 3) := by decide +kernel
theorem dX6_brought_41 : decode cX6_brought 41 = .ok (.ifCond .eq 12, 3) := by decide +kernel
theorem dX6_brought_44 : decode cX6_brought 44 = .ok (.aload_n 0, 1) := by decide +kernel
theorem dX6_brought_45 : decode cX6_brought 45 = .ok (.getfield 19, 3) := by decide +kernel
theorem dX6_brought_48 : decode cX6_brought 48 = .ok (.iload_n 2, 1) := by decide +kernel
theorem dX6_brought_49 : decode cX6_brought 49 = .ok (.iaload, 1) := by decide +kernel
theorem dX6_brought_50 : decode cX6_brought 50 = .ok (.goto 4, 3) := by decide +kernel
theorem dX6_brought_53 : decode cX6_brought 53 = .ok (.iconst 0, 1) := by decide +kernel
theorem dX6_brought_54 : decode cX6_brought 54 = .ok (.ireturn, 1) := by decide +kernel
theorem dX6_brought_55 : decode cX6_brought 55 = .ok (.aload_n 3, 1) := by decide +kernel
theorem dX6_brought_56 : decode cX6_brought 56 = .ok (.iload_n 2, 1) := by decide +kernel
theorem dX6_brought_57 : decode cX6_brought 57 = .ok (.aload_n 3, 1) := by decide +kernel
theorem dX6_brought_58 : decode cX6_brought 58 = .ok (.getfield 73, 3) := by decide +kernel
theorem dX6_brought_61 : decode cX6_brought 61 = .ok (.invokevirtual 78, 3) := by decide +kernel
theorem dX6_brought_64 : decode cX6_brought 64 = .ok (.ireturn, 1) := by decide +kernel
theorem dX6_brought_65 : decode cX6_brought 65 = .ok (.aload_n 3, 1) := by decide +kernel
theorem dX6_brought_66 : decode cX6_brought 66 = .ok (.aload_n 0, 1) := by decide +kernel
theorem dX6_brought_67 : decode cX6_brought 67 = .ok (.getfield 9, 3) := by decide +kernel
theorem dX6_brought_70 : decode cX6_brought 70 = .ok (.iload_n 2, 1) := by decide +kernel
theorem dX6_brought_71 : decode cX6_brought 71 = .ok (.aload_n 3, 1) := by decide +kernel
theorem dX6_brought_72 : decode cX6_brought 72 = .ok (.getfield 73, 3) := by decide +kernel
theorem dX6_brought_75 : decode cX6_brought 75 = .ok (.invokevirtual 82, 3) := by decide +kernel
theorem dX6_brought_78 : decode cX6_brought 78 = .ok (.ireturn, 1) := by decide +kernel
theorem dX6_brought_79 : decode cX6_brought 79 = .ok (.aload_n 3, 1) := by decide +kernel
theorem dX6_brought_80 : decode cX6_brought 80 = .ok (.getfield 73, 3) := by decide +kernel
theorem dX6_brought_83 : decode cX6_brought 83 = .ok (.ireturn, 1) := by decide +kernel
theorem dX6_joined_0 : decode cX6_joined 0 = .ok (.iload_n 0, 1) := by decide +kernel
theorem dX6_joined_1 : decode cX6_joined 1 = .ok (.tableswitch 84 7 12 #[39, 45, 51, 57, 70, 77], 39) := by decide +kernel
theorem dX6_joined_40 : decode cX6_joined 40 = .ok (.iload_n 1, 1) := by decide +kernel
theorem dX6_joined_41 : decode cX6_joined 41 = .ok (.i2l, 1) := by decide +kernel
theorem dX6_joined_42 : decode cX6_joined 42 = .ok (.iload_n 2, 1) := by decide +kernel
theorem dX6_joined_43 : decode cX6_joined 43 = .ok (.i2l, 1) := by decide +kernel
theorem dX6_joined_44 : decode cX6_joined 44 = .ok (.ladd, 1) := by decide +kernel
theorem dX6_joined_45 : decode cX6_joined 45 = .ok (.lreturn, 1) := by decide +kernel
theorem dX6_joined_46 : decode cX6_joined 46 = .ok (.iload_n 1, 1) := by decide +kernel
theorem dX6_joined_47 : decode cX6_joined 47 = .ok (.i2l, 1) := by decide +kernel
theorem dX6_joined_48 : decode cX6_joined 48 = .ok (.iload_n 2, 1) := by decide +kernel
theorem dX6_joined_49 : decode cX6_joined 49 = .ok (.i2l, 1) := by decide +kernel
theorem dX6_joined_50 : decode cX6_joined 50 = .ok (.lsub, 1) := by decide +kernel
theorem dX6_joined_51 : decode cX6_joined 51 = .ok (.lreturn, 1) := by decide +kernel
theorem dX6_joined_52 : decode cX6_joined 52 = .ok (.iload_n 1, 1) := by decide +kernel
theorem dX6_joined_53 : decode cX6_joined 53 = .ok (.i2l, 1) := by decide +kernel
theorem dX6_joined_54 : decode cX6_joined 54 = .ok (.iload_n 2, 1) := by decide +kernel
theorem dX6_joined_55 : decode cX6_joined 55 = .ok (.i2l, 1) := by decide +kernel
theorem dX6_joined_56 : decode cX6_joined 56 = .ok (.lmul, 1) := by decide +kernel
theorem dX6_joined_57 : decode cX6_joined 57 = .ok (.lreturn, 1) := by decide +kernel
theorem dX6_joined_58 : decode cX6_joined 58 = .ok (.iload_n 2, 1) := by decide +kernel
theorem dX6_joined_59 : decode cX6_joined 59 = .ok (.ifCond .ne 7, 3) := by decide +kernel
theorem dX6_joined_62 : decode cX6_joined 62 = .ok (.lconst 0, 1) := by decide +kernel
theorem dX6_joined_63 : decode cX6_joined 63 = .ok (.goto 7, 3) := by decide +kernel
theorem dX6_joined_66 : decode cX6_joined 66 = .ok (.iload_n 1, 1) := by decide +kernel
theorem dX6_joined_67 : decode cX6_joined 67 = .ok (.iload_n 2, 1) := by decide +kernel
theorem dX6_joined_68 : decode cX6_joined 68 = .ok (.idiv, 1) := by decide +kernel
theorem dX6_joined_69 : decode cX6_joined 69 = .ok (.i2l, 1) := by decide +kernel
theorem dX6_joined_70 : decode cX6_joined 70 = .ok (.lreturn, 1) := by decide +kernel
theorem dX6_joined_71 : decode cX6_joined 71 = .ok (.iload_n 1, 1) := by decide +kernel
theorem dX6_joined_72 : decode cX6_joined 72 = .ok (.iload_n 2, 1) := by decide +kernel
theorem dX6_joined_73 : decode cX6_joined 73 = .ok (.invokestatic 86, 3) := by decide +kernel
theorem dX6_joined_76 : decode cX6_joined 76 = .ok (.i2l, 1) := by decide +kernel
theorem dX6_joined_77 : decode cX6_joined 77 = .ok (.lreturn, 1) := by decide +kernel
theorem dX6_joined_78 : decode cX6_joined 78 = .ok (.iload_n 1, 1) := by decide +kernel
theorem dX6_joined_79 : decode cX6_joined 79 = .ok (.iload_n 2, 1) := by decide +kernel
theorem dX6_joined_80 : decode cX6_joined 80 = .ok (.invokestatic 91, 3) := by decide +kernel
theorem dX6_joined_83 : decode cX6_joined 83 = .ok (.i2l, 1) := by decide +kernel
theorem dX6_joined_84 : decode cX6_joined 84 = .ok (.lreturn, 1) := by decide +kernel
theorem dX6_joined_85 : decode cX6_joined 85 = .ok (.iload_n 0, 1) := by decide +kernel
theorem dX6_joined_86 : decode cX6_joined 86 = .ok (.iload_n 1, 1) := by decide +kernel
theorem dX6_joined_87 : decode cX6_joined 87 = .ok (.iload_n 2, 1) := by decide +kernel
theorem dX6_joined_88 : decode cX6_joined 88 = .ok (.invokestatic 94, 3) := by decide +kernel
theorem dX6_joined_91 : decode cX6_joined 91 = .ok (.ifCond .eq 7, 3) := by decide +kernel
theorem dX6_joined_94 : decode cX6_joined 94 = .ok (.lconst 1, 1) := by decide +kernel
theorem dX6_joined_95 : decode cX6_joined 95 = .ok (.goto 4, 3) := by decide +kernel
theorem dX6_joined_98 : decode cX6_joined 98 = .ok (.lconst 0, 1) := by decide +kernel
theorem dX6_joined_99 : decode cX6_joined 99 = .ok (.lreturn, 1) := by decide +kernel
theorem dX6_isSo_0 : decode cX6_isSo 0 = .ok (.iload_n 0, 1) := by decide +kernel
theorem dX6_isSo_1 : decode cX6_isSo 1 = .ok (.tableswitch 123 13 19 #[43, 54, 65, 76, 87, 98, 109], 43) := by decide +kernel
theorem dX6_isSo_44 : decode cX6_isSo 44 = .ok (.iload_n 1, 1) := by decide +kernel
theorem dX6_isSo_45 : decode cX6_isSo 45 = .ok (.iload_n 2, 1) := by decide +kernel
theorem dX6_isSo_46 : decode cX6_isSo 46 = .ok (.if_icmp .ge 7, 3) := by decide +kernel
theorem dX6_isSo_49 : decode cX6_isSo 49 = .ok (.iconst 1, 1) := by decide +kernel
theorem dX6_isSo_50 : decode cX6_isSo 50 = .ok (.goto 4, 3) := by decide +kernel
theorem dX6_isSo_53 : decode cX6_isSo 53 = .ok (.iconst 0, 1) := by decide +kernel
theorem dX6_isSo_54 : decode cX6_isSo 54 = .ok (.ireturn, 1) := by decide +kernel
theorem dX6_isSo_55 : decode cX6_isSo 55 = .ok (.iload_n 1, 1) := by decide +kernel
theorem dX6_isSo_56 : decode cX6_isSo 56 = .ok (.iload_n 2, 1) := by decide +kernel
theorem dX6_isSo_57 : decode cX6_isSo 57 = .ok (.if_icmp .gt 7, 3) := by decide +kernel
theorem dX6_isSo_60 : decode cX6_isSo 60 = .ok (.iconst 1, 1) := by decide +kernel
theorem dX6_isSo_61 : decode cX6_isSo 61 = .ok (.goto 4, 3) := by decide +kernel
theorem dX6_isSo_64 : decode cX6_isSo 64 = .ok (.iconst 0, 1) := by decide +kernel
theorem dX6_isSo_65 : decode cX6_isSo 65 = .ok (.ireturn, 1) := by decide +kernel
theorem dX6_isSo_66 : decode cX6_isSo 66 = .ok (.iload_n 1, 1) := by decide +kernel
theorem dX6_isSo_67 : decode cX6_isSo 67 = .ok (.iload_n 2, 1) := by decide +kernel
theorem dX6_isSo_68 : decode cX6_isSo 68 = .ok (.if_icmp .le 7, 3) := by decide +kernel
theorem dX6_isSo_71 : decode cX6_isSo 71 = .ok (.iconst 1, 1) := by decide +kernel
theorem dX6_isSo_72 : decode cX6_isSo 72 = .ok (.goto 4, 3) := by decide +kernel
theorem dX6_isSo_75 : decode cX6_isSo 75 = .ok (.iconst 0, 1) := by decide +kernel
theorem dX6_isSo_76 : decode cX6_isSo 76 = .ok (.ireturn, 1) := by decide +kernel
theorem dX6_isSo_77 : decode cX6_isSo 77 = .ok (.iload_n 1, 1) := by decide +kernel
theorem dX6_isSo_78 : decode cX6_isSo 78 = .ok (.iload_n 2, 1) := by decide +kernel
theorem dX6_isSo_79 : decode cX6_isSo 79 = .ok (.if_icmp .lt 7, 3) := by decide +kernel
theorem dX6_isSo_82 : decode cX6_isSo 82 = .ok (.iconst 1, 1) := by decide +kernel
theorem dX6_isSo_83 : decode cX6_isSo 83 = .ok (.goto 4, 3) := by decide +kernel
theorem dX6_isSo_86 : decode cX6_isSo 86 = .ok (.iconst 0, 1) := by decide +kernel
theorem dX6_isSo_87 : decode cX6_isSo 87 = .ok (.ireturn, 1) := by decide +kernel
theorem dX6_isSo_88 : decode cX6_isSo 88 = .ok (.iload_n 1, 1) := by decide +kernel
theorem dX6_isSo_89 : decode cX6_isSo 89 = .ok (.iload_n 2, 1) := by decide +kernel
theorem dX6_isSo_90 : decode cX6_isSo 90 = .ok (.if_icmp .ne 7, 3) := by decide +kernel
theorem dX6_isSo_93 : decode cX6_isSo 93 = .ok (.iconst 1, 1) := by decide +kernel
theorem dX6_isSo_94 : decode cX6_isSo 94 = .ok (.goto 4, 3) := by decide +kernel
theorem dX6_isSo_97 : decode cX6_isSo 97 = .ok (.iconst 0, 1) := by decide +kernel
theorem dX6_isSo_98 : decode cX6_isSo 98 = .ok (.ireturn, 1) := by decide +kernel
theorem dX6_isSo_99 : decode cX6_isSo 99 = .ok (.iload_n 1, 1) := by decide +kernel
theorem dX6_isSo_100 : decode cX6_isSo 100 = .ok (.iload_n 2, 1) := by decide +kernel
theorem dX6_isSo_101 : decode cX6_isSo 101 = .ok (.if_icmp .eq 7, 3) := by decide +kernel
theorem dX6_isSo_104 : decode cX6_isSo 104 = .ok (.iconst 1, 1) := by decide +kernel
theorem dX6_isSo_105 : decode cX6_isSo 105 = .ok (.goto 4, 3) := by decide +kernel
theorem dX6_isSo_108 : decode cX6_isSo 108 = .ok (.iconst 0, 1) := by decide +kernel
theorem dX6_isSo_109 : decode cX6_isSo 109 = .ok (.ireturn, 1) := by decide +kernel
theorem dX6_isSo_110 : decode cX6_isSo 110 = .ok (.iload_n 1, 1) := by decide +kernel
theorem dX6_isSo_111 : decode cX6_isSo 111 = .ok (.ifCond .eq 11, 3) := by decide +kernel
theorem dX6_isSo_114 : decode cX6_isSo 114 = .ok (.iload_n 2, 1) := by decide +kernel
theorem dX6_isSo_115 : decode cX6_isSo 115 = .ok (.ifCond .eq 7, 3) := by decide +kernel
theorem dX6_isSo_118 : decode cX6_isSo 118 = .ok (.iconst 1, 1) := by decide +kernel
theorem dX6_isSo_119 : decode cX6_isSo 119 = .ok (.goto 4, 3) := by decide +kernel
theorem dX6_isSo_122 : decode cX6_isSo 122 = .ok (.iconst 0, 1) := by decide +kernel
theorem dX6_isSo_123 : decode cX6_isSo 123 = .ok (.ireturn, 1) := by decide +kernel
theorem dX6_isSo_124 : decode cX6_isSo 124 = .ok (.iload_n 1, 1) := by decide +kernel
theorem dX6_isSo_125 : decode cX6_isSo 125 = .ok (.ifCond .ne 7, 3) := by decide +kernel
theorem dX6_isSo_128 : decode cX6_isSo 128 = .ok (.iload_n 2, 1) := by decide +kernel
theorem dX6_isSo_129 : decode cX6_isSo 129 = .ok (.ifCond .eq 7, 3) := by decide +kernel
theorem dX6_isSo_132 : decode cX6_isSo 132 = .ok (.iconst 1, 1) := by decide +kernel
theorem dX6_isSo_133 : decode cX6_isSo 133 = .ok (.goto 4, 3) := by decide +kernel
theorem dX6_isSo_136 : decode cX6_isSo 136 = .ok (.iconst 0, 1) := by decide +kernel
theorem dX6_isSo_137 : decode cX6_isSo 137 = .ok (.ireturn, 1) := by decide +kernel
theorem dX6_finish_0 : decode cX6_finish 0 = .ok (.iload_n 1, 1) := by decide +kernel
theorem dX6_finish_1 : decode cX6_finish 1 = .ok (.tableswitch 82 21 23 #[27, 47, 65], 27) := by decide +kernel
theorem dX6_finish_28 : decode cX6_finish 28 = .ok (.iload_n 2, 1) := by decide +kernel
theorem dX6_finish_29 : decode cX6_finish 29 = .ok (.iconst 0, 1) := by decide +kernel
theorem dX6_finish_30 : decode cX6_finish 30 = .ok (.bipush 7, 2) := by decide +kernel
theorem dX6_finish_32 : decode cX6_finish 32 = .ok (.invokestatic 69, 3) := by decide +kernel
theorem dX6_finish_35 : decode cX6_finish 35 = .ok (.ifCond .eq 61, 3) := by decide +kernel
theorem dX6_finish_38 : decode cX6_finish 38 = .ok (.aload_n 0, 1) := by decide +kernel
theorem dX6_finish_39 : decode cX6_finish 39 = .ok (.getfield 19, 3) := by decide +kernel
theorem dX6_finish_42 : decode cX6_finish 42 = .ok (.iload_n 2, 1) := by decide +kernel
theorem dX6_finish_43 : decode cX6_finish 43 = .ok (.iload_n 3, 1) := by decide +kernel
theorem dX6_finish_44 : decode cX6_finish 44 = .ok (.iastore, 1) := by decide +kernel
theorem dX6_finish_45 : decode cX6_finish 45 = .ok (.goto 51, 3) := by decide +kernel
theorem dX6_finish_48 : decode cX6_finish 48 = .ok (.aload_n 0, 1) := by decide +kernel
theorem dX6_finish_49 : decode cX6_finish 49 = .ok (.bipush (-8), 2) := by decide +kernel
theorem dX6_finish_51 : decode cX6_finish 51 = .ok (.bipush 8, 2) := by decide +kernel
theorem dX6_finish_53 : decode cX6_finish 53 = .ok (.iload_n 3, 1) := by decide +kernel
theorem dX6_finish_54 : decode cX6_finish 54 = .ok (.invokestatic 86, 3) := by decide +kernel
theorem dX6_finish_57 : decode cX6_finish 57 = .ok (.invokestatic 91, 3) := by decide +kernel
theorem dX6_finish_60 : decode cX6_finish 60 = .ok (.putfield 33, 3) := by decide +kernel
theorem dX6_finish_63 : decode cX6_finish 63 = .ok (.goto 33, 3) := by decide +kernel
theorem dX6_finish_66 : decode cX6_finish 66 = .ok (.aload_n 0, 1) := by decide +kernel
theorem dX6_finish_67 : decode cX6_finish 67 = .ok (.iconst 0, 1) := by decide +kernel
theorem dX6_finish_68 : decode cX6_finish 68 = .ok (.bipush 16, 2) := by decide +kernel
theorem dX6_finish_70 : decode cX6_finish 70 = .ok (.iload_n 3, 1) := by decide +kernel
theorem dX6_finish_71 : decode cX6_finish 71 = .ok (.invokestatic 86, 3) := by decide +kernel
theorem dX6_finish_74 : decode cX6_finish 74 = .ok (.invokestatic 91, 3) := by decide +kernel
theorem dX6_finish_77 : decode cX6_finish 77 = .ok (.putfield 36, 3) := by decide +kernel
theorem dX6_finish_80 : decode cX6_finish 80 = .ok (.goto 16, 3) := by decide +kernel
theorem dX6_finish_83 : decode cX6_finish 83 = .ok (.aload_n 0, 1) := by decide +kernel
theorem dX6_finish_84 : decode cX6_finish 84 = .ok (.iload_n 3, 1) := by decide +kernel
theorem dX6_finish_85 : decode cX6_finish 85 = .ok (.ifCond .eq 7, 3) := by decide +kernel
theorem dX6_finish_88 : decode cX6_finish 88 = .ok (.iconst 1, 1) := by decide +kernel
theorem dX6_finish_89 : decode cX6_finish 89 = .ok (.goto 4, 3) := by decide +kernel
theorem dX6_finish_92 : decode cX6_finish 92 = .ok (.iconst 0, 1) := by decide +kernel
theorem dX6_finish_93 : decode cX6_finish 93 = .ok (.putfield 39, 3) := by decide +kernel
theorem dX6_finish_96 : decode cX6_finish 96 = .ok (.return_, 1) := by decide +kernel
theorem dX7_init_0 : decode cX7_init 0 = .ok (.aload_n 0, 1) := by decide +kernel
theorem dX7_init_1 : decode cX7_init 1 = .ok (.invokespecial 5, 3) := by decide +kernel
theorem dX7_init_4 : decode cX7_init 4 = .ok (.aload_n 0, 1) := by decide +kernel
theorem dX7_init_5 : decode cX7_init 5 = .ok (.aload_n 1, 1) := by decide +kernel
theorem dX7_init_6 : decode cX7_init 6 = .ok (.putfield 11, 3) := by decide +kernel
theorem dX7_init_9 : decode cX7_init 9 = .ok (.aload_n 0, 1) := by decide +kernel
theorem dX7_init_10 : decode cX7_init 10 = .ok (.aload_n 1, 1) := by decide +kernel
theorem dX7_init_11 : decode cX7_init 11 = .ok (.getfield 15, 3) := by decide +kernel
theorem dX7_init_14 : decode cX7_init 14 = .ok (.arraylength, 1) := by decide +kernel
theorem dX7_init_15 : decode cX7_init 15 = .ok (.newarray .int, 2) := by decide +kernel
theorem dX7_init_17 : decode cX7_init 17 = .ok (.putfield 21, 3) := by decide +kernel
theorem dX7_init_20 : decode cX7_init 20 = .ok (.aload_n 0, 1) := by decide +kernel
theorem dX7_init_21 : decode cX7_init 21 = .ok (.bipush 64, 2) := by decide +kernel
theorem dX7_init_23 : decode cX7_init 23 = .ok (.newarray .int, 2) := by decide +kernel
theorem dX7_init_25 : decode cX7_init 25 = .ok (.putfield 24, 3) := by decide +kernel
theorem dX7_init_28 : decode cX7_init 28 = .ok (.return_, 1) := by decide +kernel
theorem dX7_look_0 : decode cX7_look 0 = .ok (.aload_n 0, 1) := by decide +kernel
theorem dX7_look_1 : decode cX7_look 1 = .ok (.iload_n 1, 1) := by decide +kernel
theorem dX7_look_2 : decode cX7_look 2 = .ok (.putfield 27, 3) := by decide +kernel
theorem dX7_look_5 : decode cX7_look 5 = .ok (.aload_n 0, 1) := by decide +kernel
theorem dX7_look_6 : decode cX7_look 6 = .ok (.iload_n 2, 1) := by decide +kernel
theorem dX7_look_7 : decode cX7_look 7 = .ok (.putfield 31, 3) := by decide +kernel
theorem dX7_look_10 : decode cX7_look 10 = .ok (.aload_n 0, 1) := by decide +kernel
theorem dX7_look_11 : decode cX7_look 11 = .ok (.getfield 11, 3) := by decide +kernel
theorem dX7_look_14 : decode cX7_look 14 = .ok (.getfield 15, 3) := by decide +kernel
theorem dX7_look_17 : decode cX7_look 17 = .ok (.iconst 0, 1) := by decide +kernel
theorem dX7_look_18 : decode cX7_look 18 = .ok (.aload_n 0, 1) := by decide +kernel
theorem dX7_look_19 : decode cX7_look 19 = .ok (.getfield 21, 3) := by decide +kernel
theorem dX7_look_22 : decode cX7_look 22 = .ok (.iconst 0, 1) := by decide +kernel
theorem dX7_look_23 : decode cX7_look 23 = .ok (.aload_n 0, 1) := by decide +kernel
theorem dX7_look_24 : decode cX7_look 24 = .ok (.getfield 21, 3) := by decide +kernel
theorem dX7_look_27 : decode cX7_look 27 = .ok (.arraylength, 1) := by decide +kernel
theorem dX7_look_28 : decode cX7_look 28 = .ok (.invokestatic 34, 3) := by decide +kernel
theorem dX7_look_31 : decode cX7_look 31 = .ok (.aload_n 0, 1) := by decide +kernel
theorem dX7_look_32 : decode cX7_look 32 = .ok (.getfield 11, 3) := by decide +kernel
theorem dX7_look_35 : decode cX7_look 35 = .ok (.getfield 40, 3) := by decide +kernel
theorem dX7_look_38 : decode cX7_look 38 = .ok (.iconst 1, 1) := by decide +kernel
theorem dX7_look_39 : decode cX7_look 39 = .ok (.isub, 1) := by decide +kernel
theorem dX7_look_40 : decode cX7_look 40 = .ok (.istore 4, 2) := by decide +kernel
theorem dX7_look_42 : decode cX7_look 42 = .ok (.iload 4, 2) := by decide +kernel
theorem dX7_look_44 : decode cX7_look 44 = .ok (.ifCond .lt 53, 3) := by decide +kernel
theorem dX7_look_47 : decode cX7_look 47 = .ok (.aload_n 0, 1) := by decide +kernel
theorem dX7_look_48 : decode cX7_look 48 = .ok (.getfield 11, 3) := by decide +kernel
theorem dX7_look_51 : decode cX7_look 51 = .ok (.iload 4, 2) := by decide +kernel
theorem dX7_look_53 : decode cX7_look 53 = .ok (.iload_n 3, 1) := by decide +kernel
theorem dX7_look_54 : decode cX7_look 54 = .ok (.invokevirtual 43, 3) := by decide +kernel
theorem dX7_look_57 : decode cX7_look 57 = .ok (.istore 5, 2) := by decide +kernel
theorem dX7_look_59 : decode cX7_look 59 = .ok (.iload 5, 2) := by decide +kernel
theorem dX7_look_61 : decode cX7_look 61 = .ok (.ifCond .lt 30, 3) := by decide +kernel
theorem dX7_look_64 : decode cX7_look 64 = .ok (.iload 5, 2) := by decide +kernel
theorem dX7_look_66 : decode cX7_look 66 = .ok (.aload_n 0, 1) := by decide +kernel
theorem dX7_look_67 : decode cX7_look 67 = .ok (.getfield 21, 3) := by decide +kernel
theorem dX7_look_70 : decode cX7_look 70 = .ok (.arraylength, 1) := by decide +kernel
theorem dX7_look_71 : decode cX7_look 71 = .ok (.if_icmp .ge 20, 3) := by decide +kernel
theorem dX7_look_74 : decode cX7_look 74 = .ok (.aload_n 0, 1) := by decide +kernel
theorem dX7_look_75 : decode cX7_look 75 = .ok (.getfield 21, 3) := by decide +kernel
theorem dX7_look_78 : decode cX7_look 78 = .ok (.iload 5, 2) := by decide +kernel
theorem dX7_look_80 : decode cX7_look 80 = .ok (.aload_n 0, 1) := by decide +kernel
theorem dX7_look_81 : decode cX7_look 81 = .ok (.getfield 11, 3) := by decide +kernel
theorem dX7_look_84 : decode cX7_look 84 = .ok (.getfield 47, 3) := by decide +kernel
theorem dX7_look_87 : decode cX7_look 87 = .ok (.iload 4, 2) := by decide +kernel
theorem dX7_look_89 : decode cX7_look 89 = .ok (.iaload, 1) := by decide +kernel
theorem dX7_look_90 : decode cX7_look 90 = .ok (.iastore, 1) := by decide +kernel
theorem dX7_look_91 : decode cX7_look 91 = .ok (.iinc 4 (-1), 3) := by decide +kernel
theorem dX7_look_94 : decode cX7_look 94 = .ok (.goto (-52), 3) := by decide +kernel
theorem dX7_look_97 : decode cX7_look 97 = .ok (.aload_n 0, 1) := by decide +kernel
theorem dX7_look_98 : decode cX7_look 98 = .ok (.getfield 24, 3) := by decide +kernel
theorem dX7_look_101 : decode cX7_look 101 = .ok (.iconst (-1), 1) := by decide +kernel
theorem dX7_look_102 : decode cX7_look 102 = .ok (.invokestatic 50, 3) := by decide +kernel
theorem dX7_look_105 : decode cX7_look 105 = .ok (.return_, 1) := by decide +kernel
theorem dX7_trace_0 : decode cX7_trace 0 = .ok (.iload_n 1, 1) := by decide +kernel
theorem dX7_trace_1 : decode cX7_trace 1 = .ok (.ifCond .lt 9, 3) := by decide +kernel
theorem dX7_trace_4 : decode cX7_trace 4 = .ok (.iload_n 1, 1) := by decide +kernel
theorem dX7_trace_5 : decode cX7_trace 5 = .ok (.bipush 63, 2) := by decide +kernel
theorem dX7_trace_7 : decode cX7_trace 7 = .ok (.if_icmp .le 7, 3) := by decide +kernel
theorem dX7_trace_10 : decode cX7_trace 10 = .ok (.sipush 10496, 3) := by decide +kernel
theorem dX7_trace_13 : decode cX7_trace 13 = .ok (.ireturn, 1) := by decide +kernel
theorem dX7_trace_14 : decode cX7_trace 14 = .ok (.aload_n 0, 1) := by decide +kernel
theorem dX7_trace_15 : decode cX7_trace 15 = .ok (.getfield 11, 3) := by decide +kernel
theorem dX7_trace_18 : decode cX7_trace 18 = .ok (.getfield 56, 3) := by decide +kernel
theorem dX7_trace_21 : decode cX7_trace 21 = .ok (.bipush 16, 2) := by decide +kernel
theorem dX7_trace_23 : decode cX7_trace 23 = .ok (.imul, 1) := by decide +kernel
theorem dX7_trace_24 : decode cX7_trace 24 = .ok (.istore_n 2, 1) := by decide +kernel
theorem dX7_trace_25 : decode cX7_trace 25 = .ok (.aload_n 0, 1) := by decide +kernel
theorem dX7_trace_26 : decode cX7_trace 26 = .ok (.getfield 11, 3) := by decide +kernel
theorem dX7_trace_29 : decode cX7_trace 29 = .ok (.getfield 59, 3) := by decide +kernel
theorem dX7_trace_32 : decode cX7_trace 32 = .ok (.bipush 16, 2) := by decide +kernel
theorem dX7_trace_34 : decode cX7_trace 34 = .ok (.imul, 1) := by decide +kernel
theorem dX7_trace_35 : decode cX7_trace 35 = .ok (.istore_n 3, 1) := by decide +kernel
theorem dX7_trace_36 : decode cX7_trace 36 = .ok (.aload_n 0, 1) := by decide +kernel
theorem dX7_trace_37 : decode cX7_trace 37 = .ok (.getfield 27, 3) := by decide +kernel
theorem dX7_trace_40 : decode cX7_trace 40 = .ok (.istore 4, 2) := by decide +kernel
theorem dX7_trace_42 : decode cX7_trace 42 = .ok (.aload_n 0, 1) := by decide +kernel
theorem dX7_trace_43 : decode cX7_trace 43 = .ok (.getfield 31, 3) := by decide +kernel
theorem dX7_trace_46 : decode cX7_trace 46 = .ok (.istore 5, 2) := by decide +kernel
theorem dX7_trace_48 : decode cX7_trace 48 = .ok (.iconst 1, 1) := by decide +kernel
theorem dX7_trace_49 : decode cX7_trace 49 = .ok (.istore 6, 2) := by decide +kernel
theorem dX7_trace_51 : decode cX7_trace 51 = .ok (.iload 6, 2) := by decide +kernel
theorem dX7_trace_53 : decode cX7_trace 53 = .ok (.bipush 40, 2) := by decide +kernel
theorem dX7_trace_55 : decode cX7_trace 55 = .ok (.if_icmp .gt 95, 3) := by decide +kernel
theorem dX7_trace_58 : decode cX7_trace 58 = .ok (.iload 4, 2) := by decide +kernel
theorem dX7_trace_60 : decode cX7_trace 60 = .ok (.getstatic 62, 3) := by decide +kernel
theorem dX7_trace_63 : decode cX7_trace 63 = .ok (.iload_n 1, 1) := by decide +kernel
theorem dX7_trace_64 : decode cX7_trace 64 = .ok (.iaload, 1) := by decide +kernel
theorem dX7_trace_65 : decode cX7_trace 65 = .ok (.iadd, 1) := by decide +kernel
theorem dX7_trace_66 : decode cX7_trace 66 = .ok (.istore 4, 2) := by decide +kernel
theorem dX7_trace_68 : decode cX7_trace 68 = .ok (.iload 5, 2) := by decide +kernel
theorem dX7_trace_70 : decode cX7_trace 70 = .ok (.getstatic 65, 3) := by decide +kernel
theorem dX7_trace_73 : decode cX7_trace 73 = .ok (.iload_n 1, 1) := by decide +kernel
theorem dX7_trace_74 : decode cX7_trace 74 = .ok (.iaload, 1) := by decide +kernel
theorem dX7_trace_75 : decode cX7_trace 75 = .ok (.iadd, 1) := by decide +kernel
theorem dX7_trace_76 : decode cX7_trace 76 = .ok (.istore 5, 2) := by decide +kernel
theorem dX7_trace_78 : decode cX7_trace 78 = .ok (.iload 4, 2) := by decide +kernel
theorem dX7_trace_80 : decode cX7_trace 80 = .ok (.ifCond .lt 20, 3) := by decide +kernel
theorem dX7_trace_83 : decode cX7_trace 83 = .ok (.iload 4, 2) := by decide +kernel
theorem dX7_trace_85 : decode cX7_trace 85 = .ok (.iload_n 2, 1) := by decide +kernel
theorem dX7_trace_86 : decode cX7_trace 86 = .ok (.if_icmp .ge 14, 3) := by decide +kernel
theorem dX7_trace_89 : decode cX7_trace 89 = .ok (.iload 5, 2) := by decide +kernel
theorem dX7_trace_91 : decode cX7_trace 91 = .ok (.ifCond .lt 9, 3) := by decide +kernel
theorem dX7_trace_94 : decode cX7_trace 94 = .ok (.iload 5, 2) := by decide +kernel
theorem dX7_trace_96 : decode cX7_trace 96 = .ok (.iload_n 3, 1) := by decide +kernel
theorem dX7_trace_97 : decode cX7_trace 97 = .ok (.if_icmp .lt 7, 3) := by decide +kernel
theorem dX7_trace_100 : decode cX7_trace 100 = .ok (.sipush 10496, 3) := by decide +kernel
theorem dX7_trace_103 : decode cX7_trace 103 = .ok (.ireturn, 1) := by decide +kernel
theorem dX7_trace_104 : decode cX7_trace 104 = .ok (.aload_n 0, 1) := by decide +kernel
theorem dX7_trace_105 : decode cX7_trace 105 = .ok (.getfield 21, 3) := by decide +kernel
theorem dX7_trace_108 : decode cX7_trace 108 = .ok (.iload 5, 2) := by decide +kernel
theorem dX7_trace_110 : decode cX7_trace 110 = .ok (.bipush 16, 2) := by decide +kernel
theorem dX7_trace_112 : decode cX7_trace 112 = .ok (.idiv, 1) := by decide +kernel
theorem dX7_trace_113 : decode cX7_trace 113 = .ok (.aload_n 0, 1) := by decide +kernel
theorem dX7_trace_114 : decode cX7_trace 114 = .ok (.getfield 11, 3) := by decide +kernel
theorem dX7_trace_117 : decode cX7_trace 117 = .ok (.getfield 56, 3) := by decide +kernel
theorem dX7_trace_120 : decode cX7_trace 120 = .ok (.imul, 1) := by decide +kernel
theorem dX7_trace_121 : decode cX7_trace 121 = .ok (.iload 4, 2) := by decide +kernel
theorem dX7_trace_123 : decode cX7_trace 123 = .ok (.bipush 16, 2) := by decide +kernel
theorem dX7_trace_125 : decode cX7_trace 125 = .ok (.idiv, 1) := by decide +kernel
theorem dX7_trace_126 : decode cX7_trace 126 = .ok (.iadd, 1) := by decide +kernel
theorem dX7_trace_127 : decode cX7_trace 127 = .ok (.iaload, 1) := by decide +kernel
theorem dX7_trace_128 : decode cX7_trace 128 = .ok (.istore 7, 2) := by decide +kernel
theorem dX7_trace_130 : decode cX7_trace 130 = .ok (.iload 7, 2) := by decide +kernel
theorem dX7_trace_132 : decode cX7_trace 132 = .ok (.ifCond .eq 12, 3) := by decide +kernel
theorem dX7_trace_135 : decode cX7_trace 135 = .ok (.iload 6, 2) := by decide +kernel
theorem dX7_trace_137 : decode cX7_trace 137 = .ok (.bipush 8, 2) := by decide +kernel
theorem dX7_trace_139 : decode cX7_trace 139 = .ok (.ishl, 1) := by decide +kernel
theorem dX7_trace_140 : decode cX7_trace 140 = .ok (.iload 7, 2) := by decide +kernel
theorem dX7_trace_142 : decode cX7_trace 142 = .ok (.iadd, 1) := by decide +kernel
theorem dX7_trace_143 : decode cX7_trace 143 = .ok (.ireturn, 1) := by decide +kernel
theorem dX7_trace_144 : decode cX7_trace 144 = .ok (.iinc 6 1, 3) := by decide +kernel
theorem dX7_trace_147 : decode cX7_trace 147 = .ok (.goto (-96), 3) := by decide +kernel
theorem dX7_trace_150 : decode cX7_trace 150 = .ok (.sipush 10496, 3) := by decide +kernel
theorem dX7_trace_153 : decode cX7_trace 153 = .ok (.ireturn, 1) := by decide +kernel
theorem dX7_weigh_0 : decode cX7_weigh 0 = .ok (.iconst 0, 1) := by decide +kernel
theorem dX7_weigh_1 : decode cX7_weigh 1 = .ok (.istore 4, 2) := by decide +kernel
theorem dX7_weigh_3 : decode cX7_weigh 3 = .ok (.iload_n 2, 1) := by decide +kernel
theorem dX7_weigh_4 : decode cX7_weigh 4 = .ok (.ineg, 1) := by decide +kernel
theorem dX7_weigh_5 : decode cX7_weigh 5 = .ok (.istore 5, 2) := by decide +kernel
theorem dX7_weigh_7 : decode cX7_weigh 7 = .ok (.iload 5, 2) := by decide +kernel
theorem dX7_weigh_9 : decode cX7_weigh 9 = .ok (.iload_n 2, 1) := by decide +kernel
theorem dX7_weigh_10 : decode cX7_weigh 10 = .ok (.if_icmp .gt 70, 3) := by decide +kernel
theorem dX7_weigh_13 : decode cX7_weigh 13 = .ok (.iload_n 3, 1) := by decide +kernel
theorem dX7_weigh_14 : decode cX7_weigh 14 = .ok (.iload_n 1, 1) := by decide +kernel
theorem dX7_weigh_15 : decode cX7_weigh 15 = .ok (.iadd, 1) := by decide +kernel
theorem dX7_weigh_16 : decode cX7_weigh 16 = .ok (.iload 5, 2) := by decide +kernel
theorem dX7_weigh_18 : decode cX7_weigh 18 = .ok (.iadd, 1) := by decide +kernel
theorem dX7_weigh_19 : decode cX7_weigh 19 = .ok (.bipush 63, 2) := by decide +kernel
theorem dX7_weigh_21 : decode cX7_weigh 21 = .ok (.iand, 1) := by decide +kernel
theorem dX7_weigh_22 : decode cX7_weigh 22 = .ok (.istore 6, 2) := by decide +kernel
theorem dX7_weigh_24 : decode cX7_weigh 24 = .ok (.aload_n 0, 1) := by decide +kernel
theorem dX7_weigh_25 : decode cX7_weigh 25 = .ok (.getfield 24, 3) := by decide +kernel
theorem dX7_weigh_28 : decode cX7_weigh 28 = .ok (.iload 6, 2) := by decide +kernel
theorem dX7_weigh_30 : decode cX7_weigh 30 = .ok (.iaload, 1) := by decide +kernel
theorem dX7_weigh_31 : decode cX7_weigh 31 = .ok (.iconst (-1), 1) := by decide +kernel
theorem dX7_weigh_32 : decode cX7_weigh 32 = .ok (.if_icmp .ne 20, 3) := by decide +kernel
theorem dX7_weigh_35 : decode cX7_weigh 35 = .ok (.aload_n 0, 1) := by decide +kernel
theorem dX7_weigh_36 : decode cX7_weigh 36 = .ok (.getfield 24, 3) := by decide +kernel
theorem dX7_weigh_39 : decode cX7_weigh 39 = .ok (.iload 6, 2) := by decide +kernel
theorem dX7_weigh_41 : decode cX7_weigh 41 = .ok (.aload_n 0, 1) := by decide +kernel
theorem dX7_weigh_42 : decode cX7_weigh 42 = .ok (.iload 6, 2) := by decide +kernel
theorem dX7_weigh_44 : decode cX7_weigh 44 = .ok (.invokevirtual 68, 3) := by decide +kernel
theorem dX7_weigh_47 : decode cX7_weigh 47 = .ok (.sipush 255, 3) := by decide +kernel
theorem dX7_weigh_50 : decode cX7_weigh 50 = .ok (.iand, 1) := by decide +kernel
theorem dX7_weigh_51 : decode cX7_weigh 51 = .ok (.iastore, 1) := by decide +kernel
theorem dX7_weigh_52 : decode cX7_weigh 52 = .ok (.iload 4, 2) := by decide +kernel
theorem dX7_weigh_54 : decode cX7_weigh 54 = .ok (.aload_n 0, 1) := by decide +kernel
theorem dX7_weigh_55 : decode cX7_weigh 55 = .ok (.getfield 24, 3) := by decide +kernel
theorem dX7_weigh_58 : decode cX7_weigh 58 = .ok (.iload 6, 2) := by decide +kernel
theorem dX7_weigh_60 : decode cX7_weigh 60 = .ok (.iaload, 1) := by decide +kernel
theorem dX7_weigh_61 : decode cX7_weigh 61 = .ok (.iload_n 2, 1) := by decide +kernel
theorem dX7_weigh_62 : decode cX7_weigh 62 = .ok (.iconst 1, 1) := by decide +kernel
theorem dX7_weigh_63 : decode cX7_weigh 63 = .ok (.iadd, 1) := by decide +kernel
theorem dX7_weigh_64 : decode cX7_weigh 64 = .ok (.iload 5, 2) := by decide +kernel
theorem dX7_weigh_66 : decode cX7_weigh 66 = .ok (.invokestatic 72, 3) := by decide +kernel
theorem dX7_weigh_69 : decode cX7_weigh 69 = .ok (.isub, 1) := by decide +kernel
theorem dX7_weigh_70 : decode cX7_weigh 70 = .ok (.imul, 1) := by decide +kernel
theorem dX7_weigh_71 : decode cX7_weigh 71 = .ok (.iadd, 1) := by decide +kernel
theorem dX7_weigh_72 : decode cX7_weigh 72 = .ok (.istore 4, 2) := by decide +kernel
theorem dX7_weigh_74 : decode cX7_weigh 74 = .ok (.iinc 5 1, 3) := by decide +kernel
theorem dX7_weigh_77 : decode cX7_weigh 77 = .ok (.goto (-70), 3) := by decide +kernel
theorem dX7_weigh_80 : decode cX7_weigh 80 = .ok (.iload_n 2, 1) := by decide +kernel
theorem dX7_weigh_81 : decode cX7_weigh 81 = .ok (.invokestatic 77, 3) := by decide +kernel
theorem dX7_weigh_84 : decode cX7_weigh 84 = .ok (.istore 5, 2) := by decide +kernel
theorem dX7_weigh_86 : decode cX7_weigh 86 = .ok (.iload 5, 2) := by decide +kernel
theorem dX7_weigh_88 : decode cX7_weigh 88 = .ok (.ifCond .le 11, 3) := by decide +kernel
theorem dX7_weigh_91 : decode cX7_weigh 91 = .ok (.iload 4, 2) := by decide +kernel
theorem dX7_weigh_93 : decode cX7_weigh 93 = .ok (.iload 5, 2) := by decide +kernel
theorem dX7_weigh_95 : decode cX7_weigh 95 = .ok (.idiv, 1) := by decide +kernel
theorem dX7_weigh_96 : decode cX7_weigh 96 = .ok (.goto 4, 3) := by decide +kernel
theorem dX7_weigh_99 : decode cX7_weigh 99 = .ok (.iconst 0, 1) := by decide +kernel
theorem dX7_weigh_100 : decode cX7_weigh 100 = .ok (.ireturn, 1) := by decide +kernel
theorem dX8_init_0 : decode cX8_init 0 = .ok (.aload_n 0, 1) := by decide +kernel
theorem dX8_init_1 : decode cX8_init 1 = .ok (.invokespecial 3, 3) := by decide +kernel
theorem dX8_init_4 : decode cX8_init 4 = .ok (.aload_n 0, 1) := by decide +kernel
theorem dX8_init_5 : decode cX8_init 5 = .ok (.new 9, 3) := by decide +kernel
theorem dX8_init_8 : decode cX8_init 8 = .ok (.dup, 1) := by decide +kernel
theorem dX8_init_9 : decode cX8_init 9 = .ok (.iload_n 1, 1) := by decide +kernel
theorem dX8_init_10 : decode cX8_init 10 = .ok (.iload_n 2, 1) := by decide +kernel
theorem dX8_init_11 : decode cX8_init 11 = .ok (.invokespecial 11, 3) := by decide +kernel
