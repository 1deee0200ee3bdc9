theorem dX1_init_0 : decode cX1_init 0 = .ok (.aload_n 0, 1) := by decide +kernel
theorem dX1_init_1 : decode cX1_init 1 = .ok (.invokespecial 3, 3) := by decide +kernel
theorem dX1_init_4 : decode cX1_init 4 = .ok (.aload_n 0, 1) := by decide +kernel
theorem dX1_init_5 : decode cX1_init 5 = .ok (.bipush 16, 2) := by decide +kernel
theorem dX1_init_7 : decode cX1_init 7 = .ok (.newarray .int, 2) := by decide +kernel
theorem dX1_init_9 : decode cX1_init 9 = .ok (.putfield 9, 3) := by decide +kernel
theorem dX1_init_12 : decode cX1_init 12 = .ok (.aload_n 0, 1) := by decide +kernel
theorem dX1_init_13 : decode cX1_init 13 = .ok (.bipush 16, 2) := by decide +kernel
theorem dX1_init_15 : decode cX1_init 15 = .ok (.newarray .int, 2) := by decide +kernel
theorem dX1_init_17 : decode cX1_init 17 = .ok (.putfield 15, 3) := by decide +kernel
theorem dX1_init_20 : decode cX1_init 20 = .ok (.aload_n 0, 1) := by decide +kernel
theorem dX1_init_21 : decode cX1_init 21 = .ok (.bipush 16, 2) := by decide +kernel
theorem dX1_init_23 : decode cX1_init 23 = .ok (.newarray .int, 2) := by decide +kernel
theorem dX1_init_25 : decode cX1_init 25 = .ok (.putfield 18, 3) := by decide +kernel
theorem dX1_init_28 : decode cX1_init 28 = .ok (.aload_n 0, 1) := by decide +kernel
theorem dX1_init_29 : decode cX1_init 29 = .ok (.bipush 16, 2) := by decide +kernel
theorem dX1_init_31 : decode cX1_init 31 = .ok (.newarray .int, 2) := by decide +kernel
theorem dX1_init_33 : decode cX1_init 33 = .ok (.putfield 21, 3) := by decide +kernel
theorem dX1_init_36 : decode cX1_init 36 = .ok (.aload_n 0, 1) := by decide +kernel
theorem dX1_init_37 : decode cX1_init 37 = .ok (.bipush 16, 2) := by decide +kernel
theorem dX1_init_39 : decode cX1_init 39 = .ok (.newarray .int, 2) := by decide +kernel
theorem dX1_init_41 : decode cX1_init 41 = .ok (.putfield 24, 3) := by decide +kernel
theorem dX1_init_44 : decode cX1_init 44 = .ok (.return_, 1) := by decide +kernel
theorem dX1_allWeights_0 : decode cX1_allWeights 0 = .ok (.iload_n 0, 1) := by decide +kernel
theorem dX1_allWeights_1 : decode cX1_allWeights 1 = .ok (.iconst 1, 1) := by decide +kernel
theorem dX1_allWeights_2 : decode cX1_allWeights 2 = .ok (.iadd, 1) := by decide +kernel
theorem dX1_allWeights_3 : decode cX1_allWeights 3 = .ok (.iload_n 0, 1) := by decide +kernel
theorem dX1_allWeights_4 : decode cX1_allWeights 4 = .ok (.iconst 1, 1) := by decide +kernel
theorem dX1_allWeights_5 : decode cX1_allWeights 5 = .ok (.iadd, 1) := by decide +kernel
theorem dX1_allWeights_6 : decode cX1_allWeights 6 = .ok (.imul, 1) := by decide +kernel
theorem dX1_allWeights_7 : decode cX1_allWeights 7 = .ok (.ireturn, 1) := by decide +kernel
theorem dX1_isLens_0 : decode cX1_isLens 0 = .ok (.iload_n 1, 1) := by decide +kernel
theorem dX1_isLens_1 : decode cX1_isLens 1 = .ok (.iconst 0, 1) := by decide +kernel
theorem dX1_isLens_2 : decode cX1_isLens 2 = .ok (.aload_n 0, 1) := by decide +kernel
theorem dX1_isLens_3 : decode cX1_isLens 3 = .ok (.getfield 27, 3) := by decide +kernel
theorem dX1_isLens_6 : decode cX1_isLens 6 = .ok (.iconst 1, 1) := by decide +kernel
theorem dX1_isLens_7 : decode cX1_isLens 7 = .ok (.isub, 1) := by decide +kernel
theorem dX1_isLens_8 : decode cX1_isLens 8 = .ok (.invokestatic 31, 3) := by decide +kernel
theorem dX1_isLens_11 : decode cX1_isLens 11 = .ok (.ireturn, 1) := by decide +kernel
theorem dX1_weightOf_0 : decode cX1_weightOf 0 = .ok (.iload_n 2, 1) := by decide +kernel
theorem dX1_weightOf_1 : decode cX1_weightOf 1 = .ok (.aload_n 0, 1) := by decide +kernel
theorem dX1_weightOf_2 : decode cX1_weightOf 2 = .ok (.getfield 9, 3) := by decide +kernel
theorem dX1_weightOf_5 : decode cX1_weightOf 5 = .ok (.iload_n 1, 1) := by decide +kernel
theorem dX1_weightOf_6 : decode cX1_weightOf 6 = .ok (.iaload, 1) := by decide +kernel
theorem dX1_weightOf_7 : decode cX1_weightOf 7 = .ok (.isub, 1) := by decide +kernel
theorem dX1_weightOf_8 : decode cX1_weightOf 8 = .ok (.bipush 63, 2) := by decide +kernel
theorem dX1_weightOf_10 : decode cX1_weightOf 10 = .ok (.iand, 1) := by decide +kernel
theorem dX1_weightOf_11 : decode cX1_weightOf 11 = .ok (.istore_n 3, 1) := by decide +kernel
theorem dX1_weightOf_12 : decode cX1_weightOf 12 = .ok (.iconst 0, 1) := by decide +kernel
theorem dX1_weightOf_13 : decode cX1_weightOf 13 = .ok (.aload_n 0, 1) := by decide +kernel
theorem dX1_weightOf_14 : decode cX1_weightOf 14 = .ok (.getfield 15, 3) := by decide +kernel
theorem dX1_weightOf_17 : decode cX1_weightOf 17 = .ok (.iload_n 1, 1) := by decide +kernel
theorem dX1_weightOf_18 : decode cX1_weightOf 18 = .ok (.iaload, 1) := by decide +kernel
theorem dX1_weightOf_19 : decode cX1_weightOf 19 = .ok (.iconst 1, 1) := by decide +kernel
theorem dX1_weightOf_20 : decode cX1_weightOf 20 = .ok (.iadd, 1) := by decide +kernel
theorem dX1_weightOf_21 : decode cX1_weightOf 21 = .ok (.iload_n 3, 1) := by decide +kernel
theorem dX1_weightOf_22 : decode cX1_weightOf 22 = .ok (.bipush 64, 2) := by decide +kernel
theorem dX1_weightOf_24 : decode cX1_weightOf 24 = .ok (.iload_n 3, 1) := by decide +kernel
theorem dX1_weightOf_25 : decode cX1_weightOf 25 = .ok (.isub, 1) := by decide +kernel
theorem dX1_weightOf_26 : decode cX1_weightOf 26 = .ok (.invokestatic 35, 3) := by decide +kernel
theorem dX1_weightOf_29 : decode cX1_weightOf 29 = .ok (.isub, 1) := by decide +kernel
theorem dX1_weightOf_30 : decode cX1_weightOf 30 = .ok (.invokestatic 41, 3) := by decide +kernel
theorem dX1_weightOf_33 : decode cX1_weightOf 33 = .ok (.ireturn, 1) := by decide +kernel
theorem dX1_lensesTo_0 : decode cX1_lensesTo 0 = .ok (.iconst 0, 1) := by decide +kernel
theorem dX1_lensesTo_1 : decode cX1_lensesTo 1 = .ok (.istore_n 2, 1) := by decide +kernel
theorem dX1_lensesTo_2 : decode cX1_lensesTo 2 = .ok (.iconst 0, 1) := by decide +kernel
theorem dX1_lensesTo_3 : decode cX1_lensesTo 3 = .ok (.istore_n 3, 1) := by decide +kernel
theorem dX1_lensesTo_4 : decode cX1_lensesTo 4 = .ok (.iload_n 3, 1) := by decide +kernel
theorem dX1_lensesTo_5 : decode cX1_lensesTo 5 = .ok (.aload_n 0, 1) := by decide +kernel
theorem dX1_lensesTo_6 : decode cX1_lensesTo 6 = .ok (.getfield 27, 3) := by decide +kernel
theorem dX1_lensesTo_9 : decode cX1_lensesTo 9 = .ok (.if_icmp .ge 21, 3) := by decide +kernel
theorem dX1_lensesTo_12 : decode cX1_lensesTo 12 = .ok (.aload_n 0, 1) := by decide +kernel
theorem dX1_lensesTo_13 : decode cX1_lensesTo 13 = .ok (.iload_n 3, 1) := by decide +kernel
theorem dX1_lensesTo_14 : decode cX1_lensesTo 14 = .ok (.iload_n 1, 1) := by decide +kernel
theorem dX1_lensesTo_15 : decode cX1_lensesTo 15 = .ok (.invokevirtual 44, 3) := by decide +kernel
theorem dX1_lensesTo_18 : decode cX1_lensesTo 18 = .ok (.ifCond .le 6, 3) := by decide +kernel
theorem dX1_lensesTo_21 : decode cX1_lensesTo 21 = .ok (.iinc 2 1, 3) := by decide +kernel
theorem dX1_lensesTo_24 : decode cX1_lensesTo 24 = .ok (.iinc 3 1, 3) := by decide +kernel
theorem dX1_lensesTo_27 : decode cX1_lensesTo 27 = .ok (.goto (-23), 3) := by decide +kernel
theorem dX1_lensesTo_30 : decode cX1_lensesTo 30 = .ok (.iload_n 2, 1) := by decide +kernel
theorem dX1_lensesTo_31 : decode cX1_lensesTo 31 = .ok (.ireturn, 1) := by decide +kernel
theorem dX1_sidesUnseen_0 : decode cX1_sidesUnseen 0 = .ok (.iconst 0, 1) := by decide +kernel
theorem dX1_sidesUnseen_1 : decode cX1_sidesUnseen 1 = .ok (.istore_n 1, 1) := by decide +kernel
theorem dX1_sidesUnseen_2 : decode cX1_sidesUnseen 2 = .ok (.iconst 0, 1) := by decide +kernel
theorem dX1_sidesUnseen_3 : decode cX1_sidesUnseen 3 = .ok (.istore_n 2, 1) := by decide +kernel
theorem dX1_sidesUnseen_4 : decode cX1_sidesUnseen 4 = .ok (.iload_n 2, 1) := by decide +kernel
theorem dX1_sidesUnseen_5 : decode cX1_sidesUnseen 5 = .ok (.bipush 64, 2) := by decide +kernel
theorem dX1_sidesUnseen_7 : decode cX1_sidesUnseen 7 = .ok (.if_icmp .ge 20, 3) := by decide +kernel
theorem dX1_sidesUnseen_10 : decode cX1_sidesUnseen 10 = .ok (.aload_n 0, 1) := by decide +kernel
theorem dX1_sidesUnseen_11 : decode cX1_sidesUnseen 11 = .ok (.iload_n 2, 1) := by decide +kernel
theorem dX1_sidesUnseen_12 : decode cX1_sidesUnseen 12 = .ok (.invokevirtual 47, 3) := by decide +kernel
theorem dX1_sidesUnseen_15 : decode cX1_sidesUnseen 15 = .ok (.ifCond .ne 6, 3) := by decide +kernel
theorem dX1_sidesUnseen_18 : decode cX1_sidesUnseen 18 = .ok (.iinc 1 1, 3) := by decide +kernel
theorem dX1_sidesUnseen_21 : decode cX1_sidesUnseen 21 = .ok (.iinc 2 1, 3) := by decide +kernel
theorem dX1_sidesUnseen_24 : decode cX1_sidesUnseen 24 = .ok (.goto (-20), 3) := by decide +kernel
theorem dX1_sidesUnseen_27 : decode cX1_sidesUnseen 27 = .ok (.iload_n 1, 1) := by decide +kernel
theorem dX1_sidesUnseen_28 : decode cX1_sidesUnseen 28 = .ok (.ireturn, 1) := by decide +kernel
theorem dX1_copyFrom_0 : decode cX1_copyFrom 0 = .ok (.aload_n 1, 1) := by decide +kernel
theorem dX1_copyFrom_1 : decode cX1_copyFrom 1 = .ok (.getfield 9, 3) := by decide +kernel
theorem dX1_copyFrom_4 : decode cX1_copyFrom 4 = .ok (.aload_n 0, 1) := by decide +kernel
theorem dX1_copyFrom_5 : decode cX1_copyFrom 5 = .ok (.getfield 9, 3) := by decide +kernel
theorem dX1_copyFrom_8 : decode cX1_copyFrom 8 = .ok (.invokestatic 51, 3) := by decide +kernel
theorem dX1_copyFrom_11 : decode cX1_copyFrom 11 = .ok (.aload_n 1, 1) := by decide +kernel
theorem dX1_copyFrom_12 : decode cX1_copyFrom 12 = .ok (.getfield 15, 3) := by decide +kernel
theorem dX1_copyFrom_15 : decode cX1_copyFrom 15 = .ok (.aload_n 0, 1) := by decide +kernel
theorem dX1_copyFrom_16 : decode cX1_copyFrom 16 = .ok (.getfield 15, 3) := by decide +kernel
theorem dX1_copyFrom_19 : decode cX1_copyFrom 19 = .ok (.invokestatic 51, 3) := by decide +kernel
theorem dX1_copyFrom_22 : decode cX1_copyFrom 22 = .ok (.aload_n 1, 1) := by decide +kernel
theorem dX1_copyFrom_23 : decode cX1_copyFrom 23 = .ok (.getfield 18, 3) := by decide +kernel
theorem dX1_copyFrom_26 : decode cX1_copyFrom 26 = .ok (.aload_n 0, 1) := by decide +kernel
theorem dX1_copyFrom_27 : decode cX1_copyFrom 27 = .ok (.getfield 18, 3) := by decide +kernel
theorem dX1_copyFrom_30 : decode cX1_copyFrom 30 = .ok (.invokestatic 51, 3) := by decide +kernel
theorem dX1_copyFrom_33 : decode cX1_copyFrom 33 = .ok (.aload_n 1, 1) := by decide +kernel
theorem dX1_copyFrom_34 : decode cX1_copyFrom 34 = .ok (.getfield 21, 3) := by decide +kernel
theorem dX1_copyFrom_37 : decode cX1_copyFrom 37 = .ok (.aload_n 0, 1) := by decide +kernel
theorem dX1_copyFrom_38 : decode cX1_copyFrom 38 = .ok (.getfield 21, 3) := by decide +kernel
theorem dX1_copyFrom_41 : decode cX1_copyFrom 41 = .ok (.invokestatic 51, 3) := by decide +kernel
theorem dX1_copyFrom_44 : decode cX1_copyFrom 44 = .ok (.aload_n 1, 1) := by decide +kernel
theorem dX1_copyFrom_45 : decode cX1_copyFrom 45 = .ok (.getfield 24, 3) := by decide +kernel
theorem dX1_copyFrom_48 : decode cX1_copyFrom 48 = .ok (.aload_n 0, 1) := by decide +kernel
theorem dX1_copyFrom_49 : decode cX1_copyFrom 49 = .ok (.getfield 24, 3) := by decide +kernel
theorem dX1_copyFrom_52 : decode cX1_copyFrom 52 = .ok (.invokestatic 51, 3) := by decide +kernel
theorem dX1_copyFrom_55 : decode cX1_copyFrom 55 = .ok (.aload_n 0, 1) := by decide +kernel
theorem dX1_copyFrom_56 : decode cX1_copyFrom 56 = .ok (.aload_n 1, 1) := by decide +kernel
theorem dX1_copyFrom_57 : decode cX1_copyFrom 57 = .ok (.getfield 27, 3) := by decide +kernel
theorem dX1_copyFrom_60 : decode cX1_copyFrom 60 = .ok (.putfield 27, 3) := by decide +kernel
theorem dX1_copyFrom_63 : decode cX1_copyFrom 63 = .ok (.aload_n 0, 1) := by decide +kernel
theorem dX1_copyFrom_64 : decode cX1_copyFrom 64 = .ok (.aload_n 1, 1) := by decide +kernel
theorem dX1_copyFrom_65 : decode cX1_copyFrom 65 = .ok (.getfield 55, 3) := by decide +kernel
theorem dX1_copyFrom_68 : decode cX1_copyFrom 68 = .ok (.putfield 55, 3) := by decide +kernel
theorem dX1_copyFrom_71 : decode cX1_copyFrom 71 = .ok (.return_, 1) := by decide +kernel
theorem dX2_init_0 : decode cX2_init 0 = .ok (.aload_n 0, 1) := by decide +kernel
theorem dX2_init_1 : decode cX2_init 1 = .ok (.invokespecial 3, 3) := by decide +kernel
theorem dX2_init_4 : decode cX2_init 4 = .ok (.aload_n 0, 1) := by decide +kernel
theorem dX2_init_5 : decode cX2_init 5 = .ok (.sipush 300, 3) := by decide +kernel
theorem dX2_init_8 : decode cX2_init 8 = .ok (.newarray .int, 2) := by decide +kernel
theorem dX2_init_10 : decode cX2_init 10 = .ok (.putfield 11, 3) := by decide +kernel
theorem dX2_init_13 : decode cX2_init 13 = .ok (.aload_n 0, 1) := by decide +kernel
theorem dX2_init_14 : decode cX2_init 14 = .ok (.sipush 960, 3) := by decide +kernel
theorem dX2_init_17 : decode cX2_init 17 = .ok (.newarray .int, 2) := by decide +kernel
theorem dX2_init_19 : decode cX2_init 19 = .ok (.putfield 15, 3) := by decide +kernel
theorem dX2_init_22 : decode cX2_init 22 = .ok (.return_, 1) := by decide +kernel
theorem dX2_note_0 : decode cX2_note 0 = .ok (.aload_n 0, 1) := by decide +kernel
theorem dX2_note_1 : decode cX2_note 1 = .ok (.getfield 18, 3) := by decide +kernel
theorem dX2_note_4 : decode cX2_note 4 = .ok (.iconst 5, 1) := by decide +kernel
theorem dX2_note_5 : decode cX2_note 5 = .ok (.imul, 1) := by decide +kernel
theorem dX2_note_6 : decode cX2_note 6 = .ok (.istore_n 3, 1) := by decide +kernel
theorem dX2_note_7 : decode cX2_note 7 = .ok (.iload_n 3, 1) := by decide +kernel
theorem dX2_note_8 : decode cX2_note 8 = .ok (.iconst 5, 1) := by decide +kernel
theorem dX2_note_9 : decode cX2_note 9 = .ok (.iadd, 1) := by decide +kernel
theorem dX2_note_10 : decode cX2_note 10 = .ok (.aload_n 0, 1) := by decide +kernel
theorem dX2_note_11 : decode cX2_note 11 = .ok (.getfield 11, 3) := by decide +kernel
theorem dX2_note_14 : decode cX2_note 14 = .ok (.arraylength, 1) := by decide +kernel
theorem dX2_note_15 : decode cX2_note 15 = .ok (.if_icmp .gt 55, 3) := by decide +kernel
theorem dX2_note_18 : decode cX2_note 18 = .ok (.aload_n 0, 1) := by decide +kernel
theorem dX2_note_19 : decode cX2_note 19 = .ok (.getfield 11, 3) := by decide +kernel
theorem dX2_note_22 : decode cX2_note 22 = .ok (.iload_n 3, 1) := by decide +kernel
theorem dX2_note_23 : decode cX2_note 23 = .ok (.iload_n 1, 1) := by decide +kernel
theorem dX2_note_24 : decode cX2_note 24 = .ok (.iastore, 1) := by decide +kernel
theorem dX2_note_25 : decode cX2_note 25 = .ok (.aload_n 0, 1) := by decide +kernel
theorem dX2_note_26 : decode cX2_note 26 = .ok (.getfield 11, 3) := by decide +kernel
theorem dX2_note_29 : decode cX2_note 29 = .ok (.iload_n 3, 1) := by decide +kernel
theorem dX2_note_30 : decode cX2_note 30 = .ok (.iconst 1, 1) := by decide +kernel
theorem dX2_note_31 : decode cX2_note 31 = .ok (.iadd, 1) := by decide +kernel
theorem dX2_note_32 : decode cX2_note 32 = .ok (.iload_n 2, 1) := by decide +kernel
theorem dX2_note_33 : decode cX2_note 33 = .ok (.iastore, 1) := by decide +kernel
theorem dX2_note_34 : decode cX2_note 34 = .ok (.aload_n 0, 1) := by decide +kernel
theorem dX2_note_35 : decode cX2_note 35 = .ok (.getfield 11, 3) := by decide +kernel
theorem dX2_note_38 : decode cX2_note 38 = .ok (.iload_n 3, 1) := by decide +kernel
theorem dX2_note_39 : decode cX2_note 39 = .ok (.iconst 2, 1) := by decide +kernel
theorem dX2_note_40 : decode cX2_note 40 = .ok (.iadd, 1) := by decide +kernel
theorem dX2_note_41 : decode cX2_note 41 = .ok (.aload_n 0, 1) := by decide +kernel
theorem dX2_note_42 : decode cX2_note 42 = .ok (.getfield 22, 3) := by decide +kernel
theorem dX2_note_45 : decode cX2_note 45 = .ok (.iastore, 1) := by decide +kernel
theorem dX2_note_46 : decode cX2_note 46 = .ok (.aload_n 0, 1) := by decide +kernel
theorem dX2_note_47 : decode cX2_note 47 = .ok (.getfield 11, 3) := by decide +kernel
theorem dX2_note_50 : decode cX2_note 50 = .ok (.iload_n 3, 1) := by decide +kernel
theorem dX2_note_51 : decode cX2_note 51 = .ok (.iconst 3, 1) := by decide +kernel
theorem dX2_note_52 : decode cX2_note 52 = .ok (.iadd, 1) := by decide +kernel
theorem dX2_note_53 : decode cX2_note 53 = .ok (.aload_n 0, 1) := by decide +kernel
theorem dX2_note_54 : decode cX2_note 54 = .ok (.getfield 25, 3) := by decide +kernel
theorem dX2_note_57 : decode cX2_note 57 = .ok (.iastore, 1) := by decide +kernel
theorem dX2_note_58 : decode cX2_note 58 = .ok (.aload_n 0, 1) := by decide +kernel
theorem dX2_note_59 : decode cX2_note 59 = .ok (.getfield 11, 3) := by decide +kernel
theorem dX2_note_62 : decode cX2_note 62 = .ok (.iload_n 3, 1) := by decide +kernel
theorem dX2_note_63 : decode cX2_note 63 = .ok (.iconst 4, 1) := by decide +kernel
theorem dX2_note_64 : decode cX2_note 64 = .ok (.iadd, 1) := by decide +kernel
theorem dX2_note_65 : decode cX2_note 65 = .ok (.aload_n 0, 1) := by decide +kernel
theorem dX2_note_66 : decode cX2_note 66 = .ok (.getfield 28, 3) := by decide +kernel
theorem dX2_note_69 : decode cX2_note 69 = .ok (.iastore, 1) := by decide +kernel
theorem dX2_note_70 : decode cX2_note 70 = .ok (.return_, 1) := by decide +kernel
theorem dX2_noted_0 : decode cX2_noted 0 = .ok (.iload_n 1, 1) := by decide +kernel
theorem dX2_noted_1 : decode cX2_noted 1 = .ok (.iconst 5, 1) := by decide +kernel
theorem dX2_noted_2 : decode cX2_noted 2 = .ok (.imul, 1) := by decide +kernel
theorem dX2_noted_3 : decode cX2_noted 3 = .ok (.iload_n 2, 1) := by decide +kernel
theorem dX2_noted_4 : decode cX2_noted 4 = .ok (.iadd, 1) := by decide +kernel
theorem dX2_noted_5 : decode cX2_noted 5 = .ok (.istore_n 3, 1) := by decide +kernel
theorem dX2_noted_6 : decode cX2_noted 6 = .ok (.iload_n 3, 1) := by decide +kernel
theorem dX2_noted_7 : decode cX2_noted 7 = .ok (.ifCond .lt 21, 3) := by decide +kernel
theorem dX2_noted_10 : decode cX2_noted 10 = .ok (.iload_n 3, 1) := by decide +kernel
theorem dX2_noted_11 : decode cX2_noted 11 = .ok (.aload_n 0, 1) := by decide +kernel
theorem dX2_noted_12 : decode cX2_noted 12 = .ok (.getfield 11, 3) := by decide +kernel
theorem dX2_noted_15 : decode cX2_noted 15 = .ok (.arraylength, 1) := by decide +kernel
theorem dX2_noted_16 : decode cX2_noted 16 = .ok (.if_icmp .ge 12, 3) := by decide +kernel
theorem dX2_noted_19 : decode cX2_noted 19 = .ok (.aload_n 0, 1) := by decide +kernel
theorem dX2_noted_20 : decode cX2_noted 20 = .ok (.getfield 11, 3) := by decide +kernel
theorem dX2_noted_23 : decode cX2_noted 23 = .ok (.iload_n 3, 1) := by decide +kernel
theorem dX2_noted_24 : decode cX2_noted 24 = .ok (.iaload, 1) := by decide +kernel
theorem dX2_noted_25 : decode cX2_noted 25 = .ok (.goto 4, 3) := by decide +kernel
theorem dX2_noted_28 : decode cX2_noted 28 = .ok (.iconst 0, 1) := by decide +kernel
theorem dX2_noted_29 : decode cX2_noted 29 = .ok (.ireturn, 1) := by decide +kernel
theorem dX2_takenBy_0 : decode cX2_takenBy 0 = .ok (.iload_n 2, 1) := by decide +kernel
theorem dX2_takenBy_1 : decode cX2_takenBy 1 = .ok (.bipush 16, 2) := by decide +kernel
theorem dX2_takenBy_3 : decode cX2_takenBy 3 = .ok (.imul, 1) := by decide +kernel
theorem dX2_takenBy_4 : decode cX2_takenBy 4 = .ok (.iload_n 1, 1) := by decide +kernel
theorem dX2_takenBy_5 : decode cX2_takenBy 5 = .ok (.iadd, 1) := by decide +kernel
theorem dX2_takenBy_6 : decode cX2_takenBy 6 = .ok (.istore_n 3, 1) := by decide +kernel
theorem dX2_takenBy_7 : decode cX2_takenBy 7 = .ok (.iload_n 1, 1) := by decide +kernel
theorem dX2_takenBy_8 : decode cX2_takenBy 8 = .ok (.ifCond .lt 33, 3) := by decide +kernel
theorem dX2_takenBy_11 : decode cX2_takenBy 11 = .ok (.iload_n 1, 1) := by decide +kernel
theorem dX2_takenBy_12 : decode cX2_takenBy 12 = .ok (.aload_n 0, 1) := by decide +kernel
theorem dX2_takenBy_13 : decode cX2_takenBy 13 = .ok (.getfield 31, 3) := by decide +kernel
theorem dX2_takenBy_16 : decode cX2_takenBy 16 = .ok (.if_icmp .ge 25, 3) := by decide +kernel
theorem dX2_takenBy_19 : decode cX2_takenBy 19 = .ok (.iload_n 3, 1) := by decide +kernel
theorem dX2_takenBy_20 : decode cX2_takenBy 20 = .ok (.ifCond .lt 21, 3) := by decide +kernel
theorem dX2_takenBy_23 : decode cX2_takenBy 23 = .ok (.iload_n 3, 1) := by decide +kernel
theorem dX2_takenBy_24 : decode cX2_takenBy 24 = .ok (.aload_n 0, 1) := by decide +kernel
theorem dX2_takenBy_25 : decode cX2_takenBy 25 = .ok (.getfield 15, 3) := by decide +kernel
theorem dX2_takenBy_28 : decode cX2_takenBy 28 = .ok (.arraylength, 1) := by decide +kernel
theorem dX2_takenBy_29 : decode cX2_takenBy 29 = .ok (.if_icmp .ge 12, 3) := by decide +kernel
theorem dX2_takenBy_32 : decode cX2_takenBy 32 = .ok (.aload_n 0, 1) := by decide +kernel
theorem dX2_takenBy_33 : decode cX2_takenBy 33 = .ok (.getfield 15, 3) := by decide +kernel
theorem dX2_takenBy_36 : decode cX2_takenBy 36 = .ok (.iload_n 3, 1) := by decide +kernel
theorem dX2_takenBy_37 : decode cX2_takenBy 37 = .ok (.iaload, 1) := by decide +kernel
theorem dX2_takenBy_38 : decode cX2_takenBy 38 = .ok (.goto 4, 3) := by decide +kernel
theorem dX2_takenBy_41 : decode cX2_takenBy 41 = .ok (.iconst 0, 1) := by decide +kernel
theorem dX2_takenBy_42 : decode cX2_takenBy 42 = .ok (.ireturn, 1) := by decide +kernel
theorem dX2_comparedBy_0 : decode cX2_comparedBy 0 = .ok (.iload_n 2, 1) := by decide +kernel
theorem dX2_comparedBy_1 : decode cX2_comparedBy 1 = .ok (.iconst 0, 1) := by decide +kernel
theorem dX2_comparedBy_2 : decode cX2_comparedBy 2 = .ok (.aload_n 0, 1) := by decide +kernel
theorem dX2_comparedBy_3 : decode cX2_comparedBy 3 = .ok (.getfield 34, 3) := by decide +kernel
theorem dX2_comparedBy_6 : decode cX2_comparedBy 6 = .ok (.iconst 1, 1) := by decide +kernel
theorem dX2_comparedBy_7 : decode cX2_comparedBy 7 = .ok (.isub, 1) := by decide +kernel
theorem dX2_comparedBy_8 : decode cX2_comparedBy 8 = .ok (.invokestatic 37, 3) := by decide +kernel
theorem dX2_comparedBy_11 : decode cX2_comparedBy 11 = .ok (.ifCond .eq 13, 3) := by decide +kernel
theorem dX2_comparedBy_14 : decode cX2_comparedBy 14 = .ok (.iload_n 3, 1) := by decide +kernel
theorem dX2_comparedBy_15 : decode cX2_comparedBy 15 = .ok (.aload_n 1, 1) := by decide +kernel
theorem dX2_comparedBy_16 : decode cX2_comparedBy 16 = .ok (.getfield 41, 3) := by decide +kernel
theorem dX2_comparedBy_19 : decode cX2_comparedBy 19 = .ok (.iload_n 2, 1) := by decide +kernel
theorem dX2_comparedBy_20 : decode cX2_comparedBy 20 = .ok (.iaload, 1) := by decide +kernel
theorem dX2_comparedBy_21 : decode cX2_comparedBy 21 = .ok (.if_icmp .ge 5, 3) := by decide +kernel
theorem dX2_comparedBy_24 : decode cX2_comparedBy 24 = .ok (.iconst 0, 1) := by decide +kernel
theorem dX2_comparedBy_25 : decode cX2_comparedBy 25 = .ok (.ireturn, 1) := by decide +kernel
theorem dX2_comparedBy_26 : decode cX2_comparedBy 26 = .ok (.iload_n 3, 1) := by decide +kernel
theorem dX2_comparedBy_27 : decode cX2_comparedBy 27 = .ok (.aload_n 1, 1) := by decide +kernel
theorem dX2_comparedBy_28 : decode cX2_comparedBy 28 = .ok (.getfield 41, 3) := by decide +kernel
theorem dX2_comparedBy_31 : decode cX2_comparedBy 31 = .ok (.iload_n 2, 1) := by decide +kernel
theorem dX2_comparedBy_32 : decode cX2_comparedBy 32 = .ok (.iaload, 1) := by decide +kernel
theorem dX2_comparedBy_33 : decode cX2_comparedBy 33 = .ok (.isub, 1) := by decide +kernel
theorem dX2_comparedBy_34 : decode cX2_comparedBy 34 = .ok (.istore 4, 2) := by decide +kernel
theorem dX2_comparedBy_36 : decode cX2_comparedBy 36 = .ok (.aload_n 1, 1) := by decide +kernel
theorem dX2_comparedBy_37 : decode cX2_comparedBy 37 = .ok (.getfield 46, 3) := by decide +kernel
theorem dX2_comparedBy_40 : decode cX2_comparedBy 40 = .ok (.iload_n 2, 1) := by decide +kernel
theorem dX2_comparedBy_41 : decode cX2_comparedBy 41 = .ok (.iaload, 1) := by decide +kernel
theorem dX2_comparedBy_42 : decode cX2_comparedBy 42 = .ok (.istore 5, 2) := by decide +kernel
theorem dX2_comparedBy_44 : decode cX2_comparedBy 44 = .ok (.aload_n 1, 1) := by decide +kernel
theorem dX2_comparedBy_45 : decode cX2_comparedBy 45 = .ok (.getfield 49, 3) := by decide +kernel
theorem dX2_comparedBy_48 : decode cX2_comparedBy 48 = .ok (.iload_n 2, 1) := by decide +kernel
theorem dX2_comparedBy_49 : decode cX2_comparedBy 49 = .ok (.iaload, 1) := by decide +kernel
theorem dX2_comparedBy_50 : decode cX2_comparedBy 50 = .ok (.istore 6, 2) := by decide +kernel
theorem dX2_comparedBy_52 : decode cX2_comparedBy 52 = .ok (.aload_n 0, 1) := by decide +kernel
theorem dX2_comparedBy_53 : decode cX2_comparedBy 53 = .ok (.iload 5, 2) := by decide +kernel
theorem dX2_comparedBy_55 : decode cX2_comparedBy 55 = .ok (.iload 4, 2) := by decide +kernel
theorem dX2_comparedBy_57 : decode cX2_comparedBy 57 = .ok (.invokevirtual 52, 3) := by decide +kernel
theorem dX2_comparedBy_60 : decode cX2_comparedBy 60 = .ok (.aload_n 0, 1) := by decide +kernel
theorem dX2_comparedBy_61 : decode cX2_comparedBy 61 = .ok (.iload 6, 2) := by decide +kernel
theorem dX2_comparedBy_63 : decode cX2_comparedBy 63 = .ok (.iload_n 3, 1) := by decide +kernel
theorem dX2_comparedBy_64 : decode cX2_comparedBy 64 = .ok (.invokevirtual 52, 3) := by decide +kernel
theorem dX2_comparedBy_67 : decode cX2_comparedBy 67 = .ok (.imul, 1) := by decide +kernel
theorem dX2_comparedBy_68 : decode cX2_comparedBy 68 = .ok (.aload_n 0, 1) := by decide +kernel
theorem dX2_comparedBy_69 : decode cX2_comparedBy 69 = .ok (.iload 5, 2) := by decide +kernel
theorem dX2_comparedBy_71 : decode cX2_comparedBy 71 = .ok (.iload_n 3, 1) := by decide +kernel
theorem dX2_comparedBy_72 : decode cX2_comparedBy 72 = .ok (.invokevirtual 52, 3) := by decide +kernel
theorem dX2_comparedBy_75 : decode cX2_comparedBy 75 = .ok (.aload_n 0, 1) := by decide +kernel
theorem dX2_comparedBy_76 : decode cX2_comparedBy 76 = .ok (.iload 6, 2) := by decide +kernel
theorem dX2_comparedBy_78 : decode cX2_comparedBy 78 = .ok (.iload 4, 2) := by decide +kernel
theorem dX2_comparedBy_80 : decode cX2_comparedBy 80 = .ok (.invokevirtual 52, 3) := by decide +kernel
theorem dX2_comparedBy_83 : decode cX2_comparedBy 83 = .ok (.imul, 1) := by decide +kernel
theorem dX2_comparedBy_84 : decode cX2_comparedBy 84 = .ok (.isub, 1) := by decide +kernel
theorem dX2_comparedBy_85 : decode cX2_comparedBy 85 = .ok (.ireturn, 1) := by decide +kernel
theorem dX2_copyFrom_0 : decode cX2_copyFrom 0 = .ok (.aload_n 1, 1) := by decide +kernel
theorem dX2_copyFrom_1 : decode cX2_copyFrom 1 = .ok (.getfield 11, 3) := by decide +kernel
theorem dX2_copyFrom_4 : decode cX2_copyFrom 4 = .ok (.aload_n 0, 1) := by decide +kernel
theorem dX2_copyFrom_5 : decode cX2_copyFrom 5 = .ok (.getfield 11, 3) := by decide +kernel
theorem dX2_copyFrom_8 : decode cX2_copyFrom 8 = .ok (.invokestatic 56, 3) := by decide +kernel
theorem dX2_copyFrom_11 : decode cX2_copyFrom 11 = .ok (.aload_n 1, 1) := by decide +kernel
theorem dX2_copyFrom_12 : decode cX2_copyFrom 12 = .ok (.getfield 15, 3) := by decide +kernel
theorem dX2_copyFrom_15 : decode cX2_copyFrom 15 = .ok (.aload_n 0, 1) := by decide +kernel
theorem dX2_copyFrom_16 : decode cX2_copyFrom 16 = .ok (.getfield 15, 3) := by decide +kernel
theorem dX2_copyFrom_19 : decode cX2_copyFrom 19 = .ok (.invokestatic 56, 3) := by decide +kernel
theorem dX2_copyFrom_22 : decode cX2_copyFrom 22 = .ok (.aload_n 0, 1) := by decide +kernel
theorem dX2_copyFrom_23 : decode cX2_copyFrom 23 = .ok (.aload_n 1, 1) := by decide +kernel
theorem dX2_copyFrom_24 : decode cX2_copyFrom 24 = .ok (.getfield 60, 3) := by decide +kernel
theorem dX2_copyFrom_27 : decode cX2_copyFrom 27 = .ok (.putfield 60, 3) := by decide +kernel
theorem dX2_copyFrom_30 : decode cX2_copyFrom 30 = .ok (.aload_n 0, 1) := by decide +kernel
theorem dX2_copyFrom_31 : decode cX2_copyFrom 31 = .ok (.aload_n 1, 1) := by decide +kernel
theorem dX2_copyFrom_32 : decode cX2_copyFrom 32 = .ok (.getfield 64, 3) := by decide +kernel
theorem dX2_copyFrom_35 : decode cX2_copyFrom 35 = .ok (.putfield 64, 3) := by decide +kernel
theorem dX2_copyFrom_38 : decode cX2_copyFrom 38 = .ok (.aload_n 0, 1) := by decide +kernel
theorem dX2_copyFrom_39 : decode cX2_copyFrom 39 = .ok (.aload_n 1, 1) := by decide +kernel
theorem dX2_copyFrom_40 : decode cX2_copyFrom 40 = .ok (.getfield 67, 3) := by decide +kernel
theorem dX2_copyFrom_43 : decode cX2_copyFrom 43 = .ok (.putfield 67, 3) := by decide +kernel
theorem dX2_copyFrom_46 : decode cX2_copyFrom 46 = .ok (.aload_n 0, 1) := by decide +kernel
theorem dX2_copyFrom_47 : decode cX2_copyFrom 47 = .ok (.aload_n 1, 1) := by decide +kernel
theorem dX2_copyFrom_48 : decode cX2_copyFrom 48 = .ok (.getfield 18, 3) := by decide +kernel
theorem dX2_copyFrom_51 : decode cX2_copyFrom 51 = .ok (.putfield 18, 3) := by decide +kernel
theorem dX2_copyFrom_54 : decode cX2_copyFrom 54 = .ok (.aload_n 0, 1) := by decide +kernel
theorem dX2_copyFrom_55 : decode cX2_copyFrom 55 = .ok (.aload_n 1, 1) := by decide +kernel
theorem dX2_copyFrom_56 : decode cX2_copyFrom 56 = .ok (.getfield 70, 3) := by decide +kernel
theorem dX2_copyFrom_59 : decode cX2_copyFrom 59 = .ok (.putfield 70, 3) := by decide +kernel
theorem dX2_copyFrom_62 : decode cX2_copyFrom 62 = .ok (.aload_n 0, 1) := by decide +kernel
theorem dX2_copyFrom_63 : decode cX2_copyFrom 63 = .ok (.aload_n 1, 1) := by decide +kernel
theorem dX2_copyFrom_64 : decode cX2_copyFrom 64 = .ok (.getfield 22, 3) := by decide +kernel
theorem dX2_copyFrom_67 : decode cX2_copyFrom 67 = .ok (.putfield 22, 3) := by decide +kernel
theorem dX2_copyFrom_70 : decode cX2_copyFrom 70 = .ok (.aload_n 0, 1) := by decide +kernel
theorem dX2_copyFrom_71 : decode cX2_copyFrom 71 = .ok (.aload_n 1, 1) := by decide +kernel
theorem dX2_copyFrom_72 : decode cX2_copyFrom 72 = .ok (.getfield 25, 3) := by decide +kernel
theorem dX2_copyFrom_75 : decode cX2_copyFrom 75 = .ok (.putfield 25, 3) := by decide +kernel
theorem dX2_copyFrom_78 : decode cX2_copyFrom 78 = .ok (.aload_n 0, 1) := by decide +kernel
theorem dX2_copyFrom_79 : decode cX2_copyFrom 79 = .ok (.aload_n 1, 1) := by decide +kernel
theorem dX2_copyFrom_80 : decode cX2_copyFrom 80 = .ok (.getfield 28, 3) := by decide +kernel
theorem dX2_copyFrom_83 : decode cX2_copyFrom 83 = .ok (.putfield 28, 3) := by decide +kernel
theorem dX2_copyFrom_86 : decode cX2_copyFrom 86 = .ok (.aload_n 0, 1) := by decide +kernel
theorem dX2_copyFrom_87 : decode cX2_copyFrom 87 = .ok (.aload_n 1, 1) := by decide +kernel
theorem dX2_copyFrom_88 : decode cX2_copyFrom 88 = .ok (.getfield 31, 3) := by decide +kernel
theorem dX2_copyFrom_91 : decode cX2_copyFrom 91 = .ok (.putfield 31, 3) := by decide +kernel
theorem dX2_copyFrom_94 : decode cX2_copyFrom 94 = .ok (.aload_n 0, 1) := by decide +kernel
theorem dX2_copyFrom_95 : decode cX2_copyFrom 95 = .ok (.aload_n 1, 1) := by decide +kernel
theorem dX2_copyFrom_96 : decode cX2_copyFrom 96 = .ok (.getfield 34, 3) := by decide +kernel
theorem dX2_copyFrom_99 : decode cX2_copyFrom 99 = .ok (.putfield 34, 3) := by decide +kernel
theorem dX2_copyFrom_102 : decode cX2_copyFrom 102 = .ok (.return_, 1) := by decide +kernel
theorem dX3_init_0 : decode cX3_init 0 = .ok (.aload_n 0, 1) := by decide +kernel
theorem dX3_init_1 : decode cX3_init 1 = .ok (.invokespecial 3, 3) := by decide +kernel
theorem dX3_init_4 : decode cX3_init 4 = .ok (.aload_n 0, 1) := by decide +kernel
theorem dX3_init_5 : decode cX3_init 5 = .ok (.aload_n 1, 1) := by decide +kernel
theorem dX3_init_6 : decode cX3_init 6 = .ok (.putfield 9, 3) := by decide +kernel
theorem dX3_init_9 : decode cX3_init 9 = .ok (.aload_n 0, 1) := by decide +kernel
theorem dX3_init_10 : decode cX3_init 10 = .ok (.aload_n 2, 1) := by decide +kernel
theorem dX3_init_11 : decode cX3_init 11 = .ok (.putfield 15, 3) := by decide +kernel
theorem dX3_init_14 : decode cX3_init 14 = .ok (.aload_n 0, 1) := by decide +kernel
theorem dX3_init_15 : decode cX3_init 15 = .ok (.new 19, 3) := by decide +kernel
theorem dX3_init_18 : decode cX3_init 18 = .ok (.dup, 1) := by decide +kernel
theorem dX3_init_19 : decode cX3_init 19 = .ok (.aload_n 1, 1) := by decide +kernel
theorem dX3_init_20 : decode cX3_init 20 = .ok (.getfield 21, 3) := by decide +kernel
theorem dX3_init_23 : decode cX3_init 23 = .ok (.invokespecial 27, 3) := by decide +kernel
theorem dX3_init_26 : decode cX3_init 26 = .ok (.putfield 30, 3) := by decide +kernel
theorem dX3_init_29 : decode cX3_init 29 = .ok (.aload_n 0, 1) := by decide +kernel
theorem dX3_init_30 : decode cX3_init 30 = .ok (.new 34, 3) := by decide +kernel
theorem dX3_init_33 : decode cX3_init 33 = .ok (.dup, 1) := by decide +kernel
theorem dX3_init_34 : decode cX3_init 34 = .ok (.invokespecial 36, 3) := by decide +kernel
theorem dX3_init_37 : decode cX3_init 37 = .ok (.putfield 37, 3) := by decide +kernel
theorem dX3_init_40 : decode cX3_init 40 = .ok (.return_, 1) := by decide +kernel
theorem dX3_bindTo_0 : decode cX3_bindTo 0 = .ok (.aload_n 0, 1) := by decide +kernel
theorem dX3_bindTo_1 : decode cX3_bindTo 1 = .ok (.getfield 30, 3) := by decide +kernel
theorem dX3_bindTo_4 : decode cX3_bindTo 4 = .ok (.iload_n 1, 1) := by decide +kernel
theorem dX3_bindTo_5 : decode cX3_bindTo 5 = .ok (.putfield 41, 3) := by decide +kernel
theorem dX3_bindTo_8 : decode cX3_bindTo 8 = .ok (.return_, 1) := by decide +kernel
theorem dX3_begin_0 : decode cX3_begin 0 = .ok (.aload_n 1, 1) := by decide +kernel
theorem dX3_begin_1 : decode cX3_begin 1 = .ok (.iconst 1, 1) := by decide +kernel
theorem dX3_begin_2 : decode cX3_begin 2 = .ok (.putfield 45, 3) := by decide +kernel
theorem dX3_begin_5 : decode cX3_begin 5 = .ok (.aload_n 1, 1) := by decide +kernel
theorem dX3_begin_6 : decode cX3_begin 6 = .ok (.iconst 0, 1) := by decide +kernel
theorem dX3_begin_7 : decode cX3_begin 7 = .ok (.putfield 49, 3) := by decide +kernel
theorem dX3_begin_10 : decode cX3_begin 10 = .ok (.aload_n 1, 1) := by decide +kernel
theorem dX3_begin_11 : decode cX3_begin 11 = .ok (.iconst 0, 1) := by decide +kernel
theorem dX3_begin_12 : decode cX3_begin 12 = .ok (.putfield 52, 3) := by decide +kernel
theorem dX3_begin_15 : decode cX3_begin 15 = .ok (.aload_n 1, 1) := by decide +kernel
theorem dX3_begin_16 : decode cX3_begin 16 = .ok (.iconst 0, 1) := by decide +kernel
theorem dX3_begin_17 : decode cX3_begin 17 = .ok (.putfield 55, 3) := by decide +kernel
theorem dX3_begin_20 : decode cX3_begin 20 = .ok (.aload_n 1, 1) := by decide +kernel
theorem dX3_begin_21 : decode cX3_begin 21 = .ok (.iconst 0, 1) := by decide +kernel
theorem dX3_begin_22 : decode cX3_begin 22 = .ok (.putfield 58, 3) := by decide +kernel
theorem dX3_begin_25 : decode cX3_begin 25 = .ok (.aload_n 1, 1) := by decide +kernel
theorem dX3_begin_26 : decode cX3_begin 26 = .ok (.iload_n 2, 1) := by decide +kernel
theorem dX3_begin_27 : decode cX3_begin 27 = .ok (.putfield 61, 3) := by decide +kernel
theorem dX3_begin_30 : decode cX3_begin 30 = .ok (.aload_n 1, 1) := by decide +kernel
theorem dX3_begin_31 : decode cX3_begin 31 = .ok (.iload_n 3, 1) := by decide +kernel
theorem dX3_begin_32 : decode cX3_begin 32 = .ok (.putfield 64, 3) := by decide +kernel
theorem dX3_begin_35 : decode cX3_begin 35 = .ok (.aload_n 1, 1) := by decide +kernel
theorem dX3_begin_36 : decode cX3_begin 36 = .ok (.iload 4, 2) := by decide +kernel
theorem dX3_begin_38 : decode cX3_begin 38 = .ok (.putfield 67, 3) := by decide +kernel
theorem dX3_begin_41 : decode cX3_begin 41 = .ok (.aload_n 1, 1) := by decide +kernel
theorem dX3_begin_42 : decode cX3_begin 42 = .ok (.aload_n 0, 1) := by decide +kernel
theorem dX3_begin_43 : decode cX3_begin 43 = .ok (.getfield 9, 3) := by decide +kernel
theorem dX3_begin_46 : decode cX3_begin 46 = .ok (.getfield 21, 3) := by decide +kernel
theorem dX3_begin_49 : decode cX3_begin 49 = .ok (.getfield 70, 3) := by decide +kernel
theorem dX3_begin_52 : decode cX3_begin 52 = .ok (.putfield 75, 3) := by decide +kernel
theorem dX3_begin_55 : decode cX3_begin 55 = .ok (.aload_n 1, 1) := by decide +kernel
theorem dX3_begin_56 : decode cX3_begin 56 = .ok (.aload_n 0, 1) := by decide +kernel
theorem dX3_begin_57 : decode cX3_begin 57 = .ok (.getfield 9, 3) := by decide +kernel
theorem dX3_begin_60 : decode cX3_begin 60 = .ok (.getfield 21, 3) := by decide +kernel
theorem dX3_begin_63 : decode cX3_begin 63 = .ok (.getfield 76, 3) := by decide +kernel
theorem dX3_begin_66 : decode cX3_begin 66 = .ok (.putfield 79, 3) := by decide +kernel
theorem dX3_begin_69 : decode cX3_begin 69 = .ok (.return_, 1) := by decide +kernel
theorem dX3_goOn_0 : decode cX3_goOn 0 = .ok (.iconst 0, 1) := by decide +kernel
theorem dX3_goOn_1 : decode cX3_goOn 1 = .ok (.istore 4, 2) := by decide +kernel
theorem dX3_goOn_3 : decode cX3_goOn 3 = .ok (.iload 4, 2) := by decide +kernel
theorem dX3_goOn_5 : decode cX3_goOn 5 = .ok (.iload_n 3, 1) := by decide +kernel
theorem dX3_goOn_6 : decode cX3_goOn 6 = .ok (.if_icmp .ge 30, 3) := by decide +kernel
theorem dX3_goOn_9 : decode cX3_goOn 9 = .ok (.aload_n 1, 1) := by decide +kernel
theorem dX3_goOn_10 : decode cX3_goOn 10 = .ok (.getfield 49, 3) := by decide +kernel
theorem dX3_goOn_13 : decode cX3_goOn 13 = .ok (.ifCond .ne 23, 3) := by decide +kernel
theorem dX3_goOn_16 : decode cX3_goOn 16 = .ok (.aload_n 1, 1) := by decide +kernel
theorem dX3_goOn_17 : decode cX3_goOn 17 = .ok (.getfield 52, 3) := by decide +kernel
theorem dX3_goOn_20 : decode cX3_goOn 20 = .ok (.ifCond .ne 16, 3) := by decide +kernel
theorem dX3_goOn_23 : decode cX3_goOn 23 = .ok (.aload_n 0, 1) := by decide +kernel
theorem dX3_goOn_24 : decode cX3_goOn 24 = .ok (.aload_n 1, 1) := by decide +kernel
theorem dX3_goOn_25 : decode cX3_goOn 25 = .ok (.aload_n 2, 1) := by decide +kernel
theorem dX3_goOn_26 : decode cX3_goOn 26 = .ok (.invokevirtual 80, 3) := by decide +kernel
theorem dX3_goOn_29 : decode cX3_goOn 29 = .ok (.pop, 1) := by decide +kernel
theorem dX3_goOn_30 : decode cX3_goOn 30 = .ok (.iinc 4 1, 3) := by decide +kernel
theorem dX3_goOn_33 : decode cX3_goOn 33 = .ok (.goto (-30), 3) := by decide +kernel
theorem dX3_goOn_36 : decode cX3_goOn 36 = .ok (.return_, 1) := by decide +kernel
theorem dX3_hitsFrom_0 : decode cX3_hitsFrom 0 = .ok (.aload_n 0, 1) := by decide +kernel
theorem dX3_hitsFrom_1 : decode cX3_hitsFrom 1 = .ok (.getfield 9, 3) := by decide +kernel
theorem dX3_hitsFrom_4 : decode cX3_hitsFrom 4 = .ok (.iload_n 1, 1) := by decide +kernel
theorem dX3_hitsFrom_5 : decode cX3_hitsFrom 5 = .ok (.invokevirtual 84, 3) := by decide +kernel
theorem dX3_hitsFrom_8 : decode cX3_hitsFrom 8 = .ok (.ifCond .ne 5, 3) := by decide +kernel
theorem dX3_hitsFrom_11 : decode cX3_hitsFrom 11 = .ok (.iconst 0, 1) := by decide +kernel
theorem dX3_hitsFrom_12 : decode cX3_hitsFrom 12 = .ok (.ireturn, 1) := by decide +kernel
theorem dX3_hitsFrom_13 : decode cX3_hitsFrom 13 = .ok (.aload_n 0, 1) := by decide +kernel
theorem dX3_hitsFrom_14 : decode cX3_hitsFrom 14 = .ok (.aload_n 0, 1) := by decide +kernel
theorem dX3_hitsFrom_15 : decode cX3_hitsFrom 15 = .ok (.getfield 37, 3) := by decide +kernel
theorem dX3_hitsFrom_18 : decode cX3_hitsFrom 18 = .ok (.iload_n 2, 1) := by decide +kernel
theorem dX3_hitsFrom_19 : decode cX3_hitsFrom 19 = .ok (.iload_n 3, 1) := by decide +kernel
theorem dX3_hitsFrom_20 : decode cX3_hitsFrom 20 = .ok (.iload 4, 2) := by decide +kernel
theorem dX3_hitsFrom_22 : decode cX3_hitsFrom 22 = .ok (.invokevirtual 88, 3) := by decide +kernel
theorem dX3_hitsFrom_25 : decode cX3_hitsFrom 25 = .ok (.aload_n 0, 1) := by decide +kernel
theorem dX3_hitsFrom_26 : decode cX3_hitsFrom 26 = .ok (.aload_n 0, 1) := by decide +kernel
theorem dX3_hitsFrom_27 : decode cX3_hitsFrom 27 = .ok (.getfield 37, 3) := by decide +kernel
theorem dX3_hitsFrom_30 : decode cX3_hitsFrom 30 = .ok (.aload_n 0, 1) := by decide +kernel
theorem dX3_hitsFrom_31 : decode cX3_hitsFrom 31 = .ok (.getfield 9, 3) := by decide +kernel
theorem dX3_hitsFrom_34 : decode cX3_hitsFrom 34 = .ok (.getfield 92, 3) := by decide +kernel
theorem dX3_hitsFrom_37 : decode cX3_hitsFrom 37 = .ok (.iload_n 1, 1) := by decide +kernel
theorem dX3_hitsFrom_38 : decode cX3_hitsFrom 38 = .ok (.aaload, 1) := by decide +kernel
theorem dX3_hitsFrom_39 : decode cX3_hitsFrom 39 = .ok (.iload 5, 2) := by decide +kernel
theorem dX3_hitsFrom_41 : decode cX3_hitsFrom 41 = .ok (.invokevirtual 96, 3) := by decide +kernel
theorem dX3_hitsFrom_44 : decode cX3_hitsFrom 44 = .ok (.aload_n 0, 1) := by decide +kernel
theorem dX3_hitsFrom_45 : decode cX3_hitsFrom 45 = .ok (.getfield 37, 3) := by decide +kernel
theorem dX3_hitsFrom_48 : decode cX3_hitsFrom 48 = .ok (.getfield 49, 3) := by decide +kernel
theorem dX3_hitsFrom_51 : decode cX3_hitsFrom 51 = .ok (.ireturn, 1) := by decide +kernel
theorem dX3_keptRules_0 : decode cX3_keptRules 0 = .ok (.iconst 0, 1) := by decide +kernel
theorem dX3_keptRules_1 : decode cX3_keptRules 1 = .ok (.istore_n 1, 1) := by decide +kernel
theorem dX3_keptRules_2 : decode cX3_keptRules 2 = .ok (.iconst 0, 1) := by decide +kernel
theorem dX3_keptRules_3 : decode cX3_keptRules 3 = .ok (.istore_n 2, 1) := by decide +kernel
theorem dX3_keptRules_4 : decode cX3_keptRules 4 = .ok (.iload_n 2, 1) := by decide +kernel
theorem dX3_keptRules_5 : decode cX3_keptRules 5 = .ok (.aload_n 0, 1) := by decide +kernel
theorem dX3_keptRules_6 : decode cX3_keptRules 6 = .ok (.getfield 9, 3) := by decide +kernel
theorem dX3_keptRules_9 : decode cX3_keptRules 9 = .ok (.getfield 100, 3) := by decide +kernel
theorem dX3_keptRules_12 : decode cX3_keptRules 12 = .ok (.if_icmp .ge 23, 3) := by decide +kernel
theorem dX3_keptRules_15 : decode cX3_keptRules 15 = .ok (.aload_n 0, 1) := by decide +kernel
theorem dX3_keptRules_16 : decode cX3_keptRules 16 = .ok (.iload_n 2, 1) := by decide +kernel
theorem dX3_keptRules_17 : decode cX3_keptRules 17 = .ok (.invokevirtual 103, 3) := by decide +kernel
theorem dX3_keptRules_20 : decode cX3_keptRules 20 = .ok (.ifCond .eq 9, 3) := by decide +kernel
theorem dX3_keptRules_23 : decode cX3_keptRules 23 = .ok (.iload_n 1, 1) := by decide +kernel
theorem dX3_keptRules_24 : decode cX3_keptRules 24 = .ok (.iconst 1, 1) := by decide +kernel
theorem dX3_keptRules_25 : decode cX3_keptRules 25 = .ok (.iload_n 2, 1) := by decide +kernel
theorem dX3_keptRules_26 : decode cX3_keptRules 26 = .ok (.ishl, 1) := by decide +kernel
theorem dX3_keptRules_27 : decode cX3_keptRules 27 = .ok (.ior, 1) := by decide +kernel
theorem dX3_keptRules_28 : decode cX3_keptRules 28 = .ok (.istore_n 1, 1) := by decide +kernel
theorem dX3_keptRules_29 : decode cX3_keptRules 29 = .ok (.iinc 2 1, 3) := by decide +kernel
theorem dX3_keptRules_32 : decode cX3_keptRules 32 = .ok (.goto (-28), 3) := by decide +kernel
theorem dX3_keptRules_35 : decode cX3_keptRules 35 = .ok (.iload_n 1, 1) := by decide +kernel
theorem dX3_keptRules_36 : decode cX3_keptRules 36 = .ok (.ireturn, 1) := by decide +kernel
theorem dX3_keepsAll_0 : decode cX3_keepsAll 0 = .ok (.aload_n 0, 1) := by decide +kernel
theorem dX3_keepsAll_1 : decode cX3_keepsAll 1 = .ok (.getfield 9, 3) := by decide +kernel
theorem dX3_keepsAll_4 : decode cX3_keepsAll 4 = .ok (.getfield 106, 3) := by decide +kernel
theorem dX3_keepsAll_7 : decode cX3_keepsAll 7 = .ok (.astore_n 2, 1) := by decide +kernel
theorem dX3_keepsAll_8 : decode cX3_keepsAll 8 = .ok (.aload_n 0, 1) := by decide +kernel
theorem dX3_keepsAll_9 : decode cX3_keepsAll 9 = .ok (.getfield 9, 3) := by decide +kernel
theorem dX3_keepsAll_12 : decode cX3_keepsAll 12 = .ok (.iload_n 1, 1) := by decide +kernel
theorem dX3_keepsAll_13 : decode cX3_keepsAll 13 = .ok (.invokevirtual 84, 3) := by decide +kernel
theorem dX3_keepsAll_16 : decode cX3_keepsAll 16 = .ok (.istore_n 3, 1) := by decide +kernel
theorem dX3_keepsAll_17 : decode cX3_keepsAll 17 = .ok (.iconst 0, 1) := by decide +kernel
theorem dX3_keepsAll_18 : decode cX3_keepsAll 18 = .ok (.istore 4, 2) := by decide +kernel
theorem dX3_keepsAll_20 : decode cX3_keepsAll 20 = .ok (.iload_n 3, 1) := by decide +kernel
theorem dX3_keepsAll_21 : decode cX3_keepsAll 21 = .ok (.ifCond .eq 160, 3) := by decide +kernel
theorem dX3_keepsAll_24 : decode cX3_keepsAll 24 = .ok (.iload 4, 2) := by decide +kernel
theorem dX3_keepsAll_26 : decode cX3_keepsAll 26 = .ok (.aload_n 2, 1) := by decide +kernel
theorem dX3_keepsAll_27 : decode cX3_keepsAll 27 = .ok (.getfield 110, 3) := by decide +kernel
theorem dX3_keepsAll_30 : decode cX3_keepsAll 30 = .ok (.if_icmp .ge 151, 3) := by decide +kernel
theorem dX3_keepsAll_33 : decode cX3_keepsAll 33 = .ok (.aload_n 0, 1) := by decide +kernel
theorem dX3_keepsAll_34 : decode cX3_keepsAll 34 = .ok (.getfield 9, 3) := by decide +kernel
theorem dX3_keepsAll_37 : decode cX3_keepsAll 37 = .ok (.getfield 113, 3) := by decide +kernel
theorem dX3_keepsAll_40 : decode cX3_keepsAll 40 = .ok (.aload_n 2, 1) := by decide +kernel
theorem dX3_keepsAll_41 : decode cX3_keepsAll 41 = .ok (.getfield 117, 3) := by decide +kernel
theorem dX3_keepsAll_44 : decode cX3_keepsAll 44 = .ok (.iload 4, 2) := by decide +kernel
theorem dX3_keepsAll_46 : decode cX3_keepsAll 46 = .ok (.iaload, 1) := by decide +kernel
theorem dX3_keepsAll_47 : decode cX3_keepsAll 47 = .ok (.aload_n 2, 1) := by decide +kernel
theorem dX3_keepsAll_48 : decode cX3_keepsAll 48 = .ok (.getfield 120, 3) := by decide +kernel
theorem dX3_keepsAll_51 : decode cX3_keepsAll 51 = .ok (.iload 4, 2) := by decide +kernel
theorem dX3_keepsAll_53 : decode cX3_keepsAll 53 = .ok (.iaload, 1) := by decide +kernel
theorem dX3_keepsAll_54 : decode cX3_keepsAll 54 = .ok (.iconst 0, 1) := by decide +kernel
theorem dX3_keepsAll_55 : decode cX3_keepsAll 55 = .ok (.invokevirtual 122, 3) := by decide +kernel
theorem dX3_keepsAll_58 : decode cX3_keepsAll 58 = .ok (.istore_n 3, 1) := by decide +kernel
theorem dX3_keepsAll_59 : decode cX3_keepsAll 59 = .ok (.aload_n 0, 1) := by decide +kernel
theorem dX3_keepsAll_60 : decode cX3_keepsAll 60 = .ok (.aload_n 0, 1) := by decide +kernel
theorem dX3_keepsAll_61 : decode cX3_keepsAll 61 = .ok (.getfield 37, 3) := by decide +kernel
theorem dX3_keepsAll_64 : decode cX3_keepsAll 64 = .ok (.aload_n 2, 1) := by decide +kernel
theorem dX3_keepsAll_65 : decode cX3_keepsAll 65 = .ok (.getfield 117, 3) := by decide +kernel
theorem dX3_keepsAll_68 : decode cX3_keepsAll 68 = .ok (.iload 4, 2) := by decide +kernel
theorem dX3_keepsAll_70 : decode cX3_keepsAll 70 = .ok (.iaload, 1) := by decide +kernel
theorem dX3_keepsAll_71 : decode cX3_keepsAll 71 = .ok (.aload_n 2, 1) := by decide +kernel
theorem dX3_keepsAll_72 : decode cX3_keepsAll 72 = .ok (.getfield 120, 3) := by decide +kernel
theorem dX3_keepsAll_75 : decode cX3_keepsAll 75 = .ok (.iload 4, 2) := by decide +kernel
theorem dX3_keepsAll_77 : decode cX3_keepsAll 77 = .ok (.iaload, 1) := by decide +kernel
theorem dX3_keepsAll_78 : decode cX3_keepsAll 78 = .ok (.aload_n 2, 1) := by decide +kernel
theorem dX3_keepsAll_79 : decode cX3_keepsAll 79 = .ok (.getfield 128, 3) := by decide +kernel
theorem dX3_keepsAll_82 : decode cX3_keepsAll 82 = .ok (.iload 4, 2) := by decide +kernel
theorem dX3_keepsAll_84 : decode cX3_keepsAll 84 = .ok (.iaload, 1) := by decide +kernel
theorem dX3_keepsAll_85 : decode cX3_keepsAll 85 = .ok (.invokevirtual 88, 3) := by decide +kernel
theorem dX3_keepsAll_88 : decode cX3_keepsAll 88 = .ok (.iconst 0, 1) := by decide +kernel
theorem dX3_keepsAll_89 : decode cX3_keepsAll 89 = .ok (.istore 5, 2) := by decide +kernel
theorem dX3_keepsAll_91 : decode cX3_keepsAll 91 = .ok (.iload_n 3, 1) := by decide +kernel
theorem dX3_keepsAll_92 : decode cX3_keepsAll 92 = .ok (.ifCond .eq 83, 3) := by decide +kernel
theorem dX3_keepsAll_95 : decode cX3_keepsAll 95 = .ok (.iload 5, 2) := by decide +kernel
theorem dX3_keepsAll_97 : decode cX3_keepsAll 97 = .ok (.aload_n 2, 1) := by decide +kernel
theorem dX3_keepsAll_98 : decode cX3_keepsAll 98 = .ok (.getfield 130, 3) := by decide +kernel
theorem dX3_keepsAll_101 : decode cX3_keepsAll 101 = .ok (.iload 4, 2) := by decide +kernel
theorem dX3_keepsAll_103 : decode cX3_keepsAll 103 = .ok (.iaload, 1) := by decide +kernel
theorem dX3_keepsAll_104 : decode cX3_keepsAll 104 = .ok (.if_icmp .ge 71, 3) := by decide +kernel
theorem dX3_keepsAll_107 : decode cX3_keepsAll 107 = .ok (.aload_n 0, 1) := by decide +kernel
theorem dX3_keepsAll_108 : decode cX3_keepsAll 108 = .ok (.getfield 37, 3) := by decide +kernel
theorem dX3_keepsAll_111 : decode cX3_keepsAll 111 = .ok (.getfield 49, 3) := by decide +kernel
theorem dX3_keepsAll_114 : decode cX3_keepsAll 114 = .ok (.ifCond .ne 53, 3) := by decide +kernel
theorem dX3_keepsAll_117 : decode cX3_keepsAll 117 = .ok (.aload_n 0, 1) := by decide +kernel
theorem dX3_keepsAll_118 : decode cX3_keepsAll 118 = .ok (.aload_n 0, 1) := by decide +kernel
theorem dX3_keepsAll_119 : decode cX3_keepsAll 119 = .ok (.getfield 37, 3) := by decide +kernel
theorem dX3_keepsAll_122 : decode cX3_keepsAll 122 = .ok (.aload_n 0, 1) := by decide +kernel
theorem dX3_keepsAll_123 : decode cX3_keepsAll 123 = .ok (.getfield 9, 3) := by decide +kernel
theorem dX3_keepsAll_126 : decode cX3_keepsAll 126 = .ok (.getfield 92, 3) := by decide +kernel
theorem dX3_keepsAll_129 : decode cX3_keepsAll 129 = .ok (.iload_n 1, 1) := by decide +kernel
theorem dX3_keepsAll_130 : decode cX3_keepsAll 130 = .ok (.aaload, 1) := by decide +kernel
theorem dX3_keepsAll_131 : decode cX3_keepsAll 131 = .ok (.invokevirtual 80, 3) := by decide +kernel
theorem dX3_keepsAll_134 : decode cX3_keepsAll 134 = .ok (.ifCond .eq 33, 3) := by decide +kernel
theorem dX3_keepsAll_137 : decode cX3_keepsAll 137 = .ok (.aload_n 0, 1) := by decide +kernel
theorem dX3_keepsAll_138 : decode cX3_keepsAll 138 = .ok (.getfield 37, 3) := by decide +kernel
theorem dX3_keepsAll_141 : decode cX3_keepsAll 141 = .ok (.iload 5, 2) := by decide +kernel
theorem dX3_keepsAll_143 : decode cX3_keepsAll 143 = .ok (.iconst 0, 1) := by decide +kernel
theorem dX3_keepsAll_144 : decode cX3_keepsAll 144 = .ok (.invokevirtual 133, 3) := by decide +kernel
theorem dX3_keepsAll_147 : decode cX3_keepsAll 147 = .ok (.aload_n 2, 1) := by decide +kernel
theorem dX3_keepsAll_148 : decode cX3_keepsAll 148 = .ok (.getfield 137, 3) := by decide +kernel
theorem dX3_keepsAll_151 : decode cX3_keepsAll 151 = .ok (.iload 4, 2) := by decide +kernel
theorem dX3_keepsAll_153 : decode cX3_keepsAll 153 = .ok (.bipush 20, 2) := by decide +kernel
theorem dX3_keepsAll_155 : decode cX3_keepsAll 155 = .ok (.imul, 1) := by decide +kernel
theorem dX3_keepsAll_156 : decode cX3_keepsAll 156 = .ok (.iload 5, 2) := by decide +kernel
theorem dX3_keepsAll_158 : decode cX3_keepsAll 158 = .ok (.iadd, 1) := by decide +kernel
theorem dX3_keepsAll_159 : decode cX3_keepsAll 159 = .ok (.iaload, 1) := by decide +kernel
theorem dX3_keepsAll_160 : decode cX3_keepsAll 160 = .ok (.if_icmp .ne 7, 3) := by decide +kernel
theorem dX3_keepsAll_163 : decode cX3_keepsAll 163 = .ok (.iconst 1, 1) := by decide +kernel
theorem dX3_keepsAll_164 : decode cX3_keepsAll 164 = .ok (.goto 4, 3) := by decide +kernel
theorem dX3_keepsAll_167 : decode cX3_keepsAll 167 = .ok (.iconst 0, 1) := by decide +kernel
theorem dX3_keepsAll_168 : decode cX3_keepsAll 168 = .ok (.istore_n 3, 1) := by decide +kernel
theorem dX3_keepsAll_169 : decode cX3_keepsAll 169 = .ok (.iinc 5 1, 3) := by decide +kernel
theorem dX3_keepsAll_172 : decode cX3_keepsAll 172 = .ok (.goto (-81), 3) := by decide +kernel
theorem dX3_keepsAll_175 : decode cX3_keepsAll 175 = .ok (.iinc 4 1, 3) := by decide +kernel
theorem dX3_keepsAll_178 : decode cX3_keepsAll 178 = .ok (.goto (-158), 3) := by decide +kernel
theorem dX3_keepsAll_181 : decode cX3_keepsAll 181 = .ok (.iload_n 3, 1) := by decide +kernel
theorem dX3_keepsAll_182 : decode cX3_keepsAll 182 = .ok (.ireturn, 1) := by decide +kernel
theorem dX3_unlikeTurns_0 : decode cX3_unlikeTurns 0 = .ok (.aload_n 0, 1) := by decide +kernel
theorem dX3_unlikeTurns_1 : decode cX3_unlikeTurns 1 = .ok (.aload_n 0, 1) := by decide +kernel
theorem dX3_unlikeTurns_2 : decode cX3_unlikeTurns 2 = .ok (.getfield 37, 3) := by decide +kernel
theorem dX3_unlikeTurns_5 : decode cX3_unlikeTurns 5 = .ok (.iload_n 2, 1) := by decide +kernel
theorem dX3_unlikeTurns_6 : decode cX3_unlikeTurns 6 = .ok (.iload_n 3, 1) := by decide +kernel
theorem dX3_unlikeTurns_7 : decode cX3_unlikeTurns 7 = .ok (.iload 4, 2) := by decide +kernel
theorem dX3_unlikeTurns_9 : decode cX3_unlikeTurns 9 = .ok (.invokevirtual 88, 3) := by decide +kernel
theorem dX3_unlikeTurns_12 : decode cX3_unlikeTurns 12 = .ok (.aload_n 0, 1) := by decide +kernel
theorem dX3_unlikeTurns_13 : decode cX3_unlikeTurns 13 = .ok (.aload_n 0, 1) := by decide +kernel
theorem dX3_unlikeTurns_14 : decode cX3_unlikeTurns 14 = .ok (.getfield 37, 3) := by decide +kernel
theorem dX3_unlikeTurns_17 : decode cX3_unlikeTurns 17 = .ok (.invokevirtual 140, 3) := by decide +kernel
theorem dX3_unlikeTurns_20 : decode cX3_unlikeTurns 20 = .ok (.iconst 0, 1) := by decide +kernel
theorem dX3_unlikeTurns_21 : decode cX3_unlikeTurns 21 = .ok (.istore 5, 2) := by decide +kernel
theorem dX3_unlikeTurns_23 : decode cX3_unlikeTurns 23 = .ok (.iconst 0, 1) := by decide +kernel
theorem dX3_unlikeTurns_24 : decode cX3_unlikeTurns 24 = .ok (.istore 6, 2) := by decide +kernel
theorem dX3_unlikeTurns_26 : decode cX3_unlikeTurns 26 = .ok (.iload 6, 2) := by decide +kernel
theorem dX3_unlikeTurns_28 : decode cX3_unlikeTurns 28 = .ok (.aload_n 0, 1) := by decide +kernel
theorem dX3_unlikeTurns_29 : decode cX3_unlikeTurns 29 = .ok (.getfield 9, 3) := by decide +kernel
theorem dX3_unlikeTurns_32 : decode cX3_unlikeTurns 32 = .ok (.getfield 100, 3) := by decide +kernel
theorem dX3_unlikeTurns_35 : decode cX3_unlikeTurns 35 = .ok (.if_icmp .ge 70, 3) := by decide +kernel
theorem dX3_unlikeTurns_38 : decode cX3_unlikeTurns 38 = .ok (.iload_n 1, 1) := by decide +kernel
theorem dX3_unlikeTurns_39 : decode cX3_unlikeTurns 39 = .ok (.iload 6, 2) := by decide +kernel
theorem dX3_unlikeTurns_41 : decode cX3_unlikeTurns 41 = .ok (.ishr, 1) := by decide +kernel
theorem dX3_unlikeTurns_42 : decode cX3_unlikeTurns 42 = .ok (.iconst 1, 1) := by decide +kernel
theorem dX3_unlikeTurns_43 : decode cX3_unlikeTurns 43 = .ok (.iand, 1) := by decide +kernel
theorem dX3_unlikeTurns_44 : decode cX3_unlikeTurns 44 = .ok (.ifCond .eq 55, 3) := by decide +kernel
theorem dX3_unlikeTurns_47 : decode cX3_unlikeTurns 47 = .ok (.aload_n 0, 1) := by decide +kernel
theorem dX3_unlikeTurns_48 : decode cX3_unlikeTurns 48 = .ok (.getfield 30, 3) := by decide +kernel
theorem dX3_unlikeTurns_51 : decode cX3_unlikeTurns 51 = .ok (.aload_n 0, 1) := by decide +kernel
theorem dX3_unlikeTurns_52 : decode cX3_unlikeTurns 52 = .ok (.getfield 9, 3) := by decide +kernel
theorem dX3_unlikeTurns_55 : decode cX3_unlikeTurns 55 = .ok (.getfield 92, 3) := by decide +kernel
theorem dX3_unlikeTurns_58 : decode cX3_unlikeTurns 58 = .ok (.iload 6, 2) := by decide +kernel
theorem dX3_unlikeTurns_60 : decode cX3_unlikeTurns 60 = .ok (.aaload, 1) := by decide +kernel
theorem dX3_unlikeTurns_61 : decode cX3_unlikeTurns 61 = .ok (.aload_n 0, 1) := by decide +kernel
theorem dX3_unlikeTurns_62 : decode cX3_unlikeTurns 62 = .ok (.getfield 37, 3) := by decide +kernel
theorem dX3_unlikeTurns_65 : decode cX3_unlikeTurns 65 = .ok (.invokevirtual 144, 3) := by decide +kernel
theorem dX3_unlikeTurns_68 : decode cX3_unlikeTurns 68 = .ok (.iload 5, 2) := by decide +kernel
theorem dX3_unlikeTurns_70 : decode cX3_unlikeTurns 70 = .ok (.iconst 1, 1) := by decide +kernel
theorem dX3_unlikeTurns_71 : decode cX3_unlikeTurns 71 = .ok (.bipush 8, 2) := by decide +kernel
theorem dX3_unlikeTurns_73 : decode cX3_unlikeTurns 73 = .ok (.aload_n 0, 1) := by decide +kernel
theorem dX3_unlikeTurns_74 : decode cX3_unlikeTurns 74 = .ok (.getfield 30, 3) := by decide +kernel
theorem dX3_unlikeTurns_77 : decode cX3_unlikeTurns 77 = .ok (.getfield 148, 3) := by decide +kernel
theorem dX3_unlikeTurns_80 : decode cX3_unlikeTurns 80 = .ok (.ifCond .eq 7, 3) := by decide +kernel
theorem dX3_unlikeTurns_83 : decode cX3_unlikeTurns 83 = .ok (.iconst 0, 1) := by decide +kernel
theorem dX3_unlikeTurns_84 : decode cX3_unlikeTurns 84 = .ok (.goto 10, 3) := by decide +kernel
theorem dX3_unlikeTurns_87 : decode cX3_unlikeTurns 87 = .ok (.aload_n 0, 1) := by decide +kernel
theorem dX3_unlikeTurns_88 : decode cX3_unlikeTurns 88 = .ok (.getfield 30, 3) := by decide +kernel
theorem dX3_unlikeTurns_91 : decode cX3_unlikeTurns 91 = .ok (.getfield 151, 3) := by decide +kernel
theorem dX3_unlikeTurns_94 : decode cX3_unlikeTurns 94 = .ok (.iadd, 1) := by decide +kernel
theorem dX3_unlikeTurns_95 : decode cX3_unlikeTurns 95 = .ok (.ishl, 1) := by decide +kernel
theorem dX3_unlikeTurns_96 : decode cX3_unlikeTurns 96 = .ok (.ior, 1) := by decide +kernel
theorem dX3_unlikeTurns_97 : decode cX3_unlikeTurns 97 = .ok (.istore 5, 2) := by decide +kernel
theorem dX3_unlikeTurns_99 : decode cX3_unlikeTurns 99 = .ok (.iinc 6 1, 3) := by decide +kernel
theorem dX3_unlikeTurns_102 : decode cX3_unlikeTurns 102 = .ok (.goto (-76), 3) := by decide +kernel
theorem dX3_unlikeTurns_105 : decode cX3_unlikeTurns 105 = .ok (.iload 5, 2) := by decide +kernel
theorem dX3_unlikeTurns_107 : decode cX3_unlikeTurns 107 = .ok (.invokestatic 154, 3) := by decide +kernel
theorem dX3_unlikeTurns_110 : decode cX3_unlikeTurns 110 = .ok (.ireturn, 1) := by decide +kernel
theorem dX3_step_0 : decode cX3_step 0 = .ok (.aload_n 1, 1) := by decide +kernel
theorem dX3_step_1 : decode cX3_step 1 = .ok (.getfield 55, 3) := by decide +kernel
theorem dX3_step_4 : decode cX3_step 4 = .ok (.bipush 60, 2) := by decide +kernel
theorem dX3_step_6 : decode cX3_step 6 = .ok (.if_icmp .lt 5, 3) := by decide +kernel
theorem dX3_step_9 : decode cX3_step 9 = .ok (.iconst 0, 1) := by decide +kernel
theorem dX3_step_10 : decode cX3_step 10 = .ok (.ireturn, 1) := by decide +kernel
theorem dX3_step_11 : decode cX3_step 11 = .ok (.aload_n 0, 1) := by decide +kernel
theorem dX3_step_12 : decode cX3_step 12 = .ok (.aload_n 1, 1) := by decide +kernel
theorem dX3_step_13 : decode cX3_step 13 = .ok (.invokevirtual 140, 3) := by decide +kernel
theorem dX3_step_16 : decode cX3_step 16 = .ok (.aload_n 0, 1) := by decide +kernel
theorem dX3_step_17 : decode cX3_step 17 = .ok (.getfield 30, 3) := by decide +kernel
theorem dX3_step_20 : decode cX3_step 20 = .ok (.aload_n 2, 1) := by decide +kernel
theorem dX3_step_21 : decode cX3_step 21 = .ok (.aload_n 1, 1) := by decide +kernel
theorem dX3_step_22 : decode cX3_step 22 = .ok (.invokevirtual 144, 3) := by decide +kernel
theorem dX3_step_25 : decode cX3_step 25 = .ok (.aload_n 1, 1) := by decide +kernel
theorem dX3_step_26 : decode cX3_step 26 = .ok (.dup, 1) := by decide +kernel
theorem dX3_step_27 : decode cX3_step 27 = .ok (.getfield 58, 3) := by decide +kernel
theorem dX3_step_30 : decode cX3_step 30 = .ok (.aload_n 0, 1) := by decide +kernel
theorem dX3_step_31 : decode cX3_step 31 = .ok (.getfield 30, 3) := by decide +kernel
theorem dX3_step_34 : decode cX3_step 34 = .ok (.getfield 160, 3) := by decide +kernel
theorem dX3_step_37 : decode cX3_step 37 = .ok (.iadd, 1) := by decide +kernel
theorem dX3_step_38 : decode cX3_step 38 = .ok (.putfield 58, 3) := by decide +kernel
theorem dX3_step_41 : decode cX3_step 41 = .ok (.aload_n 0, 1) := by decide +kernel
theorem dX3_step_42 : decode cX3_step 42 = .ok (.getfield 30, 3) := by decide +kernel
theorem dX3_step_45 : decode cX3_step 45 = .ok (.getfield 148, 3) := by decide +kernel
theorem dX3_step_48 : decode cX3_step 48 = .ok (.ifCond .eq 10, 3) := by decide +kernel
theorem dX3_step_51 : decode cX3_step 51 = .ok (.aload_n 1, 1) := by decide +kernel
theorem dX3_step_52 : decode cX3_step 52 = .ok (.iconst 1, 1) := by decide +kernel
theorem dX3_step_53 : decode cX3_step 53 = .ok (.putfield 52, 3) := by decide +kernel
theorem dX3_step_56 : decode cX3_step 56 = .ok (.iconst 0, 1) := by decide +kernel
theorem dX3_step_57 : decode cX3_step 57 = .ok (.ireturn, 1) := by decide +kernel
theorem dX3_step_58 : decode cX3_step 58 = .ok (.aload_n 1, 1) := by decide +kernel
theorem dX3_step_59 : decode cX3_step 59 = .ok (.aload_n 0, 1) := by decide +kernel
theorem dX3_step_60 : decode cX3_step 60 = .ok (.getfield 30, 3) := by decide +kernel
theorem dX3_step_63 : decode cX3_step 63 = .ok (.getfield 151, 3) := by decide +kernel
theorem dX3_step_66 : decode cX3_step 66 = .ok (.aload_n 0, 1) := by decide +kernel
theorem dX3_step_67 : decode cX3_step 67 = .ok (.getfield 30, 3) := by decide +kernel
theorem dX3_step_70 : decode cX3_step 70 = .ok (.getfield 161, 3) := by decide +kernel
theorem dX3_step_73 : decode cX3_step 73 = .ok (.invokevirtual 164, 3) := by decide +kernel
theorem dX3_step_76 : decode cX3_step 76 = .ok (.aload_n 1, 1) := by decide +kernel
theorem dX3_step_77 : decode cX3_step 77 = .ok (.dup, 1) := by decide +kernel
theorem dX3_step_78 : decode cX3_step 78 = .ok (.getfield 55, 3) := by decide +kernel
theorem dX3_step_81 : decode cX3_step 81 = .ok (.iconst 1, 1) := by decide +kernel
theorem dX3_step_82 : decode cX3_step 82 = .ok (.iadd, 1) := by decide +kernel
theorem dX3_step_83 : decode cX3_step 83 = .ok (.putfield 55, 3) := by decide +kernel
theorem dX3_step_86 : decode cX3_step 86 = .ok (.aload_n 1, 1) := by decide +kernel
theorem dX3_step_87 : decode cX3_step 87 = .ok (.aload_n 1, 1) := by decide +kernel
theorem dX3_step_88 : decode cX3_step 88 = .ok (.getfield 67, 3) := by decide +kernel
theorem dX3_step_91 : decode cX3_step 91 = .ok (.aload_n 0, 1) := by decide +kernel
theorem dX3_step_92 : decode cX3_step 92 = .ok (.getfield 30, 3) := by decide +kernel
theorem dX3_step_95 : decode cX3_step 95 = .ok (.getfield 151, 3) := by decide +kernel
theorem dX3_step_98 : decode cX3_step 98 = .ok (.iadd, 1) := by decide +kernel
theorem dX3_step_99 : decode cX3_step 99 = .ok (.bipush 63, 2) := by decide +kernel
theorem dX3_step_101 : decode cX3_step 101 = .ok (.iand, 1) := by decide +kernel
theorem dX3_step_102 : decode cX3_step 102 = .ok (.putfield 67, 3) := by decide +kernel
theorem dX3_step_105 : decode cX3_step 105 = .ok (.aload_n 1, 1) := by decide +kernel
theorem dX3_step_106 : decode cX3_step 106 = .ok (.dup, 1) := by decide +kernel
theorem dX3_step_107 : decode cX3_step 107 = .ok (.getfield 61, 3) := by decide +kernel
theorem dX3_step_110 : decode cX3_step 110 = .ok (.aload_n 0, 1) := by decide +kernel
theorem dX3_step_111 : decode cX3_step 111 = .ok (.getfield 30, 3) := by decide +kernel
theorem dX3_step_114 : decode cX3_step 114 = .ok (.getfield 161, 3) := by decide +kernel
theorem dX3_step_117 : decode cX3_step 117 = .ok (.getstatic 168, 3) := by decide +kernel
theorem dX3_step_120 : decode cX3_step 120 = .ok (.aload_n 1, 1) := by decide +kernel
theorem dX3_step_121 : decode cX3_step 121 = .ok (.getfield 67, 3) := by decide +kernel
theorem dX3_step_124 : decode cX3_step 124 = .ok (.iaload, 1) := by decide +kernel
theorem dX3_step_125 : decode cX3_step 125 = .ok (.imul, 1) := by decide +kernel
theorem dX3_step_126 : decode cX3_step 126 = .ok (.bipush 16, 2) := by decide +kernel
theorem dX3_step_128 : decode cX3_step 128 = .ok (.invokestatic 171, 3) := by decide +kernel
theorem dX3_step_131 : decode cX3_step 131 = .ok (.iadd, 1) := by decide +kernel
theorem dX3_step_132 : decode cX3_step 132 = .ok (.putfield 61, 3) := by decide +kernel
theorem dX3_step_135 : decode cX3_step 135 = .ok (.aload_n 1, 1) := by decide +kernel
theorem dX3_step_136 : decode cX3_step 136 = .ok (.dup, 1) := by decide +kernel
theorem dX3_step_137 : decode cX3_step 137 = .ok (.getfield 64, 3) := by decide +kernel
theorem dX3_step_140 : decode cX3_step 140 = .ok (.aload_n 0, 1) := by decide +kernel
