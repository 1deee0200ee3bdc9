theorem dX12_lensTake_0 : decode cX12_lensTake 0 = .ok (.aload_n 0, 1) := by decide +kernel
theorem dX12_lensTake_1 : decode cX12_lensTake 1 = .ok (.aload_n 0, 1) := by decide +kernel
theorem dX12_lensTake_2 : decode cX12_lensTake 2 = .ok (.getfield 7, 3) := by decide +kernel
theorem dX12_lensTake_5 : decode cX12_lensTake 5 = .ok (.sipush 620, 3) := by decide +kernel
theorem dX12_lensTake_8 : decode cX12_lensTake 8 = .ok (.iconst 2, 1) := by decide +kernel
theorem dX12_lensTake_9 : decode cX12_lensTake 9 = .ok (.iload_n 1, 1) := by decide +kernel
theorem dX12_lensTake_10 : decode cX12_lensTake 10 = .ok (.imul, 1) := by decide +kernel
theorem dX12_lensTake_11 : decode cX12_lensTake 11 = .ok (.iadd, 1) := by decide +kernel
theorem dX12_lensTake_12 : decode cX12_lensTake 12 = .ok (.iaload, 1) := by decide +kernel
theorem dX12_lensTake_13 : decode cX12_lensTake 13 = .ok (.aload_n 0, 1) := by decide +kernel
theorem dX12_lensTake_14 : decode cX12_lensTake 14 = .ok (.getfield 7, 3) := by decide +kernel
theorem dX12_lensTake_17 : decode cX12_lensTake 17 = .ok (.sipush 620, 3) := by decide +kernel
theorem dX12_lensTake_20 : decode cX12_lensTake 20 = .ok (.iconst 2, 1) := by decide +kernel
theorem dX12_lensTake_21 : decode cX12_lensTake 21 = .ok (.iload_n 1, 1) := by decide +kernel
theorem dX12_lensTake_22 : decode cX12_lensTake 22 = .ok (.imul, 1) := by decide +kernel
theorem dX12_lensTake_23 : decode cX12_lensTake 23 = .ok (.iadd, 1) := by decide +kernel
theorem dX12_lensTake_24 : decode cX12_lensTake 24 = .ok (.iconst 1, 1) := by decide +kernel
theorem dX12_lensTake_25 : decode cX12_lensTake 25 = .ok (.iadd, 1) := by decide +kernel
theorem dX12_lensTake_26 : decode cX12_lensTake 26 = .ok (.iaload, 1) := by decide +kernel
theorem dX12_lensTake_27 : decode cX12_lensTake 27 = .ok (.iload_n 2, 1) := by decide +kernel
theorem dX12_lensTake_28 : decode cX12_lensTake 28 = .ok (.invokevirtual 120, 3) := by decide +kernel
theorem dX12_lensTake_31 : decode cX12_lensTake 31 = .ok (.ireturn, 1) := by decide +kernel
set_option maxRecDepth 20000 in
theorem ggX12_take_X12_isLens : GoodIn wsX12_take wsX12_isLens := goodIn_r _ [5, 6, 7, 8, 4, 9, 61, 62, 63, 64, 65, 66, 67, 68, 69, 70, 71, 72, 73, 74, 75, 76, 77, 78, 79, 80, 81, 82, 83, 84, 85, 86, 87, 88, 89, 90, 91, 92, 93, 94, 95, 96, 97, 98, 99, 100, 101, 102, 103] (by decide +kernel) (by decide +kernel)
set_option maxRecDepth 20000 in
theorem gX12_take_X12_isLens : GoodIn wsX12_take (wsV RX12 114 RX12 yX12_isLens wsX12_isLens) := goodIn_app (goodIn_of _ (by decide +kernel)) ggX12_take_X12_isLens
set_option maxRecDepth 20000 in
theorem ggX12_take_X12_isPlace : GoodIn wsX12_take wsX12_isPlace := goodIn_r _ [13, 14, 15, 7, 8, 4, 9, 61, 62, 63, 64, 65, 66, 67, 68, 69, 70, 71, 72, 73, 74, 75, 76, 77, 78, 79, 80, 81, 82, 83, 84, 85, 86, 87, 88, 89, 90, 91, 92, 93, 94, 95, 96, 97, 98, 99, 100, 101, 102, 103] (by decide +kernel) (by decide +kernel)
set_option maxRecDepth 20000 in
theorem gX12_take_X12_isPlace : GoodIn wsX12_take (wsV RX12 107 RX12 yX12_isPlace wsX12_isPlace) := goodIn_app (goodIn_of _ (by decide +kernel)) ggX12_take_X12_isPlace
set_option maxRecDepth 20000 in
theorem ggX12_take_X12_isSide : GoodIn wsX12_take wsX12_isSide := goodIn_r _ [18, 7, 8, 4, 9] (by decide +kernel) (by decide +kernel)
set_option maxRecDepth 20000 in
theorem gX12_take_X12_isSide : GoodIn wsX12_take (va_wsS RX12 111 yX12_isSide wsX12_isSide) := goodIn_app (goodIn_of _ (by decide +kernel)) ggX12_take_X12_isSide
set_option maxRecDepth 20000 in
theorem ggX12_take_X12_isTick : GoodIn wsX12_take wsX12_isTick := goodIn_r _ [21, 7, 8, 4, 9] (by decide +kernel) (by decide +kernel)
set_option maxRecDepth 20000 in
theorem gX12_take_X12_isTick : GoodIn wsX12_take (va_wsS RX12 83 yX12_isTick wsX12_isTick) := goodIn_app (goodIn_of _ (by decide +kernel)) ggX12_take_X12_isTick
set_option maxRecDepth 20000 in
theorem ggX12_take_X12_look : GoodIn wsX12_take wsX12_look := goodIn_r _ [25, 26, 27, 28, 4, 29, 14, 15, 30, 6, 31, 32, 33, 34, 7, 8, 9, 35, 36, 37, 38, 39, 40, 41, 42, 43, 44, 45, 46, 47, 48, 49, 61, 62, 63, 64, 65, 66, 67, 68, 69, 70, 71, 72, 73, 74, 75, 76, 77, 78, 79, 80, 81, 82, 83, 84, 85, 86, 87, 88, 89, 90, 91, 92, 93, 94, 95, 96, 97, 98, 99, 100, 101, 102, 103] (by decide +kernel) (by decide +kernel)
set_option maxRecDepth 20000 in
theorem gX12_take_X12_look : GoodIn wsX12_take (wsV RX12 124 RX12 yX12_look wsX12_look) := goodIn_app (goodIn_of _ (by decide +kernel)) ggX12_take_X12_look
set_option maxRecDepth 20000 in
theorem ggX12_take_X12_lensTake : GoodIn wsX12_take wsX12_lensTake := goodIn_r _ [53, 6, 54, 55, 56, 4, 57, 39, 58, 59, 60, 61, 62, 63, 64, 65, 66, 67, 68, 69, 70, 71, 72, 73, 74, 75, 76, 77, 78, 79, 80, 81, 82, 83, 84, 85, 86, 87, 88, 89, 90, 91, 92, 93, 94, 95, 96, 97, 98, 99, 100, 101, 102, 103] (by decide +kernel) (by decide +kernel)
set_option maxRecDepth 20000 in
theorem gX12_take_X12_lensTake : GoodIn wsX12_take (wsV RX12 127 RX12 yX12_lensTake wsX12_lensTake) := goodIn_app (goodIn_of _ (by decide +kernel)) ggX12_take_X12_lensTake
theorem dX12_take_0 : decode cX12_take 0 = .ok (.aload_n 0, 1) := by decide +kernel
theorem dX12_take_1 : decode cX12_take 1 = .ok (.iload_n 1, 1) := by decide +kernel
theorem dX12_take_2 : decode cX12_take 2 = .ok (.invokevirtual 114, 3) := by decide +kernel
theorem dX12_take_5 : decode cX12_take 5 = .ok (.ifCond .eq 28, 3) := by decide +kernel
theorem dX12_take_8 : decode cX12_take 8 = .ok (.aload_n 0, 1) := by decide +kernel
theorem dX12_take_9 : decode cX12_take 9 = .ok (.iload_n 2, 1) := by decide +kernel
theorem dX12_take_10 : decode cX12_take 10 = .ok (.iload_n 3, 1) := by decide +kernel
theorem dX12_take_11 : decode cX12_take 11 = .ok (.invokevirtual 107, 3) := by decide +kernel
theorem dX12_take_14 : decode cX12_take 14 = .ok (.ifCond .eq 19, 3) := by decide +kernel
theorem dX12_take_17 : decode cX12_take 17 = .ok (.iload 4, 2) := by decide +kernel
theorem dX12_take_19 : decode cX12_take 19 = .ok (.invokestatic 111, 3) := by decide +kernel
theorem dX12_take_22 : decode cX12_take 22 = .ok (.ifCond .eq 11, 3) := by decide +kernel
theorem dX12_take_25 : decode cX12_take 25 = .ok (.iload 5, 2) := by decide +kernel
theorem dX12_take_27 : decode cX12_take 27 = .ok (.invokestatic 83, 3) := by decide +kernel
theorem dX12_take_30 : decode cX12_take 30 = .ok (.ifCond .ne 5, 3) := by decide +kernel
theorem dX12_take_33 : decode cX12_take 33 = .ok (.iconst (-1), 1) := by decide +kernel
theorem dX12_take_34 : decode cX12_take 34 = .ok (.ireturn, 1) := by decide +kernel
theorem dX12_take_35 : decode cX12_take 35 = .ok (.aload_n 0, 1) := by decide +kernel
theorem dX12_take_36 : decode cX12_take 36 = .ok (.iload_n 2, 1) := by decide +kernel
theorem dX12_take_37 : decode cX12_take 37 = .ok (.iload_n 3, 1) := by decide +kernel
theorem dX12_take_38 : decode cX12_take 38 = .ok (.iload 5, 2) := by decide +kernel
theorem dX12_take_40 : decode cX12_take 40 = .ok (.invokevirtual 124, 3) := by decide +kernel
theorem dX12_take_43 : decode cX12_take 43 = .ok (.aload_n 0, 1) := by decide +kernel
theorem dX12_take_44 : decode cX12_take 44 = .ok (.iload_n 1, 1) := by decide +kernel
theorem dX12_take_45 : decode cX12_take 45 = .ok (.iload 4, 2) := by decide +kernel
theorem dX12_take_47 : decode cX12_take 47 = .ok (.invokevirtual 127, 3) := by decide +kernel
theorem dX12_take_50 : decode cX12_take 50 = .ok (.ireturn, 1) := by decide +kernel
set_option maxRecDepth 20000 in
theorem ggX12_apart_X12_abs : GoodIn wsX12_apart wsX12_abs := goodIn_r _ [5] (by decide +kernel) (by decide +kernel)
set_option maxRecDepth 20000 in
theorem gX12_apart_X12_abs : GoodIn wsX12_apart (va_wsS RX12 117 yX12_abs wsX12_abs) := goodIn_app (goodIn_of _ (by decide +kernel)) ggX12_apart_X12_abs
theorem dX12_apart_0 : decode cX12_apart 0 = .ok (.aload_n 0, 1) := by decide +kernel
theorem dX12_apart_1 : decode cX12_apart 1 = .ok (.getfield 7, 3) := by decide +kernel
theorem dX12_apart_4 : decode cX12_apart 4 = .ok (.sipush 620, 3) := by decide +kernel
theorem dX12_apart_7 : decode cX12_apart 7 = .ok (.iconst 2, 1) := by decide +kernel
theorem dX12_apart_8 : decode cX12_apart 8 = .ok (.iload_n 1, 1) := by decide +kernel
theorem dX12_apart_9 : decode cX12_apart 9 = .ok (.imul, 1) := by decide +kernel
theorem dX12_apart_10 : decode cX12_apart 10 = .ok (.iadd, 1) := by decide +kernel
theorem dX12_apart_11 : decode cX12_apart 11 = .ok (.iaload, 1) := by decide +kernel
theorem dX12_apart_12 : decode cX12_apart 12 = .ok (.iload_n 2, 1) := by decide +kernel
theorem dX12_apart_13 : decode cX12_apart 13 = .ok (.isub, 1) := by decide +kernel
theorem dX12_apart_14 : decode cX12_apart 14 = .ok (.invokestatic 117, 3) := by decide +kernel
theorem dX12_apart_17 : decode cX12_apart 17 = .ok (.istore_n 3, 1) := by decide +kernel
theorem dX12_apart_18 : decode cX12_apart 18 = .ok (.iload_n 3, 1) := by decide +kernel
theorem dX12_apart_19 : decode cX12_apart 19 = .ok (.bipush 64, 2) := by decide +kernel
theorem dX12_apart_21 : decode cX12_apart 21 = .ok (.iload_n 3, 1) := by decide +kernel
theorem dX12_apart_22 : decode cX12_apart 22 = .ok (.isub, 1) := by decide +kernel
theorem dX12_apart_23 : decode cX12_apart 23 = .ok (.if_icmp .ge 7, 3) := by decide +kernel
theorem dX12_apart_26 : decode cX12_apart 26 = .ok (.iload_n 3, 1) := by decide +kernel
theorem dX12_apart_27 : decode cX12_apart 27 = .ok (.goto 7, 3) := by decide +kernel
theorem dX12_apart_30 : decode cX12_apart 30 = .ok (.bipush 64, 2) := by decide +kernel
theorem dX12_apart_32 : decode cX12_apart 32 = .ok (.iload_n 3, 1) := by decide +kernel
theorem dX12_apart_33 : decode cX12_apart 33 = .ok (.isub, 1) := by decide +kernel
theorem dX12_apart_34 : decode cX12_apart 34 = .ok (.ireturn, 1) := by decide +kernel
set_option maxRecDepth 20000 in
theorem ggX12_coverOf_X12_apart : GoodIn wsX12_coverOf wsX12_apart := goodIn_r _ [6, 1, 7, 8, 5, 9, 10, 11, 12, 13, 14, 15, 16, 17, 18, 19, 20, 21, 22, 23, 24, 25, 26, 27, 28, 29, 30, 31, 32, 33, 34, 35, 36, 37, 38, 39, 40, 41, 42, 43, 44, 45, 46, 47, 48, 49, 50, 51, 52] (by decide +kernel) (by decide +kernel)
set_option maxRecDepth 20000 in
theorem gX12_coverOf_X12_apart : GoodIn wsX12_coverOf (wsV RX12 130 RX12 yX12_apart wsX12_apart) := goodIn_app (goodIn_of _ (by decide +kernel)) ggX12_coverOf_X12_apart
theorem dX12_coverOf_0 : decode cX12_coverOf 0 = .ok (.iconst 0, 1) := by decide +kernel
theorem dX12_coverOf_1 : decode cX12_coverOf 1 = .ok (.istore_n 2, 1) := by decide +kernel
theorem dX12_coverOf_2 : decode cX12_coverOf 2 = .ok (.iconst 0, 1) := by decide +kernel
theorem dX12_coverOf_3 : decode cX12_coverOf 3 = .ok (.istore_n 3, 1) := by decide +kernel
theorem dX12_coverOf_4 : decode cX12_coverOf 4 = .ok (.iload_n 3, 1) := by decide +kernel
theorem dX12_coverOf_5 : decode cX12_coverOf 5 = .ok (.aload_n 0, 1) := by decide +kernel
theorem dX12_coverOf_6 : decode cX12_coverOf 6 = .ok (.getfield 7, 3) := by decide +kernel
theorem dX12_coverOf_9 : decode cX12_coverOf 9 = .ok (.iconst 1, 1) := by decide +kernel
theorem dX12_coverOf_10 : decode cX12_coverOf 10 = .ok (.iaload, 1) := by decide +kernel
theorem dX12_coverOf_11 : decode cX12_coverOf 11 = .ok (.if_icmp .ge 40, 3) := by decide +kernel
theorem dX12_coverOf_14 : decode cX12_coverOf 14 = .ok (.iload_n 2, 1) := by decide +kernel
theorem dX12_coverOf_15 : decode cX12_coverOf 15 = .ok (.aload_n 0, 1) := by decide +kernel
theorem dX12_coverOf_16 : decode cX12_coverOf 16 = .ok (.iload_n 3, 1) := by decide +kernel
theorem dX12_coverOf_17 : decode cX12_coverOf 17 = .ok (.iload_n 1, 1) := by decide +kernel
theorem dX12_coverOf_18 : decode cX12_coverOf 18 = .ok (.invokevirtual 130, 3) := by decide +kernel
theorem dX12_coverOf_21 : decode cX12_coverOf 21 = .ok (.aload_n 0, 1) := by decide +kernel
theorem dX12_coverOf_22 : decode cX12_coverOf 22 = .ok (.getfield 7, 3) := by decide +kernel
theorem dX12_coverOf_25 : decode cX12_coverOf 25 = .ok (.sipush 620, 3) := by decide +kernel
theorem dX12_coverOf_28 : decode cX12_coverOf 28 = .ok (.iconst 2, 1) := by decide +kernel
theorem dX12_coverOf_29 : decode cX12_coverOf 29 = .ok (.iload_n 3, 1) := by decide +kernel
theorem dX12_coverOf_30 : decode cX12_coverOf 30 = .ok (.imul, 1) := by decide +kernel
theorem dX12_coverOf_31 : decode cX12_coverOf 31 = .ok (.iadd, 1) := by decide +kernel
theorem dX12_coverOf_32 : decode cX12_coverOf 32 = .ok (.iconst 1, 1) := by decide +kernel
theorem dX12_coverOf_33 : decode cX12_coverOf 33 = .ok (.iadd, 1) := by decide +kernel
theorem dX12_coverOf_34 : decode cX12_coverOf 34 = .ok (.iaload, 1) := by decide +kernel
theorem dX12_coverOf_35 : decode cX12_coverOf 35 = .ok (.if_icmp .gt 7, 3) := by decide +kernel
theorem dX12_coverOf_38 : decode cX12_coverOf 38 = .ok (.iconst 1, 1) := by decide +kernel
theorem dX12_coverOf_39 : decode cX12_coverOf 39 = .ok (.goto 4, 3) := by decide +kernel
theorem dX12_coverOf_42 : decode cX12_coverOf 42 = .ok (.iconst 0, 1) := by decide +kernel
theorem dX12_coverOf_43 : decode cX12_coverOf 43 = .ok (.iadd, 1) := by decide +kernel
theorem dX12_coverOf_44 : decode cX12_coverOf 44 = .ok (.istore_n 2, 1) := by decide +kernel
theorem dX12_coverOf_45 : decode cX12_coverOf 45 = .ok (.iinc 3 1, 3) := by decide +kernel
theorem dX12_coverOf_48 : decode cX12_coverOf 48 = .ok (.goto (-44), 3) := by decide +kernel
theorem dX12_coverOf_51 : decode cX12_coverOf 51 = .ok (.iload_n 2, 1) := by decide +kernel
theorem dX12_coverOf_52 : decode cX12_coverOf 52 = .ok (.ireturn, 1) := by decide +kernel
set_option maxRecDepth 20000 in
theorem ggX12_covered_X12_isSide : GoodIn wsX12_covered wsX12_isSide := goodIn_r _ [4, 5, 6, 3, 7] (by decide +kernel) (by decide +kernel)
set_option maxRecDepth 20000 in
theorem gX12_covered_X12_isSide : GoodIn wsX12_covered (va_wsS RX12 111 yX12_isSide wsX12_isSide) := goodIn_app (goodIn_of _ (by decide +kernel)) ggX12_covered_X12_isSide
set_option maxRecDepth 20000 in
theorem ggX12_covered_X12_coverOf : GoodIn wsX12_covered wsX12_coverOf := goodIn_r _ [11, 12, 13, 14, 15, 3, 16, 17, 18, 19, 20, 21, 22, 23, 24, 25, 26, 27, 28, 29, 30, 31, 32, 33, 34, 35, 36, 37, 38, 39, 40, 41, 42, 43, 44, 45, 46, 47, 48, 49, 50, 51, 52, 53, 54, 55, 56, 57, 58, 59, 60, 61, 62] (by decide +kernel) (by decide +kernel)
set_option maxRecDepth 20000 in
theorem gX12_covered_X12_coverOf : GoodIn wsX12_covered (wsV RX12 133 RX12 yX12_coverOf wsX12_coverOf) := goodIn_app (goodIn_of _ (by decide +kernel)) ggX12_covered_X12_coverOf
theorem dX12_covered_0 : decode cX12_covered 0 = .ok (.iload_n 1, 1) := by decide +kernel
theorem dX12_covered_1 : decode cX12_covered 1 = .ok (.iconst (-1), 1) := by decide +kernel
theorem dX12_covered_2 : decode cX12_covered 2 = .ok (.if_icmp .eq 12, 3) := by decide +kernel
theorem dX12_covered_5 : decode cX12_covered 5 = .ok (.iload_n 1, 1) := by decide +kernel
theorem dX12_covered_6 : decode cX12_covered 6 = .ok (.invokestatic 111, 3) := by decide +kernel
theorem dX12_covered_9 : decode cX12_covered 9 = .ok (.ifCond .ne 5, 3) := by decide +kernel
theorem dX12_covered_12 : decode cX12_covered 12 = .ok (.iconst (-1), 1) := by decide +kernel
theorem dX12_covered_13 : decode cX12_covered 13 = .ok (.ireturn, 1) := by decide +kernel
theorem dX12_covered_14 : decode cX12_covered 14 = .ok (.iload_n 1, 1) := by decide +kernel
theorem dX12_covered_15 : decode cX12_covered 15 = .ok (.iconst (-1), 1) := by decide +kernel
theorem dX12_covered_16 : decode cX12_covered 16 = .ok (.if_icmp .eq 9, 3) := by decide +kernel
theorem dX12_covered_19 : decode cX12_covered 19 = .ok (.aload_n 0, 1) := by decide +kernel
theorem dX12_covered_20 : decode cX12_covered 20 = .ok (.iload_n 1, 1) := by decide +kernel
theorem dX12_covered_21 : decode cX12_covered 21 = .ok (.invokevirtual 133, 3) := by decide +kernel
theorem dX12_covered_24 : decode cX12_covered 24 = .ok (.ireturn, 1) := by decide +kernel
theorem dX12_covered_25 : decode cX12_covered 25 = .ok (.iconst 0, 1) := by decide +kernel
theorem dX12_covered_26 : decode cX12_covered 26 = .ok (.istore_n 2, 1) := by decide +kernel
theorem dX12_covered_27 : decode cX12_covered 27 = .ok (.iconst 0, 1) := by decide +kernel
theorem dX12_covered_28 : decode cX12_covered 28 = .ok (.istore_n 3, 1) := by decide +kernel
theorem dX12_covered_29 : decode cX12_covered 29 = .ok (.iload_n 3, 1) := by decide +kernel
theorem dX12_covered_30 : decode cX12_covered 30 = .ok (.bipush 64, 2) := by decide +kernel
theorem dX12_covered_32 : decode cX12_covered 32 = .ok (.if_icmp .ge 25, 3) := by decide +kernel
theorem dX12_covered_35 : decode cX12_covered 35 = .ok (.iload_n 2, 1) := by decide +kernel
theorem dX12_covered_36 : decode cX12_covered 36 = .ok (.aload_n 0, 1) := by decide +kernel
theorem dX12_covered_37 : decode cX12_covered 37 = .ok (.iload_n 3, 1) := by decide +kernel
theorem dX12_covered_38 : decode cX12_covered 38 = .ok (.invokevirtual 133, 3) := by decide +kernel
theorem dX12_covered_41 : decode cX12_covered 41 = .ok (.ifCond .ne 7, 3) := by decide +kernel
theorem dX12_covered_44 : decode cX12_covered 44 = .ok (.iconst 1, 1) := by decide +kernel
theorem dX12_covered_45 : decode cX12_covered 45 = .ok (.goto 4, 3) := by decide +kernel
theorem dX12_covered_48 : decode cX12_covered 48 = .ok (.iconst 0, 1) := by decide +kernel
theorem dX12_covered_49 : decode cX12_covered 49 = .ok (.iadd, 1) := by decide +kernel
theorem dX12_covered_50 : decode cX12_covered 50 = .ok (.istore_n 2, 1) := by decide +kernel
theorem dX12_covered_51 : decode cX12_covered 51 = .ok (.iinc 3 1, 3) := by decide +kernel
theorem dX12_covered_54 : decode cX12_covered 54 = .ok (.goto (-25), 3) := by decide +kernel
theorem dX12_covered_57 : decode cX12_covered 57 = .ok (.iload_n 2, 1) := by decide +kernel
theorem dX12_covered_58 : decode cX12_covered 58 = .ok (.ireturn, 1) := by decide +kernel
set_option maxRecDepth 20000 in
theorem ggX12_ends_X12_isSide : GoodIn wsX12_ends wsX12_isSide := goodIn_r _ [5, 6, 7, 4, 8] (by decide +kernel) (by decide +kernel)
set_option maxRecDepth 20000 in
theorem gX12_ends_X12_isSide : GoodIn wsX12_ends (va_wsS RX12 111 yX12_isSide wsX12_isSide) := goodIn_app (goodIn_of _ (by decide +kernel)) ggX12_ends_X12_isSide
set_option maxRecDepth 20000 in
theorem ggX12_ends_X12_isPlace : GoodIn wsX12_ends wsX12_isPlace := goodIn_r _ [12, 13, 14, 6, 7, 4, 8, 58, 59, 60, 61, 62, 63, 64, 65, 66, 67, 68, 69, 70, 71, 72, 73, 74, 75, 76, 77, 78, 79, 80, 81, 82, 83, 84, 85, 86, 87, 88, 89, 90, 91, 92, 93, 94, 95, 96, 97, 98, 99, 100] (by decide +kernel) (by decide +kernel)
set_option maxRecDepth 20000 in
theorem gX12_ends_X12_isPlace : GoodIn wsX12_ends (wsV RX12 107 RX12 yX12_isPlace wsX12_isPlace) := goodIn_app (goodIn_of _ (by decide +kernel)) ggX12_ends_X12_isPlace
set_option maxRecDepth 20000 in
theorem ggX12_ends_X12_look : GoodIn wsX12_ends wsX12_look := goodIn_r _ [18, 19, 20, 21, 4, 22, 13, 14, 23, 1, 24, 25, 26, 27, 6, 7, 8, 28, 29, 30, 31, 32, 33, 34, 35, 36, 37, 38, 39, 40, 41, 42, 58, 59, 60, 61, 62, 63, 64, 65, 66, 67, 68, 69, 70, 71, 72, 73, 74, 75, 76, 77, 78, 79, 80, 81, 82, 83, 84, 85, 86, 87, 88, 89, 90, 91, 92, 93, 94, 95, 96, 97, 98, 99, 100] (by decide +kernel) (by decide +kernel)
set_option maxRecDepth 20000 in
theorem gX12_ends_X12_look : GoodIn wsX12_ends (wsV RX12 124 RX12 yX12_look wsX12_look) := goodIn_app (goodIn_of _ (by decide +kernel)) ggX12_ends_X12_look
set_option maxRecDepth 20000 in
theorem ggX12_ends_X12_apart : GoodIn wsX12_ends wsX12_apart := goodIn_r _ [46, 1, 47, 48, 4, 49, 58, 59, 60, 61, 62, 63, 64, 65, 66, 67, 68, 69, 70, 71, 72, 73, 74, 75, 76, 77, 78, 79, 80, 81, 82, 83, 84, 85, 86, 87, 88, 89, 90, 91, 92, 93, 94, 95, 96, 97, 98, 99, 100] (by decide +kernel) (by decide +kernel)
set_option maxRecDepth 20000 in
theorem gX12_ends_X12_apart : GoodIn wsX12_ends (wsV RX12 130 RX12 yX12_apart wsX12_apart) := goodIn_app (goodIn_of _ (by decide +kernel)) ggX12_ends_X12_apart
set_option maxRecDepth 20000 in
theorem ggX12_ends_X12_lensTake : GoodIn wsX12_ends wsX12_lensTake := goodIn_r _ [53, 1, 54, 55, 56, 4, 57, 32, 47, 48, 49, 58, 59, 60, 61, 62, 63, 64, 65, 66, 67, 68, 69, 70, 71, 72, 73, 74, 75, 76, 77, 78, 79, 80, 81, 82, 83, 84, 85, 86, 87, 88, 89, 90, 91, 92, 93, 94, 95, 96, 97, 98, 99, 100] (by decide +kernel) (by decide +kernel)
set_option maxRecDepth 20000 in
theorem gX12_ends_X12_lensTake : GoodIn wsX12_ends (wsV RX12 127 RX12 yX12_lensTake wsX12_lensTake) := goodIn_app (goodIn_of _ (by decide +kernel)) ggX12_ends_X12_lensTake
set_option maxRecDepth 20000 in
theorem ggX12_ends_X12_floor : GoodIn wsX12_ends wsX12_floor := goodIn_r _ [39] (by decide +kernel) (by decide +kernel)
set_option maxRecDepth 20000 in
theorem gX12_ends_X12_floor : GoodIn wsX12_ends (va_wsS RX12 93 yX12_floor wsX12_floor) := goodIn_app (goodIn_of _ (by decide +kernel)) ggX12_ends_X12_floor
theorem dX12_ends_0 : decode cX12_ends 0 = .ok (.iload_n 1, 1) := by decide +kernel
theorem dX12_ends_1 : decode cX12_ends 1 = .ok (.invokestatic 111, 3) := by decide +kernel
theorem dX12_ends_4 : decode cX12_ends 4 = .ok (.ifCond .eq 20, 3) := by decide +kernel
theorem dX12_ends_7 : decode cX12_ends 7 = .ok (.aload_n 0, 1) := by decide +kernel
theorem dX12_ends_8 : decode cX12_ends 8 = .ok (.iload_n 2, 1) := by decide +kernel
theorem dX12_ends_9 : decode cX12_ends 9 = .ok (.iload_n 3, 1) := by decide +kernel
theorem dX12_ends_10 : decode cX12_ends 10 = .ok (.invokevirtual 107, 3) := by decide +kernel
theorem dX12_ends_13 : decode cX12_ends 13 = .ok (.ifCond .eq 11, 3) := by decide +kernel
theorem dX12_ends_16 : decode cX12_ends 16 = .ok (.iload 4, 2) := by decide +kernel
theorem dX12_ends_18 : decode cX12_ends 18 = .ok (.invokestatic 111, 3) := by decide +kernel
theorem dX12_ends_21 : decode cX12_ends 21 = .ok (.ifCond .ne 5, 3) := by decide +kernel
theorem dX12_ends_24 : decode cX12_ends 24 = .ok (.iconst (-1), 1) := by decide +kernel
theorem dX12_ends_25 : decode cX12_ends 25 = .ok (.ireturn, 1) := by decide +kernel
theorem dX12_ends_26 : decode cX12_ends 26 = .ok (.aload_n 0, 1) := by decide +kernel
theorem dX12_ends_27 : decode cX12_ends 27 = .ok (.iload_n 2, 1) := by decide +kernel
theorem dX12_ends_28 : decode cX12_ends 28 = .ok (.iload_n 3, 1) := by decide +kernel
theorem dX12_ends_29 : decode cX12_ends 29 = .ok (.iconst 0, 1) := by decide +kernel
theorem dX12_ends_30 : decode cX12_ends 30 = .ok (.invokevirtual 124, 3) := by decide +kernel
theorem dX12_ends_33 : decode cX12_ends 33 = .ok (.iconst 0, 1) := by decide +kernel
theorem dX12_ends_34 : decode cX12_ends 34 = .ok (.istore 6, 2) := by decide +kernel
theorem dX12_ends_36 : decode cX12_ends 36 = .ok (.sipush 255, 3) := by decide +kernel
theorem dX12_ends_39 : decode cX12_ends 39 = .ok (.istore 7, 2) := by decide +kernel
theorem dX12_ends_41 : decode cX12_ends 41 = .ok (.iconst 0, 1) := by decide +kernel
theorem dX12_ends_42 : decode cX12_ends 42 = .ok (.istore 8, 2) := by decide +kernel
theorem dX12_ends_44 : decode cX12_ends 44 = .ok (.iload 8, 2) := by decide +kernel
theorem dX12_ends_46 : decode cX12_ends 46 = .ok (.aload_n 0, 1) := by decide +kernel
theorem dX12_ends_47 : decode cX12_ends 47 = .ok (.getfield 7, 3) := by decide +kernel
theorem dX12_ends_50 : decode cX12_ends 50 = .ok (.iconst 1, 1) := by decide +kernel
theorem dX12_ends_51 : decode cX12_ends 51 = .ok (.iaload, 1) := by decide +kernel
theorem dX12_ends_52 : decode cX12_ends 52 = .ok (.if_icmp .ge 136, 3) := by decide +kernel
theorem dX12_ends_55 : decode cX12_ends 55 = .ok (.aload_n 0, 1) := by decide +kernel
theorem dX12_ends_56 : decode cX12_ends 56 = .ok (.getfield 7, 3) := by decide +kernel
theorem dX12_ends_59 : decode cX12_ends 59 = .ok (.sipush 620, 3) := by decide +kernel
theorem dX12_ends_62 : decode cX12_ends 62 = .ok (.iconst 2, 1) := by decide +kernel
theorem dX12_ends_63 : decode cX12_ends 63 = .ok (.iload 8, 2) := by decide +kernel
theorem dX12_ends_65 : decode cX12_ends 65 = .ok (.imul, 1) := by decide +kernel
theorem dX12_ends_66 : decode cX12_ends 66 = .ok (.iadd, 1) := by decide +kernel
theorem dX12_ends_67 : decode cX12_ends 67 = .ok (.iconst 1, 1) := by decide +kernel
theorem dX12_ends_68 : decode cX12_ends 68 = .ok (.iadd, 1) := by decide +kernel
theorem dX12_ends_69 : decode cX12_ends 69 = .ok (.iaload, 1) := by decide +kernel
theorem dX12_ends_70 : decode cX12_ends 70 = .ok (.istore 9, 2) := by decide +kernel
theorem dX12_ends_72 : decode cX12_ends 72 = .ok (.aload_n 0, 1) := by decide +kernel
theorem dX12_ends_73 : decode cX12_ends 73 = .ok (.iload 8, 2) := by decide +kernel
theorem dX12_ends_75 : decode cX12_ends 75 = .ok (.iload_n 1, 1) := by decide +kernel
theorem dX12_ends_76 : decode cX12_ends 76 = .ok (.invokevirtual 130, 3) := by decide +kernel
theorem dX12_ends_79 : decode cX12_ends 79 = .ok (.iload 9, 2) := by decide +kernel
theorem dX12_ends_81 : decode cX12_ends 81 = .ok (.if_icmp .le 6, 3) := by decide +kernel
theorem dX12_ends_84 : decode cX12_ends 84 = .ok (.goto 98, 3) := by decide +kernel
theorem dX12_ends_87 : decode cX12_ends 87 = .ok (.iload 9, 2) := by decide +kernel
theorem dX12_ends_89 : decode cX12_ends 89 = .ok (.iconst 1, 1) := by decide +kernel
theorem dX12_ends_90 : decode cX12_ends 90 = .ok (.iadd, 1) := by decide +kernel
theorem dX12_ends_91 : decode cX12_ends 91 = .ok (.aload_n 0, 1) := by decide +kernel
theorem dX12_ends_92 : decode cX12_ends 92 = .ok (.iload 8, 2) := by decide +kernel
theorem dX12_ends_94 : decode cX12_ends 94 = .ok (.iload_n 1, 1) := by decide +kernel
theorem dX12_ends_95 : decode cX12_ends 95 = .ok (.invokevirtual 130, 3) := by decide +kernel
theorem dX12_ends_98 : decode cX12_ends 98 = .ok (.isub, 1) := by decide +kernel
theorem dX12_ends_99 : decode cX12_ends 99 = .ok (.istore 10, 2) := by decide +kernel
theorem dX12_ends_101 : decode cX12_ends 101 = .ok (.iload 9, 2) := by decide +kernel
theorem dX12_ends_103 : decode cX12_ends 103 = .ok (.iconst 1, 1) := by decide +kernel
theorem dX12_ends_104 : decode cX12_ends 104 = .ok (.iadd, 1) := by decide +kernel
theorem dX12_ends_105 : decode cX12_ends 105 = .ok (.iload 9, 2) := by decide +kernel
theorem dX12_ends_107 : decode cX12_ends 107 = .ok (.iconst 1, 1) := by decide +kernel
theorem dX12_ends_108 : decode cX12_ends 108 = .ok (.iadd, 1) := by decide +kernel
theorem dX12_ends_109 : decode cX12_ends 109 = .ok (.imul, 1) := by decide +kernel
theorem dX12_ends_110 : decode cX12_ends 110 = .ok (.istore 11, 2) := by decide +kernel
theorem dX12_ends_112 : decode cX12_ends 112 = .ok (.aload_n 0, 1) := by decide +kernel
theorem dX12_ends_113 : decode cX12_ends 113 = .ok (.iload 8, 2) := by decide +kernel
theorem dX12_ends_115 : decode cX12_ends 115 = .ok (.iload 4, 2) := by decide +kernel
theorem dX12_ends_117 : decode cX12_ends 117 = .ok (.invokevirtual 127, 3) := by decide +kernel
theorem dX12_ends_120 : decode cX12_ends 120 = .ok (.istore 12, 2) := by decide +kernel
theorem dX12_ends_122 : decode cX12_ends 122 = .ok (.iload 12, 2) := by decide +kernel
theorem dX12_ends_124 : decode cX12_ends 124 = .ok (.iload 11, 2) := by decide +kernel
theorem dX12_ends_126 : decode cX12_ends 126 = .ok (.imul, 1) := by decide +kernel
theorem dX12_ends_127 : decode cX12_ends 127 = .ok (.sipush 255, 3) := by decide +kernel
theorem dX12_ends_130 : decode cX12_ends 130 = .ok (.iload 11, 2) := by decide +kernel
theorem dX12_ends_132 : decode cX12_ends 132 = .ok (.iload 10, 2) := by decide +kernel
theorem dX12_ends_134 : decode cX12_ends 134 = .ok (.isub, 1) := by decide +kernel
theorem dX12_ends_135 : decode cX12_ends 135 = .ok (.imul, 1) := by decide +kernel
theorem dX12_ends_136 : decode cX12_ends 136 = .ok (.isub, 1) := by decide +kernel
theorem dX12_ends_137 : decode cX12_ends 137 = .ok (.ineg, 1) := by decide +kernel
theorem dX12_ends_138 : decode cX12_ends 138 = .ok (.iload 10, 2) := by decide +kernel
theorem dX12_ends_140 : decode cX12_ends 140 = .ok (.invokestatic 93, 3) := by decide +kernel
theorem dX12_ends_143 : decode cX12_ends 143 = .ok (.ineg, 1) := by decide +kernel
theorem dX12_ends_144 : decode cX12_ends 144 = .ok (.istore 13, 2) := by decide +kernel
theorem dX12_ends_146 : decode cX12_ends 146 = .ok (.iload 12, 2) := by decide +kernel
theorem dX12_ends_148 : decode cX12_ends 148 = .ok (.iconst 1, 1) := by decide +kernel
theorem dX12_ends_149 : decode cX12_ends 149 = .ok (.iadd, 1) := by decide +kernel
theorem dX12_ends_150 : decode cX12_ends 150 = .ok (.iload 11, 2) := by decide +kernel
theorem dX12_ends_152 : decode cX12_ends 152 = .ok (.imul, 1) := by decide +kernel
theorem dX12_ends_153 : decode cX12_ends 153 = .ok (.iconst 1, 1) := by decide +kernel
theorem dX12_ends_154 : decode cX12_ends 154 = .ok (.isub, 1) := by decide +kernel
theorem dX12_ends_155 : decode cX12_ends 155 = .ok (.iload 10, 2) := by decide +kernel
theorem dX12_ends_157 : decode cX12_ends 157 = .ok (.idiv, 1) := by decide +kernel
theorem dX12_ends_158 : decode cX12_ends 158 = .ok (.istore 14, 2) := by decide +kernel
theorem dX12_ends_160 : decode cX12_ends 160 = .ok (.iload 13, 2) := by decide +kernel
theorem dX12_ends_162 : decode cX12_ends 162 = .ok (.iload 6, 2) := by decide +kernel
theorem dX12_ends_164 : decode cX12_ends 164 = .ok (.if_icmp .le 7, 3) := by decide +kernel
theorem dX12_ends_167 : decode cX12_ends 167 = .ok (.iload 13, 2) := by decide +kernel
theorem dX12_ends_169 : decode cX12_ends 169 = .ok (.istore 6, 2) := by decide +kernel
theorem dX12_ends_171 : decode cX12_ends 171 = .ok (.iload 14, 2) := by decide +kernel
theorem dX12_ends_173 : decode cX12_ends 173 = .ok (.iload 7, 2) := by decide +kernel
theorem dX12_ends_175 : decode cX12_ends 175 = .ok (.if_icmp .ge 7, 3) := by decide +kernel
theorem dX12_ends_178 : decode cX12_ends 178 = .ok (.iload 14, 2) := by decide +kernel
theorem dX12_ends_180 : decode cX12_ends 180 = .ok (.istore 7, 2) := by decide +kernel
theorem dX12_ends_182 : decode cX12_ends 182 = .ok (.iinc 8 1, 3) := by decide +kernel
theorem dX12_ends_185 : decode cX12_ends 185 = .ok (.goto (-141), 3) := by decide +kernel
theorem dX12_ends_188 : decode cX12_ends 188 = .ok (.iload 5, 2) := by decide +kernel
theorem dX12_ends_190 : decode cX12_ends 190 = .ok (.ifCond .eq 8, 3) := by decide +kernel
theorem dX12_ends_193 : decode cX12_ends 193 = .ok (.iload 7, 2) := by decide +kernel
theorem dX12_ends_195 : decode cX12_ends 195 = .ok (.goto 5, 3) := by decide +kernel
theorem dX12_ends_198 : decode cX12_ends 198 = .ok (.iload 6, 2) := by decide +kernel
theorem dX12_ends_200 : decode cX12_ends 200 = .ok (.ireturn, 1) := by decide +kernel
set_option maxRecDepth 20000 in
theorem ggX12_width_X12_isSide : GoodIn wsX12_width wsX12_isSide := goodIn_r _ [4, 5, 6, 3, 7] (by decide +kernel) (by decide +kernel)
set_option maxRecDepth 20000 in
theorem gX12_width_X12_isSide : GoodIn wsX12_width (va_wsS RX12 111 yX12_isSide wsX12_isSide) := goodIn_app (goodIn_of _ (by decide +kernel)) ggX12_width_X12_isSide
set_option maxRecDepth 20000 in
theorem ggX12_width_X12_isPlace : GoodIn wsX12_width wsX12_isPlace := goodIn_r _ [11, 12, 13, 5, 6, 3, 7, 50, 51, 52, 53, 54, 55, 56, 57, 58, 59, 60, 61, 62, 63, 64, 65, 66, 67, 68, 69, 70, 71, 72, 73, 74, 75, 76, 77, 78, 79, 80, 81, 82, 83, 84, 85, 86, 87, 88, 89, 90, 91, 92] (by decide +kernel) (by decide +kernel)
set_option maxRecDepth 20000 in
theorem gX12_width_X12_isPlace : GoodIn wsX12_width (wsV RX12 107 RX12 yX12_isPlace wsX12_isPlace) := goodIn_app (goodIn_of _ (by decide +kernel)) ggX12_width_X12_isPlace
set_option maxRecDepth 20000 in
theorem ggX12_width_X12_look : GoodIn wsX12_width wsX12_look := goodIn_r _ [17, 18, 19, 20, 3, 21, 12, 13, 22, 23, 24, 25, 26, 27, 5, 6, 7, 28, 29, 30, 31, 32, 33, 34, 35, 36, 37, 38, 39, 40, 41, 42, 50, 51, 52, 53, 54, 55, 56, 57, 58, 59, 60, 61, 62, 63, 64, 65, 66, 67, 68, 69, 70, 71, 72, 73, 74, 75, 76, 77, 78, 79, 80, 81, 82, 83, 84, 85, 86, 87, 88, 89, 90, 91, 92] (by decide +kernel) (by decide +kernel)
set_option maxRecDepth 20000 in
theorem gX12_width_X12_look : GoodIn wsX12_width (wsV RX12 124 RX12 yX12_look wsX12_look) := goodIn_app (goodIn_of _ (by decide +kernel)) ggX12_width_X12_look
set_option maxRecDepth 20000 in
theorem ggX12_width_X12_takeOf : GoodIn wsX12_width wsX12_takeOf := goodIn_r _ [46, 32, 47, 48, 3, 49, 50, 51, 52, 53, 54, 55, 56, 57, 58, 59, 60, 61, 62, 63, 64, 65, 66, 67, 68, 69, 70, 71, 72, 73, 74, 75, 76, 77, 78, 79, 80, 81, 82, 83, 84, 85, 86, 87, 88, 89, 90, 91, 92] (by decide +kernel) (by decide +kernel)
set_option maxRecDepth 20000 in
theorem gX12_width_X12_takeOf : GoodIn wsX12_width (wsV RX12 120 RX12 yX12_takeOf wsX12_takeOf) := goodIn_app (goodIn_of _ (by decide +kernel)) ggX12_width_X12_takeOf
set_option maxRecDepth 20000 in
theorem ggX12_width_X12_abs : GoodIn wsX12_width wsX12_abs := goodIn_r _ [49] (by decide +kernel) (by decide +kernel)
set_option maxRecDepth 20000 in
theorem gX12_width_X12_abs : GoodIn wsX12_width (va_wsS RX12 117 yX12_abs wsX12_abs) := goodIn_app (goodIn_of _ (by decide +kernel)) ggX12_width_X12_abs
theorem dX12_width_0 : decode cX12_width 0 = .ok (.iload_n 1, 1) := by decide +kernel
theorem dX12_width_1 : decode cX12_width 1 = .ok (.invokestatic 111, 3) := by decide +kernel
theorem dX12_width_4 : decode cX12_width 4 = .ok (.ifCond .eq 28, 3) := by decide +kernel
theorem dX12_width_7 : decode cX12_width 7 = .ok (.iload_n 2, 1) := by decide +kernel
theorem dX12_width_8 : decode cX12_width 8 = .ok (.invokestatic 111, 3) := by decide +kernel
theorem dX12_width_11 : decode cX12_width 11 = .ok (.ifCond .eq 21, 3) := by decide +kernel
theorem dX12_width_14 : decode cX12_width 14 = .ok (.aload_n 0, 1) := by decide +kernel
theorem dX12_width_15 : decode cX12_width 15 = .ok (.iload_n 3, 1) := by decide +kernel
theorem dX12_width_16 : decode cX12_width 16 = .ok (.iload 4, 2) := by decide +kernel
theorem dX12_width_18 : decode cX12_width 18 = .ok (.invokevirtual 107, 3) := by decide +kernel
theorem dX12_width_21 : decode cX12_width 21 = .ok (.ifCond .eq 11, 3) := by decide +kernel
theorem dX12_width_24 : decode cX12_width 24 = .ok (.iload 5, 2) := by decide +kernel
theorem dX12_width_26 : decode cX12_width 26 = .ok (.invokestatic 111, 3) := by decide +kernel
theorem dX12_width_29 : decode cX12_width 29 = .ok (.ifCond .ne 5, 3) := by decide +kernel
theorem dX12_width_32 : decode cX12_width 32 = .ok (.iconst (-1), 1) := by decide +kernel
theorem dX12_width_33 : decode cX12_width 33 = .ok (.ireturn, 1) := by decide +kernel
theorem dX12_width_34 : decode cX12_width 34 = .ok (.aload_n 0, 1) := by decide +kernel
theorem dX12_width_35 : decode cX12_width 35 = .ok (.iload_n 3, 1) := by decide +kernel
theorem dX12_width_36 : decode cX12_width 36 = .ok (.iload 4, 2) := by decide +kernel
theorem dX12_width_38 : decode cX12_width 38 = .ok (.iconst 0, 1) := by decide +kernel
theorem dX12_width_39 : decode cX12_width 39 = .ok (.invokevirtual 124, 3) := by decide +kernel
theorem dX12_width_42 : decode cX12_width 42 = .ok (.iconst 0, 1) := by decide +kernel
theorem dX12_width_43 : decode cX12_width 43 = .ok (.istore 6, 2) := by decide +kernel
theorem dX12_width_45 : decode cX12_width 45 = .ok (.iconst (-1), 1) := by decide +kernel
theorem dX12_width_46 : decode cX12_width 46 = .ok (.istore 7, 2) := by decide +kernel
theorem dX12_width_48 : decode cX12_width 48 = .ok (.iconst 0, 1) := by decide +kernel
theorem dX12_width_49 : decode cX12_width 49 = .ok (.istore 8, 2) := by decide +kernel
theorem dX12_width_51 : decode cX12_width 51 = .ok (.iload 8, 2) := by decide +kernel
theorem dX12_width_53 : decode cX12_width 53 = .ok (.bipush 8, 2) := by decide +kernel
theorem dX12_width_55 : decode cX12_width 55 = .ok (.if_icmp .ge 51, 3) := by decide +kernel
theorem dX12_width_58 : decode cX12_width 58 = .ok (.aload_n 0, 1) := by decide +kernel
theorem dX12_width_59 : decode cX12_width 59 = .ok (.iload_n 1, 1) := by decide +kernel
theorem dX12_width_60 : decode cX12_width 60 = .ok (.iload 8, 2) := by decide +kernel
theorem dX12_width_62 : decode cX12_width 62 = .ok (.iload 5, 2) := by decide +kernel
theorem dX12_width_64 : decode cX12_width 64 = .ok (.invokevirtual 120, 3) := by decide +kernel
theorem dX12_width_67 : decode cX12_width 67 = .ok (.aload_n 0, 1) := by decide +kernel
theorem dX12_width_68 : decode cX12_width 68 = .ok (.iload_n 2, 1) := by decide +kernel
theorem dX12_width_69 : decode cX12_width 69 = .ok (.iload 8, 2) := by decide +kernel
theorem dX12_width_71 : decode cX12_width 71 = .ok (.iload 5, 2) := by decide +kernel
theorem dX12_width_73 : decode cX12_width 73 = .ok (.invokevirtual 120, 3) := by decide +kernel
theorem dX12_width_76 : decode cX12_width 76 = .ok (.isub, 1) := by decide +kernel
theorem dX12_width_77 : decode cX12_width 77 = .ok (.invokestatic 117, 3) := by decide +kernel
theorem dX12_width_80 : decode cX12_width 80 = .ok (.istore 9, 2) := by decide +kernel
theorem dX12_width_82 : decode cX12_width 82 = .ok (.iload 9, 2) := by decide +kernel
theorem dX12_width_84 : decode cX12_width 84 = .ok (.iload 7, 2) := by decide +kernel
theorem dX12_width_86 : decode cX12_width 86 = .ok (.if_icmp .gt 6, 3) := by decide +kernel
theorem dX12_width_89 : decode cX12_width 89 = .ok (.goto 11, 3) := by decide +kernel
theorem dX12_width_92 : decode cX12_width 92 = .ok (.iload 8, 2) := by decide +kernel
theorem dX12_width_94 : decode cX12_width 94 = .ok (.istore 6, 2) := by decide +kernel
theorem dX12_width_96 : decode cX12_width 96 = .ok (.iload 9, 2) := by decide +kernel
theorem dX12_width_98 : decode cX12_width 98 = .ok (.istore 7, 2) := by decide +kernel
theorem dX12_width_100 : decode cX12_width 100 = .ok (.iinc 8 1, 3) := by decide +kernel
theorem dX12_width_103 : decode cX12_width 103 = .ok (.goto (-52), 3) := by decide +kernel
theorem dX12_width_106 : decode cX12_width 106 = .ok (.iload 6, 2) := by decide +kernel
theorem dX12_width_108 : decode cX12_width 108 = .ok (.ireturn, 1) := by decide +kernel
set_option maxRecDepth 20000 in
theorem ggX12_same_X12_isIn : GoodIn wsX12_same wsX12_isIn := goodIn_r _ [8] (by decide +kernel) (by decide +kernel)
set_option maxRecDepth 20000 in
theorem gX12_same_X12_isIn : GoodIn wsX12_same (va_wsS RX12 71 yX12_isIn wsX12_isIn) := goodIn_app (goodIn_of _ (by decide +kernel)) ggX12_same_X12_isIn
set_option maxRecDepth 20000 in
theorem ggX12_same_X12_isPlace : GoodIn wsX12_same wsX12_isPlace := goodIn_r _ [12, 2, 3, 5, 6, 7, 8, 55, 56, 57, 58, 59, 60, 61, 62, 63, 64, 65, 66, 67, 68, 69, 70, 71, 72, 73, 74, 75, 76, 77, 78, 79, 80, 81, 82, 83, 84, 85, 86, 87, 88, 89, 90, 91, 92, 93, 94, 95, 96, 97] (by decide +kernel) (by decide +kernel)
set_option maxRecDepth 20000 in
theorem gX12_same_X12_isPlace : GoodIn wsX12_same (wsV RX12 107 RX12 yX12_isPlace wsX12_isPlace) := goodIn_app (goodIn_of _ (by decide +kernel)) ggX12_same_X12_isPlace
set_option maxRecDepth 20000 in
theorem ggX12_same_X12_isSide : GoodIn wsX12_same wsX12_isSide := goodIn_r _ [15, 5, 6, 7, 8] (by decide +kernel) (by decide +kernel)
set_option maxRecDepth 20000 in
theorem gX12_same_X12_isSide : GoodIn wsX12_same (va_wsS RX12 111 yX12_isSide wsX12_isSide) := goodIn_app (goodIn_of _ (by decide +kernel)) ggX12_same_X12_isSide
set_option maxRecDepth 20000 in
theorem ggX12_same_X12_look : GoodIn wsX12_same wsX12_look := goodIn_r _ [19, 20, 21, 22, 7, 23, 2, 3, 24, 1, 25, 26, 27, 28, 5, 6, 8, 29, 30, 31, 32, 33, 34, 35, 36, 37, 38, 39, 40, 41, 42, 43, 55, 56, 57, 58, 59, 60, 61, 62, 63, 64, 65, 66, 67, 68, 69, 70, 71, 72, 73, 74, 75, 76, 77, 78, 79, 80, 81, 82, 83, 84, 85, 86, 87, 88, 89, 90, 91, 92, 93, 94, 95, 96, 97] (by decide +kernel) (by decide +kernel)
set_option maxRecDepth 20000 in
theorem gX12_same_X12_look : GoodIn wsX12_same (wsV RX12 124 RX12 yX12_look wsX12_look) := goodIn_app (goodIn_of _ (by decide +kernel)) ggX12_same_X12_look
set_option maxRecDepth 20000 in
theorem ggX12_same_X12_lensTake : GoodIn wsX12_same wsX12_lensTake := goodIn_r _ [47, 1, 48, 49, 50, 7, 51, 33, 52, 53, 54, 55, 56, 57, 58, 59, 60, 61, 62, 63, 64, 65, 66, 67, 68, 69, 70, 71, 72, 73, 74, 75, 76, 77, 78, 79, 80, 81, 82, 83, 84, 85, 86, 87, 88, 89, 90, 91, 92, 93, 94, 95, 96, 97] (by decide +kernel) (by decide +kernel)
set_option maxRecDepth 20000 in
theorem gX12_same_X12_lensTake : GoodIn wsX12_same (wsV RX12 127 RX12 yX12_lensTake wsX12_lensTake) := goodIn_app (goodIn_of _ (by decide +kernel)) ggX12_same_X12_lensTake
theorem dX12_same_0 : decode cX12_same 0 = .ok (.iload_n 1, 1) := by decide +kernel
theorem dX12_same_1 : decode cX12_same 1 = .ok (.iconst 0, 1) := by decide +kernel
theorem dX12_same_2 : decode cX12_same 2 = .ok (.aload_n 0, 1) := by decide +kernel
theorem dX12_same_3 : decode cX12_same 3 = .ok (.getfield 7, 3) := by decide +kernel
theorem dX12_same_6 : decode cX12_same 6 = .ok (.iconst 0, 1) := by decide +kernel
theorem dX12_same_7 : decode cX12_same 7 = .ok (.iaload, 1) := by decide +kernel
theorem dX12_same_8 : decode cX12_same 8 = .ok (.iconst 1, 1) := by decide +kernel
theorem dX12_same_9 : decode cX12_same 9 = .ok (.isub, 1) := by decide +kernel
theorem dX12_same_10 : decode cX12_same 10 = .ok (.invokestatic 71, 3) := by decide +kernel
theorem dX12_same_13 : decode cX12_same 13 = .ok (.ifCond .eq 44, 3) := by decide +kernel
theorem dX12_same_16 : decode cX12_same 16 = .ok (.aload_n 0, 1) := by decide +kernel
theorem dX12_same_17 : decode cX12_same 17 = .ok (.iload 4, 2) := by decide +kernel
theorem dX12_same_19 : decode cX12_same 19 = .ok (.iload 5, 2) := by decide +kernel
theorem dX12_same_21 : decode cX12_same 21 = .ok (.invokevirtual 107, 3) := by decide +kernel
theorem dX12_same_24 : decode cX12_same 24 = .ok (.ifCond .eq 33, 3) := by decide +kernel
theorem dX12_same_27 : decode cX12_same 27 = .ok (.iload 6, 2) := by decide +kernel
theorem dX12_same_29 : decode cX12_same 29 = .ok (.invokestatic 111, 3) := by decide +kernel
theorem dX12_same_32 : decode cX12_same 32 = .ok (.ifCond .eq 25, 3) := by decide +kernel
theorem dX12_same_35 : decode cX12_same 35 = .ok (.iload_n 2, 1) := by decide +kernel
theorem dX12_same_36 : decode cX12_same 36 = .ok (.bipush (-23), 2) := by decide +kernel
theorem dX12_same_38 : decode cX12_same 38 = .ok (.bipush 23, 2) := by decide +kernel
theorem dX12_same_40 : decode cX12_same 40 = .ok (.invokestatic 71, 3) := by decide +kernel
theorem dX12_same_43 : decode cX12_same 43 = .ok (.ifCond .eq 14, 3) := by decide +kernel
theorem dX12_same_46 : decode cX12_same 46 = .ok (.iload_n 3, 1) := by decide +kernel
theorem dX12_same_47 : decode cX12_same 47 = .ok (.bipush (-23), 2) := by decide +kernel
theorem dX12_same_49 : decode cX12_same 49 = .ok (.bipush 23, 2) := by decide +kernel
theorem dX12_same_51 : decode cX12_same 51 = .ok (.invokestatic 71, 3) := by decide +kernel
theorem dX12_same_54 : decode cX12_same 54 = .ok (.ifCond .ne 5, 3) := by decide +kernel
theorem dX12_same_57 : decode cX12_same 57 = .ok (.iconst (-1), 1) := by decide +kernel
theorem dX12_same_58 : decode cX12_same 58 = .ok (.ireturn, 1) := by decide +kernel
theorem dX12_same_59 : decode cX12_same 59 = .ok (.aload_n 0, 1) := by decide +kernel
theorem dX12_same_60 : decode cX12_same 60 = .ok (.getfield 7, 3) := by decide +kernel
theorem dX12_same_63 : decode cX12_same 63 = .ok (.sipush 590, 3) := by decide +kernel
theorem dX12_same_66 : decode cX12_same 66 = .ok (.iconst 4, 1) := by decide +kernel
theorem dX12_same_67 : decode cX12_same 67 = .ok (.iload_n 1, 1) := by decide +kernel
theorem dX12_same_68 : decode cX12_same 68 = .ok (.imul, 1) := by decide +kernel
theorem dX12_same_69 : decode cX12_same 69 = .ok (.iadd, 1) := by decide +kernel
theorem dX12_same_70 : decode cX12_same 70 = .ok (.iaload, 1) := by decide +kernel
theorem dX12_same_71 : decode cX12_same 71 = .ok (.istore 7, 2) := by decide +kernel
theorem dX12_same_73 : decode cX12_same 73 = .ok (.iload 7, 2) := by decide +kernel
theorem dX12_same_75 : decode cX12_same 75 = .ok (.aload_n 0, 1) := by decide +kernel
theorem dX12_same_76 : decode cX12_same 76 = .ok (.getfield 61, 3) := by decide +kernel
theorem dX12_same_79 : decode cX12_same 79 = .ok (.irem, 1) := by decide +kernel
theorem dX12_same_80 : decode cX12_same 80 = .ok (.iload_n 2, 1) := by decide +kernel
theorem dX12_same_81 : decode cX12_same 81 = .ok (.iadd, 1) := by decide +kernel
theorem dX12_same_82 : decode cX12_same 82 = .ok (.istore 8, 2) := by decide +kernel
theorem dX12_same_84 : decode cX12_same 84 = .ok (.iload 7, 2) := by decide +kernel
theorem dX12_same_86 : decode cX12_same 86 = .ok (.aload_n 0, 1) := by decide +kernel
theorem dX12_same_87 : decode cX12_same 87 = .ok (.getfield 61, 3) := by decide +kernel
theorem dX12_same_90 : decode cX12_same 90 = .ok (.idiv, 1) := by decide +kernel
theorem dX12_same_91 : decode cX12_same 91 = .ok (.iload_n 3, 1) := by decide +kernel
theorem dX12_same_92 : decode cX12_same 92 = .ok (.iadd, 1) := by decide +kernel
theorem dX12_same_93 : decode cX12_same 93 = .ok (.istore 9, 2) := by decide +kernel
theorem dX12_same_95 : decode cX12_same 95 = .ok (.iload 8, 2) := by decide +kernel
theorem dX12_same_97 : decode cX12_same 97 = .ok (.iconst 0, 1) := by decide +kernel
theorem dX12_same_98 : decode cX12_same 98 = .ok (.aload_n 0, 1) := by decide +kernel
theorem dX12_same_99 : decode cX12_same 99 = .ok (.getfield 61, 3) := by decide +kernel
theorem dX12_same_102 : decode cX12_same 102 = .ok (.iconst 1, 1) := by decide +kernel
theorem dX12_same_103 : decode cX12_same 103 = .ok (.isub, 1) := by decide +kernel
theorem dX12_same_104 : decode cX12_same 104 = .ok (.invokestatic 71, 3) := by decide +kernel
theorem dX12_same_107 : decode cX12_same 107 = .ok (.ifCond .eq 18, 3) := by decide +kernel
theorem dX12_same_110 : decode cX12_same 110 = .ok (.iload 9, 2) := by decide +kernel
theorem dX12_same_112 : decode cX12_same 112 = .ok (.iconst 0, 1) := by decide +kernel
theorem dX12_same_113 : decode cX12_same 113 = .ok (.aload_n 0, 1) := by decide +kernel
theorem dX12_same_114 : decode cX12_same 114 = .ok (.getfield 64, 3) := by decide +kernel
theorem dX12_same_117 : decode cX12_same 117 = .ok (.iconst 1, 1) := by decide +kernel
theorem dX12_same_118 : decode cX12_same 118 = .ok (.isub, 1) := by decide +kernel
theorem dX12_same_119 : decode cX12_same 119 = .ok (.invokestatic 71, 3) := by decide +kernel
theorem dX12_same_122 : decode cX12_same 122 = .ok (.ifCond .ne 5, 3) := by decide +kernel
theorem dX12_same_125 : decode cX12_same 125 = .ok (.iconst (-1), 1) := by decide +kernel
theorem dX12_same_126 : decode cX12_same 126 = .ok (.ireturn, 1) := by decide +kernel
theorem dX12_same_127 : decode cX12_same 127 = .ok (.aload_n 0, 1) := by decide +kernel
theorem dX12_same_128 : decode cX12_same 128 = .ok (.iload 4, 2) := by decide +kernel
theorem dX12_same_130 : decode cX12_same 130 = .ok (.iload 5, 2) := by decide +kernel
theorem dX12_same_132 : decode cX12_same 132 = .ok (.iconst 0, 1) := by decide +kernel
theorem dX12_same_133 : decode cX12_same 133 = .ok (.invokevirtual 124, 3) := by decide +kernel
theorem dX12_same_136 : decode cX12_same 136 = .ok (.iconst 0, 1) := by decide +kernel
theorem dX12_same_137 : decode cX12_same 137 = .ok (.istore 10, 2) := by decide +kernel
theorem dX12_same_139 : decode cX12_same 139 = .ok (.iload 10, 2) := by decide +kernel
theorem dX12_same_141 : decode cX12_same 141 = .ok (.aload_n 0, 1) := by decide +kernel
theorem dX12_same_142 : decode cX12_same 142 = .ok (.getfield 7, 3) := by decide +kernel
theorem dX12_same_145 : decode cX12_same 145 = .ok (.iconst 1, 1) := by decide +kernel
theorem dX12_same_146 : decode cX12_same 146 = .ok (.iaload, 1) := by decide +kernel
theorem dX12_same_147 : decode cX12_same 147 = .ok (.if_icmp .ge 24, 3) := by decide +kernel
theorem dX12_same_150 : decode cX12_same 150 = .ok (.aload_n 0, 1) := by decide +kernel
theorem dX12_same_151 : decode cX12_same 151 = .ok (.getfield 28, 3) := by decide +kernel
theorem dX12_same_154 : decode cX12_same 154 = .ok (.iload 10, 2) := by decide +kernel
theorem dX12_same_156 : decode cX12_same 156 = .ok (.aload_n 0, 1) := by decide +kernel
theorem dX12_same_157 : decode cX12_same 157 = .ok (.iload 10, 2) := by decide +kernel
theorem dX12_same_159 : decode cX12_same 159 = .ok (.iload 6, 2) := by decide +kernel
theorem dX12_same_161 : decode cX12_same 161 = .ok (.invokevirtual 127, 3) := by decide +kernel
theorem dX12_same_164 : decode cX12_same 164 = .ok (.iastore, 1) := by decide +kernel
theorem dX12_same_165 : decode cX12_same 165 = .ok (.iinc 10 1, 3) := by decide +kernel
theorem dX12_same_168 : decode cX12_same 168 = .ok (.goto (-29), 3) := by decide +kernel
theorem dX12_same_171 : decode cX12_same 171 = .ok (.aload_n 0, 1) := by decide +kernel
theorem dX12_same_172 : decode cX12_same 172 = .ok (.getfield 7, 3) := by decide +kernel
theorem dX12_same_175 : decode cX12_same 175 = .ok (.sipush 590, 3) := by decide +kernel
theorem dX12_same_178 : decode cX12_same 178 = .ok (.iconst 4, 1) := by decide +kernel
theorem dX12_same_179 : decode cX12_same 179 = .ok (.iload_n 1, 1) := by decide +kernel
theorem dX12_same_180 : decode cX12_same 180 = .ok (.imul, 1) := by decide +kernel
theorem dX12_same_181 : decode cX12_same 181 = .ok (.iadd, 1) := by decide +kernel
theorem dX12_same_182 : decode cX12_same 182 = .ok (.iload 9, 2) := by decide +kernel
theorem dX12_same_184 : decode cX12_same 184 = .ok (.aload_n 0, 1) := by decide +kernel
theorem dX12_same_185 : decode cX12_same 185 = .ok (.getfield 61, 3) := by decide +kernel
theorem dX12_same_188 : decode cX12_same 188 = .ok (.imul, 1) := by decide +kernel
theorem dX12_same_189 : decode cX12_same 189 = .ok (.iload 8, 2) := by decide +kernel
theorem dX12_same_191 : decode cX12_same 191 = .ok (.iadd, 1) := by decide +kernel
theorem dX12_same_192 : decode cX12_same 192 = .ok (.iastore, 1) := by decide +kernel
theorem dX12_same_193 : decode cX12_same 193 = .ok (.aload_n 0, 1) := by decide +kernel
theorem dX12_same_194 : decode cX12_same 194 = .ok (.iload 4, 2) := by decide +kernel
theorem dX12_same_196 : decode cX12_same 196 = .ok (.iload 5, 2) := by decide +kernel
theorem dX12_same_198 : decode cX12_same 198 = .ok (.iconst 0, 1) := by decide +kernel
theorem dX12_same_199 : decode cX12_same 199 = .ok (.invokevirtual 124, 3) := by decide +kernel
theorem dX12_same_202 : decode cX12_same 202 = .ok (.iconst 1, 1) := by decide +kernel
theorem dX12_same_203 : decode cX12_same 203 = .ok (.istore 10, 2) := by decide +kernel
theorem dX12_same_205 : decode cX12_same 205 = .ok (.iconst 0, 1) := by decide +kernel
theorem dX12_same_206 : decode cX12_same 206 = .ok (.istore 11, 2) := by decide +kernel
theorem dX12_same_208 : decode cX12_same 208 = .ok (.iload 11, 2) := by decide +kernel
theorem dX12_same_210 : decode cX12_same 210 = .ok (.aload_n 0, 1) := by decide +kernel
theorem dX12_same_211 : decode cX12_same 211 = .ok (.getfield 7, 3) := by decide +kernel
theorem dX12_same_214 : decode cX12_same 214 = .ok (.iconst 1, 1) := by decide +kernel
theorem dX12_same_215 : decode cX12_same 215 = .ok (.iaload, 1) := by decide +kernel
theorem dX12_same_216 : decode cX12_same 216 = .ok (.if_icmp .ge 39, 3) := by decide +kernel
theorem dX12_same_219 : decode cX12_same 219 = .ok (.iload 10, 2) := by decide +kernel
theorem dX12_same_221 : decode cX12_same 221 = .ok (.ifCond .eq 25, 3) := by decide +kernel
theorem dX12_same_224 : decode cX12_same 224 = .ok (.aload_n 0, 1) := by decide +kernel
theorem dX12_same_225 : decode cX12_same 225 = .ok (.iload 11, 2) := by decide +kernel
theorem dX12_same_227 : decode cX12_same 227 = .ok (.iload 6, 2) := by decide +kernel
theorem dX12_same_229 : decode cX12_same 229 = .ok (.invokevirtual 127, 3) := by decide +kernel
theorem dX12_same_232 : decode cX12_same 232 = .ok (.aload_n 0, 1) := by decide +kernel
theorem dX12_same_233 : decode cX12_same 233 = .ok (.getfield 28, 3) := by decide +kernel
theorem dX12_same_236 : decode cX12_same 236 = .ok (.iload 11, 2) := by decide +kernel
theorem dX12_same_238 : decode cX12_same 238 = .ok (.iaload, 1) := by decide +kernel
theorem dX12_same_239 : decode cX12_same 239 = .ok (.if_icmp .ne 7, 3) := by decide +kernel
theorem dX12_same_242 : decode cX12_same 242 = .ok (.iconst 1, 1) := by decide +kernel
theorem dX12_same_243 : decode cX12_same 243 = .ok (.goto 4, 3) := by decide +kernel
theorem dX12_same_246 : decode cX12_same 246 = .ok (.iconst 0, 1) := by decide +kernel
theorem dX12_same_247 : decode cX12_same 247 = .ok (.istore 10, 2) := by decide +kernel
theorem dX12_same_249 : decode cX12_same 249 = .ok (.iinc 11 1, 3) := by decide +kernel
theorem dX12_same_252 : decode cX12_same 252 = .ok (.goto (-44), 3) := by decide +kernel
theorem dX12_same_255 : decode cX12_same 255 = .ok (.aload_n 0, 1) := by decide +kernel
theorem dX12_same_256 : decode cX12_same 256 = .ok (.getfield 7, 3) := by decide +kernel
theorem dX12_same_259 : decode cX12_same 259 = .ok (.sipush 590, 3) := by decide +kernel
theorem dX12_same_262 : decode cX12_same 262 = .ok (.iconst 4, 1) := by decide +kernel
theorem dX12_same_263 : decode cX12_same 263 = .ok (.iload_n 1, 1) := by decide +kernel
theorem dX12_same_264 : decode cX12_same 264 = .ok (.imul, 1) := by decide +kernel
theorem dX12_same_265 : decode cX12_same 265 = .ok (.iadd, 1) := by decide +kernel
theorem dX12_same_266 : decode cX12_same 266 = .ok (.iload 7, 2) := by decide +kernel
theorem dX12_same_268 : decode cX12_same 268 = .ok (.iastore, 1) := by decide +kernel
theorem dX12_same_269 : decode cX12_same 269 = .ok (.iload 10, 2) := by decide +kernel
theorem dX12_same_271 : decode cX12_same 271 = .ok (.ifCond .eq 7, 3) := by decide +kernel
theorem dX12_same_274 : decode cX12_same 274 = .ok (.iconst 1, 1) := by decide +kernel
theorem dX12_same_275 : decode cX12_same 275 = .ok (.goto 4, 3) := by decide +kernel
theorem dX12_same_278 : decode cX12_same 278 = .ok (.iconst 0, 1) := by decide +kernel
theorem dX12_same_279 : decode cX12_same 279 = .ok (.ireturn, 1) := by decide +kernel
theorem dX12_four_0 : decode cX12_four 0 = .ok (.bipush 24, 2) := by decide +kernel
theorem dX12_four_2 : decode cX12_four 2 = .ok (.istore_n 2, 1) := by decide +kernel
theorem dX12_four_3 : decode cX12_four 3 = .ok (.iload_n 2, 1) := by decide +kernel
theorem dX12_four_4 : decode cX12_four 4 = .ok (.ifCond .lt 35, 3) := by decide +kernel
theorem dX12_four_7 : decode cX12_four 7 = .ok (.aload_n 0, 1) := by decide +kernel
theorem dX12_four_8 : decode cX12_four 8 = .ok (.getfield 31, 3) := by decide +kernel
theorem dX12_four_11 : decode cX12_four 11 = .ok (.aload_n 0, 1) := by decide +kernel
theorem dX12_four_12 : decode cX12_four 12 = .ok (.getfield 136, 3) := by decide +kernel
theorem dX12_four_15 : decode cX12_four 15 = .ok (.iload_n 1, 1) := by decide +kernel
theorem dX12_four_16 : decode cX12_four 16 = .ok (.iload_n 2, 1) := by decide +kernel
theorem dX12_four_17 : decode cX12_four 17 = .ok (.ishr, 1) := by decide +kernel
theorem dX12_four_18 : decode cX12_four 18 = .ok (.sipush 255, 3) := by decide +kernel
theorem dX12_four_21 : decode cX12_four 21 = .ok (.iand, 1) := by decide +kernel
theorem dX12_four_22 : decode cX12_four 22 = .ok (.iastore, 1) := by decide +kernel
theorem dX12_four_23 : decode cX12_four 23 = .ok (.aload_n 0, 1) := by decide +kernel
theorem dX12_four_24 : decode cX12_four 24 = .ok (.dup, 1) := by decide +kernel
theorem dX12_four_25 : decode cX12_four 25 = .ok (.getfield 136, 3) := by decide +kernel
theorem dX12_four_28 : decode cX12_four 28 = .ok (.iconst 1, 1) := by decide +kernel
theorem dX12_four_29 : decode cX12_four 29 = .ok (.iadd, 1) := by decide +kernel
theorem dX12_four_30 : decode cX12_four 30 = .ok (.putfield 136, 3) := by decide +kernel
theorem dX12_four_33 : decode cX12_four 33 = .ok (.iinc 2 (-8), 3) := by decide +kernel
theorem dX12_four_36 : decode cX12_four 36 = .ok (.goto (-33), 3) := by decide +kernel
theorem dX12_four_39 : decode cX12_four 39 = .ok (.return_, 1) := by decide +kernel
set_option maxRecDepth 20000 in
theorem ggX12_feed_X12_four : GoodIn wsX12_feed wsX12_four := goodIn_r _ [6, 7, 1, 8, 9, 10, 11, 12, 13, 14, 15, 16, 17, 18, 19, 20, 21, 22, 23, 24, 25, 26, 27, 28, 29, 30, 31, 32, 33, 34, 35, 36, 37, 38, 39, 40, 41, 42, 43, 44, 45, 46, 47, 48, 49, 50] (by decide +kernel) (by decide +kernel)
set_option maxRecDepth 20000 in
theorem gX12_feed_X12_four : GoodIn wsX12_feed (wsV RX12 139 RX12 yX12_four wsX12_four) := goodIn_app (goodIn_of _ (by decide +kernel)) ggX12_feed_X12_four
theorem dX12_feed_0 : decode cX12_feed 0 = .ok (.aload_n 0, 1) := by decide +kernel
theorem dX12_feed_1 : decode cX12_feed 1 = .ok (.getfield 136, 3) := by decide +kernel
theorem dX12_feed_4 : decode cX12_feed 4 = .ok (.bipush 20, 2) := by decide +kernel
theorem dX12_feed_6 : decode cX12_feed 6 = .ok (.iadd, 1) := by decide +kernel
theorem dX12_feed_7 : decode cX12_feed 7 = .ok (.sipush 300, 3) := by decide +kernel
theorem dX12_feed_10 : decode cX12_feed 10 = .ok (.if_icmp .le 5, 3) := by decide +kernel
theorem dX12_feed_13 : decode cX12_feed 13 = .ok (.iconst (-1), 1) := by decide +kernel
theorem dX12_feed_14 : decode cX12_feed 14 = .ok (.ireturn, 1) := by decide +kernel
theorem dX12_feed_15 : decode cX12_feed 15 = .ok (.aload_n 0, 1) := by decide +kernel
theorem dX12_feed_16 : decode cX12_feed 16 = .ok (.iload_n 1, 1) := by decide +kernel
theorem dX12_feed_17 : decode cX12_feed 17 = .ok (.invokevirtual 139, 3) := by decide +kernel
theorem dX12_feed_20 : decode cX12_feed 20 = .ok (.aload_n 0, 1) := by decide +kernel
theorem dX12_feed_21 : decode cX12_feed 21 = .ok (.iload_n 2, 1) := by decide +kernel
theorem dX12_feed_22 : decode cX12_feed 22 = .ok (.invokevirtual 139, 3) := by decide +kernel
theorem dX12_feed_25 : decode cX12_feed 25 = .ok (.aload_n 0, 1) := by decide +kernel
theorem dX12_feed_26 : decode cX12_feed 26 = .ok (.iload_n 3, 1) := by decide +kernel
theorem dX12_feed_27 : decode cX12_feed 27 = .ok (.invokevirtual 139, 3) := by decide +kernel
theorem dX12_feed_30 : decode cX12_feed 30 = .ok (.aload_n 0, 1) := by decide +kernel
theorem dX12_feed_31 : decode cX12_feed 31 = .ok (.iload 4, 2) := by decide +kernel
theorem dX12_feed_33 : decode cX12_feed 33 = .ok (.invokevirtual 139, 3) := by decide +kernel
theorem dX12_feed_36 : decode cX12_feed 36 = .ok (.aload_n 0, 1) := by decide +kernel
theorem dX12_feed_37 : decode cX12_feed 37 = .ok (.iload 5, 2) := by decide +kernel
theorem dX12_feed_39 : decode cX12_feed 39 = .ok (.invokevirtual 139, 3) := by decide +kernel
theorem dX12_feed_42 : decode cX12_feed 42 = .ok (.aload_n 0, 1) := by decide +kernel
theorem dX12_feed_43 : decode cX12_feed 43 = .ok (.getfield 136, 3) := by decide +kernel
theorem dX12_feed_46 : decode cX12_feed 46 = .ok (.ireturn, 1) := by decide +kernel
set_option maxRecDepth 20000 in
theorem ggX12_end_X12_isIn : GoodIn wsX12_end wsX12_isIn := goodIn_r _ [5] (by decide +kernel) (by decide +kernel)
set_option maxRecDepth 20000 in
theorem gX12_end_X12_isIn : GoodIn wsX12_end (va_wsS RX12 71 yX12_isIn wsX12_isIn) := goodIn_app (goodIn_of _ (by decide +kernel)) ggX12_end_X12_isIn
theorem dX12_end_0 : decode cX12_end 0 = .ok (.iload_n 1, 1) := by decide +kernel
theorem dX12_end_1 : decode cX12_end 1 = .ok (.iconst 0, 1) := by decide +kernel
theorem dX12_end_2 : decode cX12_end 2 = .ok (.aload_n 0, 1) := by decide +kernel
theorem dX12_end_3 : decode cX12_end 3 = .ok (.getfield 136, 3) := by decide +kernel
theorem dX12_end_6 : decode cX12_end 6 = .ok (.invokestatic 71, 3) := by decide +kernel
theorem dX12_end_9 : decode cX12_end 9 = .ok (.ifCond .ne 5, 3) := by decide +kernel
theorem dX12_end_12 : decode cX12_end 12 = .ok (.iconst (-1), 1) := by decide +kernel
theorem dX12_end_13 : decode cX12_end 13 = .ok (.ireturn, 1) := by decide +kernel
theorem dX12_end_14 : decode cX12_end 14 = .ok (.aload_n 0, 1) := by decide +kernel
theorem dX12_end_15 : decode cX12_end 15 = .ok (.iload_n 1, 1) := by decide +kernel
theorem dX12_end_16 : decode cX12_end 16 = .ok (.putfield 136, 3) := by decide +kernel
theorem dX12_end_19 : decode cX12_end 19 = .ok (.iload_n 1, 1) := by decide +kernel
theorem dX12_end_20 : decode cX12_end 20 = .ok (.ireturn, 1) := by decide +kernel
theorem dX12_see_0 : decode cX12_see 0 = .ok (.iload_n 1, 1) := by decide +kernel
theorem dX12_see_1 : decode cX12_see 1 = .ok (.aload_n 0, 1) := by decide +kernel
theorem dX12_see_2 : decode cX12_see 2 = .ok (.getfield 136, 3) := by decide +kernel
theorem dX12_see_5 : decode cX12_see 5 = .ok (.if_icmp .ge 12, 3) := by decide +kernel
theorem dX12_see_8 : decode cX12_see 8 = .ok (.aload_n 0, 1) := by decide +kernel
theorem dX12_see_9 : decode cX12_see 9 = .ok (.getfield 31, 3) := by decide +kernel
theorem dX12_see_12 : decode cX12_see 12 = .ok (.iload_n 1, 1) := by decide +kernel
theorem dX12_see_13 : decode cX12_see 13 = .ok (.iaload, 1) := by decide +kernel
theorem dX12_see_14 : decode cX12_see 14 = .ok (.goto 4, 3) := by decide +kernel
theorem dX12_see_17 : decode cX12_see 17 = .ok (.iconst (-1), 1) := by decide +kernel
theorem dX12_see_18 : decode cX12_see 18 = .ok (.ireturn, 1) := by decide +kernel
set_option maxRecDepth 20000 in
theorem ggX12_isLetter_X12_isIn : GoodIn wsX12_isLetter wsX12_isIn := goodIn_r _ [4] (by decide +kernel) (by decide +kernel)
set_option maxRecDepth 20000 in
theorem gX12_isLetter_X12_isIn : GoodIn wsX12_isLetter (va_wsS RX12 71 yX12_isIn wsX12_isIn) := goodIn_app (goodIn_of _ (by decide +kernel)) ggX12_isLetter_X12_isIn
theorem dX12_isLetter_0 : decode cX12_isLetter 0 = .ok (.iload_n 0, 1) := by decide +kernel
theorem dX12_isLetter_1 : decode cX12_isLetter 1 = .ok (.bipush 97, 2) := by decide +kernel
theorem dX12_isLetter_3 : decode cX12_isLetter 3 = .ok (.bipush 122, 2) := by decide +kernel
theorem dX12_isLetter_5 : decode cX12_isLetter 5 = .ok (.invokestatic 71, 3) := by decide +kernel
theorem dX12_isLetter_8 : decode cX12_isLetter 8 = .ok (.ifCond .ne 14, 3) := by decide +kernel
theorem dX12_isLetter_11 : decode cX12_isLetter 11 = .ok (.iload_n 0, 1) := by decide +kernel
theorem dX12_isLetter_12 : decode cX12_isLetter 12 = .ok (.bipush 65, 2) := by decide +kernel
theorem dX12_isLetter_14 : decode cX12_isLetter 14 = .ok (.bipush 90, 2) := by decide +kernel
theorem dX12_isLetter_16 : decode cX12_isLetter 16 = .ok (.invokestatic 71, 3) := by decide +kernel
theorem dX12_isLetter_19 : decode cX12_isLetter 19 = .ok (.ifCond .eq 7, 3) := by decide +kernel
theorem dX12_isLetter_22 : decode cX12_isLetter 22 = .ok (.iconst 1, 1) := by decide +kernel
theorem dX12_isLetter_23 : decode cX12_isLetter 23 = .ok (.goto 4, 3) := by decide +kernel
theorem dX12_isLetter_26 : decode cX12_isLetter 26 = .ok (.iconst 0, 1) := by decide +kernel
theorem dX12_isLetter_27 : decode cX12_isLetter 27 = .ok (.ireturn, 1) := by decide +kernel
set_option maxRecDepth 20000 in
theorem ggX12_isDigit_X12_isIn : GoodIn wsX12_isDigit wsX12_isIn := goodIn_r _ [4] (by decide +kernel) (by decide +kernel)
set_option maxRecDepth 20000 in
theorem gX12_isDigit_X12_isIn : GoodIn wsX12_isDigit (va_wsS RX12 71 yX12_isIn wsX12_isIn) := goodIn_app (goodIn_of _ (by decide +kernel)) ggX12_isDigit_X12_isIn
theorem dX12_isDigit_0 : decode cX12_isDigit 0 = .ok (.iload_n 0, 1) := by decide +kernel
theorem dX12_isDigit_1 : decode cX12_isDigit 1 = .ok (.bipush 48, 2) := by decide +kernel
theorem dX12_isDigit_3 : decode cX12_isDigit 3 = .ok (.bipush 57, 2) := by decide +kernel
theorem dX12_isDigit_5 : decode cX12_isDigit 5 = .ok (.invokestatic 71, 3) := by decide +kernel
theorem dX12_isDigit_8 : decode cX12_isDigit 8 = .ok (.ireturn, 1) := by decide +kernel
set_option maxRecDepth 20000 in
theorem ggX12_nextToken_X12_see : GoodIn wsX12_nextToken wsX12_see := goodIn_r _ [11, 12, 13, 23, 24, 25, 26, 27, 28, 29, 30, 31, 32, 33, 34, 35, 36, 37, 38, 39, 40, 41, 42, 43, 44, 45, 46, 47, 48, 49, 50, 51, 52, 53, 54, 55, 56, 57, 58, 59, 60, 61, 62, 63, 64, 65] (by decide +kernel) (by decide +kernel)
set_option maxRecDepth 20000 in
theorem gX12_nextToken_X12_see : GoodIn wsX12_nextToken (wsV RX12 145 RX12 yX12_see wsX12_see) := goodIn_app (goodIn_of _ (by decide +kernel)) ggX12_nextToken_X12_see
set_option maxRecDepth 20000 in
theorem ggX12_nextToken_X12_isDigit : GoodIn wsX12_nextToken wsX12_isDigit := goodIn_r _ [16, 17, 18, 10, 19] (by decide +kernel) (by decide +kernel)
set_option maxRecDepth 20000 in
theorem gX12_nextToken_X12_isDigit : GoodIn wsX12_nextToken (va_wsS RX12 154 yX12_isDigit wsX12_isDigit) := goodIn_app (goodIn_of _ (by decide +kernel)) ggX12_nextToken_X12_isDigit
set_option maxRecDepth 20000 in
theorem ggX12_nextToken_X12_isLetter : GoodIn wsX12_nextToken wsX12_isLetter := goodIn_r _ [22, 17, 18, 10, 19] (by decide +kernel) (by decide +kernel)
set_option maxRecDepth 20000 in
theorem gX12_nextToken_X12_isLetter : GoodIn wsX12_nextToken (va_wsS RX12 161 yX12_isLetter wsX12_isLetter) := goodIn_app (goodIn_of _ (by decide +kernel)) ggX12_nextToken_X12_isLetter
theorem dX12_nextToken_0 : decode cX12_nextToken 0 = .ok (.aload_n 0, 1) := by decide +kernel
theorem dX12_nextToken_1 : decode cX12_nextToken 1 = .ok (.aload_n 0, 1) := by decide +kernel
theorem dX12_nextToken_2 : decode cX12_nextToken 2 = .ok (.getfield 142, 3) := by decide +kernel
theorem dX12_nextToken_5 : decode cX12_nextToken 5 = .ok (.invokevirtual 145, 3) := by decide +kernel
theorem dX12_nextToken_8 : decode cX12_nextToken 8 = .ok (.bipush 32, 2) := by decide +kernel
theorem dX12_nextToken_10 : decode cX12_nextToken 10 = .ok (.if_icmp .eq 16, 3) := by decide +kernel
theorem dX12_nextToken_13 : decode cX12_nextToken 13 = .ok (.aload_n 0, 1) := by decide +kernel
theorem dX12_nextToken_14 : decode cX12_nextToken 14 = .ok (.aload_n 0, 1) := by decide +kernel
theorem dX12_nextToken_15 : decode cX12_nextToken 15 = .ok (.getfield 142, 3) := by decide +kernel
theorem dX12_nextToken_18 : decode cX12_nextToken 18 = .ok (.invokevirtual 145, 3) := by decide +kernel
theorem dX12_nextToken_21 : decode cX12_nextToken 21 = .ok (.bipush 10, 2) := by decide +kernel
theorem dX12_nextToken_23 : decode cX12_nextToken 23 = .ok (.if_icmp .ne 16, 3) := by decide +kernel
theorem dX12_nextToken_26 : decode cX12_nextToken 26 = .ok (.aload_n 0, 1) := by decide +kernel
theorem dX12_nextToken_27 : decode cX12_nextToken 27 = .ok (.dup, 1) := by decide +kernel
theorem dX12_nextToken_28 : decode cX12_nextToken 28 = .ok (.getfield 142, 3) := by decide +kernel
theorem dX12_nextToken_31 : decode cX12_nextToken 31 = .ok (.iconst 1, 1) := by decide +kernel
theorem dX12_nextToken_32 : decode cX12_nextToken 32 = .ok (.iadd, 1) := by decide +kernel
theorem dX12_nextToken_33 : decode cX12_nextToken 33 = .ok (.putfield 142, 3) := by decide +kernel
theorem dX12_nextToken_36 : decode cX12_nextToken 36 = .ok (.goto (-36), 3) := by decide +kernel
theorem dX12_nextToken_39 : decode cX12_nextToken 39 = .ok (.aload_n 0, 1) := by decide +kernel
theorem dX12_nextToken_40 : decode cX12_nextToken 40 = .ok (.aload_n 0, 1) := by decide +kernel
theorem dX12_nextToken_41 : decode cX12_nextToken 41 = .ok (.getfield 142, 3) := by decide +kernel
theorem dX12_nextToken_44 : decode cX12_nextToken 44 = .ok (.putfield 148, 3) := by decide +kernel
theorem dX12_nextToken_47 : decode cX12_nextToken 47 = .ok (.aload_n 0, 1) := by decide +kernel
theorem dX12_nextToken_48 : decode cX12_nextToken 48 = .ok (.aload_n 0, 1) := by decide +kernel
theorem dX12_nextToken_49 : decode cX12_nextToken 49 = .ok (.getfield 142, 3) := by decide +kernel
theorem dX12_nextToken_52 : decode cX12_nextToken 52 = .ok (.invokevirtual 145, 3) := by decide +kernel
theorem dX12_nextToken_55 : decode cX12_nextToken 55 = .ok (.istore_n 1, 1) := by decide +kernel
theorem dX12_nextToken_56 : decode cX12_nextToken 56 = .ok (.iload_n 1, 1) := by decide +kernel
theorem dX12_nextToken_57 : decode cX12_nextToken 57 = .ok (.ifCond .ge 11, 3) := by decide +kernel
theorem dX12_nextToken_60 : decode cX12_nextToken 60 = .ok (.aload_n 0, 1) := by decide +kernel
theorem dX12_nextToken_61 : decode cX12_nextToken 61 = .ok (.iconst 0, 1) := by decide +kernel
theorem dX12_nextToken_62 : decode cX12_nextToken 62 = .ok (.putfield 151, 3) := by decide +kernel
theorem dX12_nextToken_65 : decode cX12_nextToken 65 = .ok (.goto 331, 3) := by decide +kernel
theorem dX12_nextToken_68 : decode cX12_nextToken 68 = .ok (.iload_n 1, 1) := by decide +kernel
theorem dX12_nextToken_69 : decode cX12_nextToken 69 = .ok (.invokestatic 154, 3) := by decide +kernel
theorem dX12_nextToken_72 : decode cX12_nextToken 72 = .ok (.ifCond .eq 72, 3) := by decide +kernel
theorem dX12_nextToken_75 : decode cX12_nextToken 75 = .ok (.aload_n 0, 1) := by decide +kernel
theorem dX12_nextToken_76 : decode cX12_nextToken 76 = .ok (.iconst 1, 1) := by decide +kernel
theorem dX12_nextToken_77 : decode cX12_nextToken 77 = .ok (.putfield 151, 3) := by decide +kernel
theorem dX12_nextToken_80 : decode cX12_nextToken 80 = .ok (.aload_n 0, 1) := by decide +kernel
theorem dX12_nextToken_81 : decode cX12_nextToken 81 = .ok (.iconst 0, 1) := by decide +kernel
theorem dX12_nextToken_82 : decode cX12_nextToken 82 = .ok (.putfield 157, 3) := by decide +kernel
theorem dX12_nextToken_85 : decode cX12_nextToken 85 = .ok (.aload_n 0, 1) := by decide +kernel
theorem dX12_nextToken_86 : decode cX12_nextToken 86 = .ok (.aload_n 0, 1) := by decide +kernel
theorem dX12_nextToken_87 : decode cX12_nextToken 87 = .ok (.getfield 142, 3) := by decide +kernel
theorem dX12_nextToken_90 : decode cX12_nextToken 90 = .ok (.invokevirtual 145, 3) := by decide +kernel
theorem dX12_nextToken_93 : decode cX12_nextToken 93 = .ok (.invokestatic 154, 3) := by decide +kernel
theorem dX12_nextToken_96 : decode cX12_nextToken 96 = .ok (.ifCond .eq 300, 3) := by decide +kernel
theorem dX12_nextToken_99 : decode cX12_nextToken 99 = .ok (.aload_n 0, 1) := by decide +kernel
theorem dX12_nextToken_100 : decode cX12_nextToken 100 = .ok (.getfield 157, 3) := by decide +kernel
theorem dX12_nextToken_103 : decode cX12_nextToken 103 = .ok (.ldc 160, 2) := by decide +kernel
theorem dX12_nextToken_105 : decode cX12_nextToken 105 = .ok (.if_icmp .ge 26, 3) := by decide +kernel
theorem dX12_nextToken_108 : decode cX12_nextToken 108 = .ok (.aload_n 0, 1) := by decide +kernel
theorem dX12_nextToken_109 : decode cX12_nextToken 109 = .ok (.bipush 10, 2) := by decide +kernel
theorem dX12_nextToken_111 : decode cX12_nextToken 111 = .ok (.aload_n 0, 1) := by decide +kernel
theorem dX12_nextToken_112 : decode cX12_nextToken 112 = .ok (.getfield 157, 3) := by decide +kernel
theorem dX12_nextToken_115 : decode cX12_nextToken 115 = .ok (.imul, 1) := by decide +kernel
theorem dX12_nextToken_116 : decode cX12_nextToken 116 = .ok (.aload_n 0, 1) := by decide +kernel
theorem dX12_nextToken_117 : decode cX12_nextToken 117 = .ok (.aload_n 0, 1) := by decide +kernel
theorem dX12_nextToken_118 : decode cX12_nextToken 118 = .ok (.getfield 142, 3) := by decide +kernel
theorem dX12_nextToken_121 : decode cX12_nextToken 121 = .ok (.invokevirtual 145, 3) := by decide +kernel
theorem dX12_nextToken_124 : decode cX12_nextToken 124 = .ok (.iadd, 1) := by decide +kernel
theorem dX12_nextToken_125 : decode cX12_nextToken 125 = .ok (.bipush 48, 2) := by decide +kernel
theorem dX12_nextToken_127 : decode cX12_nextToken 127 = .ok (.isub, 1) := by decide +kernel
theorem dX12_nextToken_128 : decode cX12_nextToken 128 = .ok (.putfield 157, 3) := by decide +kernel
theorem dX12_nextToken_131 : decode cX12_nextToken 131 = .ok (.aload_n 0, 1) := by decide +kernel
theorem dX12_nextToken_132 : decode cX12_nextToken 132 = .ok (.dup, 1) := by decide +kernel
theorem dX12_nextToken_133 : decode cX12_nextToken 133 = .ok (.getfield 142, 3) := by decide +kernel
theorem dX12_nextToken_136 : decode cX12_nextToken 136 = .ok (.iconst 1, 1) := by decide +kernel
theorem dX12_nextToken_137 : decode cX12_nextToken 137 = .ok (.iadd, 1) := by decide +kernel
theorem dX12_nextToken_138 : decode cX12_nextToken 138 = .ok (.putfield 142, 3) := by decide +kernel
theorem dX12_nextToken_141 : decode cX12_nextToken 141 = .ok (.goto (-56), 3) := by decide +kernel
theorem dX12_nextToken_144 : decode cX12_nextToken 144 = .ok (.iload_n 1, 1) := by decide +kernel
theorem dX12_nextToken_145 : decode cX12_nextToken 145 = .ok (.invokestatic 161, 3) := by decide +kernel
theorem dX12_nextToken_148 : decode cX12_nextToken 148 = .ok (.ifCond .eq 97, 3) := by decide +kernel
theorem dX12_nextToken_151 : decode cX12_nextToken 151 = .ok (.aload_n 0, 1) := by decide +kernel
theorem dX12_nextToken_152 : decode cX12_nextToken 152 = .ok (.iconst 2, 1) := by decide +kernel
theorem dX12_nextToken_153 : decode cX12_nextToken 153 = .ok (.putfield 151, 3) := by decide +kernel
theorem dX12_nextToken_156 : decode cX12_nextToken 156 = .ok (.aload_n 0, 1) := by decide +kernel
theorem dX12_nextToken_157 : decode cX12_nextToken 157 = .ok (.lconst 0, 1) := by decide +kernel
theorem dX12_nextToken_158 : decode cX12_nextToken 158 = .ok (.putfield 164, 3) := by decide +kernel
theorem dX12_nextToken_161 : decode cX12_nextToken 161 = .ok (.aload_n 0, 1) := by decide +kernel
theorem dX12_nextToken_162 : decode cX12_nextToken 162 = .ok (.aload_n 0, 1) := by decide +kernel
theorem dX12_nextToken_163 : decode cX12_nextToken 163 = .ok (.getfield 142, 3) := by decide +kernel
theorem dX12_nextToken_166 : decode cX12_nextToken 166 = .ok (.invokevirtual 145, 3) := by decide +kernel
theorem dX12_nextToken_169 : decode cX12_nextToken 169 = .ok (.invokestatic 161, 3) := by decide +kernel
theorem dX12_nextToken_172 : decode cX12_nextToken 172 = .ok (.ifCond .eq 51, 3) := by decide +kernel
theorem dX12_nextToken_175 : decode cX12_nextToken 175 = .ok (.aload_n 0, 1) := by decide +kernel
theorem dX12_nextToken_176 : decode cX12_nextToken 176 = .ok (.getfield 142, 3) := by decide +kernel
theorem dX12_nextToken_179 : decode cX12_nextToken 179 = .ok (.aload_n 0, 1) := by decide +kernel
theorem dX12_nextToken_180 : decode cX12_nextToken 180 = .ok (.getfield 148, 3) := by decide +kernel
theorem dX12_nextToken_183 : decode cX12_nextToken 183 = .ok (.isub, 1) := by decide +kernel
theorem dX12_nextToken_184 : decode cX12_nextToken 184 = .ok (.bipush 6, 2) := by decide +kernel
theorem dX12_nextToken_186 : decode cX12_nextToken 186 = .ok (.if_icmp .ge 24, 3) := by decide +kernel
theorem dX12_nextToken_189 : decode cX12_nextToken 189 = .ok (.aload_n 0, 1) := by decide +kernel
theorem dX12_nextToken_190 : decode cX12_nextToken 190 = .ok (.aload_n 0, 1) := by decide +kernel
theorem dX12_nextToken_191 : decode cX12_nextToken 191 = .ok (.getfield 164, 3) := by decide +kernel
theorem dX12_nextToken_194 : decode cX12_nextToken 194 = .ok (.bipush 8, 2) := by decide +kernel
theorem dX12_nextToken_196 : decode cX12_nextToken 196 = .ok (.lshl, 1) := by decide +kernel
theorem dX12_nextToken_197 : decode cX12_nextToken 197 = .ok (.aload_n 0, 1) := by decide +kernel
theorem dX12_nextToken_198 : decode cX12_nextToken 198 = .ok (.aload_n 0, 1) := by decide +kernel
theorem dX12_nextToken_199 : decode cX12_nextToken 199 = .ok (.getfield 142, 3) := by decide +kernel
theorem dX12_nextToken_202 : decode cX12_nextToken 202 = .ok (.invokevirtual 145, 3) := by decide +kernel
theorem dX12_nextToken_205 : decode cX12_nextToken 205 = .ok (.i2l, 1) := by decide +kernel
theorem dX12_nextToken_206 : decode cX12_nextToken 206 = .ok (.lor, 1) := by decide +kernel
theorem dX12_nextToken_207 : decode cX12_nextToken 207 = .ok (.putfield 164, 3) := by decide +kernel
theorem dX12_nextToken_210 : decode cX12_nextToken 210 = .ok (.aload_n 0, 1) := by decide +kernel
theorem dX12_nextToken_211 : decode cX12_nextToken 211 = .ok (.dup, 1) := by decide +kernel
theorem dX12_nextToken_212 : decode cX12_nextToken 212 = .ok (.getfield 142, 3) := by decide +kernel
theorem dX12_nextToken_215 : decode cX12_nextToken 215 = .ok (.iconst 1, 1) := by decide +kernel
theorem dX12_nextToken_216 : decode cX12_nextToken 216 = .ok (.iadd, 1) := by decide +kernel
theorem dX12_nextToken_217 : decode cX12_nextToken 217 = .ok (.putfield 142, 3) := by decide +kernel
theorem dX12_nextToken_220 : decode cX12_nextToken 220 = .ok (.goto (-59), 3) := by decide +kernel
theorem dX12_nextToken_223 : decode cX12_nextToken 223 = .ok (.aload_n 0, 1) := by decide +kernel
theorem dX12_nextToken_224 : decode cX12_nextToken 224 = .ok (.getfield 142, 3) := by decide +kernel
theorem dX12_nextToken_227 : decode cX12_nextToken 227 = .ok (.aload_n 0, 1) := by decide +kernel
theorem dX12_nextToken_228 : decode cX12_nextToken 228 = .ok (.getfield 148, 3) := by decide +kernel
theorem dX12_nextToken_231 : decode cX12_nextToken 231 = .ok (.isub, 1) := by decide +kernel
theorem dX12_nextToken_232 : decode cX12_nextToken 232 = .ok (.bipush 6, 2) := by decide +kernel
theorem dX12_nextToken_234 : decode cX12_nextToken 234 = .ok (.if_icmp .le 162, 3) := by decide +kernel
theorem dX12_nextToken_237 : decode cX12_nextToken 237 = .ok (.aload_n 0, 1) := by decide +kernel
theorem dX12_nextToken_238 : decode cX12_nextToken 238 = .ok (.lconst 0, 1) := by decide +kernel
theorem dX12_nextToken_239 : decode cX12_nextToken 239 = .ok (.putfield 164, 3) := by decide +kernel
theorem dX12_nextToken_242 : decode cX12_nextToken 242 = .ok (.goto 154, 3) := by decide +kernel
theorem dX12_nextToken_245 : decode cX12_nextToken 245 = .ok (.aload_n 0, 1) := by decide +kernel
theorem dX12_nextToken_246 : decode cX12_nextToken 246 = .ok (.dup, 1) := by decide +kernel
theorem dX12_nextToken_247 : decode cX12_nextToken 247 = .ok (.getfield 142, 3) := by decide +kernel
theorem dX12_nextToken_250 : decode cX12_nextToken 250 = .ok (.iconst 1, 1) := by decide +kernel
theorem dX12_nextToken_251 : decode cX12_nextToken 251 = .ok (.iadd, 1) := by decide +kernel
theorem dX12_nextToken_252 : decode cX12_nextToken 252 = .ok (.putfield 142, 3) := by decide +kernel
theorem dX12_nextToken_255 : decode cX12_nextToken 255 = .ok (.iload_n 1, 1) := by decide +kernel
theorem dX12_nextToken_256 : decode cX12_nextToken 256 = .ok (.bipush 60, 2) := by decide +kernel
theorem dX12_nextToken_258 : decode cX12_nextToken 258 = .ok (.if_icmp .eq 69, 3) := by decide +kernel
theorem dX12_nextToken_261 : decode cX12_nextToken 261 = .ok (.iload_n 1, 1) := by decide +kernel
theorem dX12_nextToken_262 : decode cX12_nextToken 262 = .ok (.bipush 62, 2) := by decide +kernel
theorem dX12_nextToken_264 : decode cX12_nextToken 264 = .ok (.if_icmp .eq 63, 3) := by decide +kernel
theorem dX12_nextToken_267 : decode cX12_nextToken 267 = .ok (.iload_n 1, 1) := by decide +kernel
theorem dX12_nextToken_268 : decode cX12_nextToken 268 = .ok (.bipush 61, 2) := by decide +kernel
theorem dX12_nextToken_270 : decode cX12_nextToken 270 = .ok (.if_icmp .eq 57, 3) := by decide +kernel
theorem dX12_nextToken_273 : decode cX12_nextToken 273 = .ok (.iload_n 1, 1) := by decide +kernel
theorem dX12_nextToken_274 : decode cX12_nextToken 274 = .ok (.bipush 35, 2) := by decide +kernel
theorem dX12_nextToken_276 : decode cX12_nextToken 276 = .ok (.if_icmp .eq 51, 3) := by decide +kernel
theorem dX12_nextToken_279 : decode cX12_nextToken 279 = .ok (.iload_n 1, 1) := by decide +kernel
theorem dX12_nextToken_280 : decode cX12_nextToken 280 = .ok (.bipush 43, 2) := by decide +kernel
theorem dX12_nextToken_282 : decode cX12_nextToken 282 = .ok (.if_icmp .eq 45, 3) := by decide +kernel
theorem dX12_nextToken_285 : decode cX12_nextToken 285 = .ok (.iload_n 1, 1) := by decide +kernel
theorem dX12_nextToken_286 : decode cX12_nextToken 286 = .ok (.bipush 45, 2) := by decide +kernel
theorem dX12_nextToken_288 : decode cX12_nextToken 288 = .ok (.if_icmp .eq 39, 3) := by decide +kernel
theorem dX12_nextToken_291 : decode cX12_nextToken 291 = .ok (.iload_n 1, 1) := by decide +kernel
theorem dX12_nextToken_292 : decode cX12_nextToken 292 = .ok (.bipush 42, 2) := by decide +kernel
theorem dX12_nextToken_294 : decode cX12_nextToken 294 = .ok (.if_icmp .eq 33, 3) := by decide +kernel
theorem dX12_nextToken_297 : decode cX12_nextToken 297 = .ok (.iload_n 1, 1) := by decide +kernel
theorem dX12_nextToken_298 : decode cX12_nextToken 298 = .ok (.bipush 47, 2) := by decide +kernel
theorem dX12_nextToken_300 : decode cX12_nextToken 300 = .ok (.if_icmp .eq 27, 3) := by decide +kernel
theorem dX12_nextToken_303 : decode cX12_nextToken 303 = .ok (.iload_n 1, 1) := by decide +kernel
theorem dX12_nextToken_304 : decode cX12_nextToken 304 = .ok (.bipush 40, 2) := by decide +kernel
theorem dX12_nextToken_306 : decode cX12_nextToken 306 = .ok (.if_icmp .eq 21, 3) := by decide +kernel
theorem dX12_nextToken_309 : decode cX12_nextToken 309 = .ok (.iload_n 1, 1) := by decide +kernel
theorem dX12_nextToken_310 : decode cX12_nextToken 310 = .ok (.bipush 41, 2) := by decide +kernel
theorem dX12_nextToken_312 : decode cX12_nextToken 312 = .ok (.if_icmp .eq 15, 3) := by decide +kernel
theorem dX12_nextToken_315 : decode cX12_nextToken 315 = .ok (.iload_n 1, 1) := by decide +kernel
theorem dX12_nextToken_316 : decode cX12_nextToken 316 = .ok (.bipush 44, 2) := by decide +kernel
theorem dX12_nextToken_318 : decode cX12_nextToken 318 = .ok (.if_icmp .eq 9, 3) := by decide +kernel
theorem dX12_nextToken_321 : decode cX12_nextToken 321 = .ok (.iload_n 1, 1) := by decide +kernel
theorem dX12_nextToken_322 : decode cX12_nextToken 322 = .ok (.bipush 59, 2) := by decide +kernel
theorem dX12_nextToken_324 : decode cX12_nextToken 324 = .ok (.if_icmp .ne 7, 3) := by decide +kernel
theorem dX12_nextToken_327 : decode cX12_nextToken 327 = .ok (.iconst 1, 1) := by decide +kernel
theorem dX12_nextToken_328 : decode cX12_nextToken 328 = .ok (.goto 4, 3) := by decide +kernel
theorem dX12_nextToken_331 : decode cX12_nextToken 331 = .ok (.iconst 0, 1) := by decide +kernel
theorem dX12_nextToken_332 : decode cX12_nextToken 332 = .ok (.istore_n 2, 1) := by decide +kernel
theorem dX12_nextToken_333 : decode cX12_nextToken 333 = .ok (.aload_n 0, 1) := by decide +kernel
theorem dX12_nextToken_334 : decode cX12_nextToken 334 = .ok (.iload_n 2, 1) := by decide +kernel
theorem dX12_nextToken_335 : decode cX12_nextToken 335 = .ok (.ifCond .eq 7, 3) := by decide +kernel
theorem dX12_nextToken_338 : decode cX12_nextToken 338 = .ok (.iload_n 1, 1) := by decide +kernel
theorem dX12_nextToken_339 : decode cX12_nextToken 339 = .ok (.goto 4, 3) := by decide +kernel
theorem dX12_nextToken_342 : decode cX12_nextToken 342 = .ok (.iconst 3, 1) := by decide +kernel
theorem dX12_nextToken_343 : decode cX12_nextToken 343 = .ok (.putfield 151, 3) := by decide +kernel
theorem dX12_nextToken_346 : decode cX12_nextToken 346 = .ok (.iload_n 1, 1) := by decide +kernel
theorem dX12_nextToken_347 : decode cX12_nextToken 347 = .ok (.bipush 60, 2) := by decide +kernel
theorem dX12_nextToken_349 : decode cX12_nextToken 349 = .ok (.if_icmp .eq 9, 3) := by decide +kernel
theorem dX12_nextToken_352 : decode cX12_nextToken 352 = .ok (.iload_n 1, 1) := by decide +kernel
theorem dX12_nextToken_353 : decode cX12_nextToken 353 = .ok (.bipush 62, 2) := by decide +kernel
theorem dX12_nextToken_355 : decode cX12_nextToken 355 = .ok (.if_icmp .ne 41, 3) := by decide +kernel
theorem dX12_nextToken_358 : decode cX12_nextToken 358 = .ok (.aload_n 0, 1) := by decide +kernel
theorem dX12_nextToken_359 : decode cX12_nextToken 359 = .ok (.aload_n 0, 1) := by decide +kernel
theorem dX12_nextToken_360 : decode cX12_nextToken 360 = .ok (.getfield 142, 3) := by decide +kernel
theorem dX12_nextToken_363 : decode cX12_nextToken 363 = .ok (.invokevirtual 145, 3) := by decide +kernel
theorem dX12_nextToken_366 : decode cX12_nextToken 366 = .ok (.bipush 61, 2) := by decide +kernel
theorem dX12_nextToken_368 : decode cX12_nextToken 368 = .ok (.if_icmp .ne 28, 3) := by decide +kernel
theorem dX12_nextToken_371 : decode cX12_nextToken 371 = .ok (.aload_n 0, 1) := by decide +kernel
theorem dX12_nextToken_372 : decode cX12_nextToken 372 = .ok (.dup, 1) := by decide +kernel
theorem dX12_nextToken_373 : decode cX12_nextToken 373 = .ok (.getfield 142, 3) := by decide +kernel
theorem dX12_nextToken_376 : decode cX12_nextToken 376 = .ok (.iconst 1, 1) := by decide +kernel
theorem dX12_nextToken_377 : decode cX12_nextToken 377 = .ok (.iadd, 1) := by decide +kernel
theorem dX12_nextToken_378 : decode cX12_nextToken 378 = .ok (.putfield 142, 3) := by decide +kernel
theorem dX12_nextToken_381 : decode cX12_nextToken 381 = .ok (.aload_n 0, 1) := by decide +kernel
theorem dX12_nextToken_382 : decode cX12_nextToken 382 = .ok (.iload_n 1, 1) := by decide +kernel
theorem dX12_nextToken_383 : decode cX12_nextToken 383 = .ok (.bipush 60, 2) := by decide +kernel
theorem dX12_nextToken_385 : decode cX12_nextToken 385 = .ok (.if_icmp .ne 7, 3) := by decide +kernel
theorem dX12_nextToken_388 : decode cX12_nextToken 388 = .ok (.iconst 4, 1) := by decide +kernel
theorem dX12_nextToken_389 : decode cX12_nextToken 389 = .ok (.goto 4, 3) := by decide +kernel
theorem dX12_nextToken_392 : decode cX12_nextToken 392 = .ok (.iconst 5, 1) := by decide +kernel
theorem dX12_nextToken_393 : decode cX12_nextToken 393 = .ok (.putfield 151, 3) := by decide +kernel
theorem dX12_nextToken_396 : decode cX12_nextToken 396 = .ok (.return_, 1) := by decide +kernel
theorem dX12_w3_0 : decode cX12_w3 0 = .ok (.iload_n 0, 1) := by decide +kernel
theorem dX12_w3_1 : decode cX12_w3 1 = .ok (.i2l, 1) := by decide +kernel
theorem dX12_w3_2 : decode cX12_w3 2 = .ok (.bipush 8, 2) := by decide +kernel
theorem dX12_w3_4 : decode cX12_w3 4 = .ok (.lshl, 1) := by decide +kernel
theorem dX12_w3_5 : decode cX12_w3 5 = .ok (.iload_n 1, 1) := by decide +kernel
theorem dX12_w3_6 : decode cX12_w3 6 = .ok (.i2l, 1) := by decide +kernel
theorem dX12_w3_7 : decode cX12_w3 7 = .ok (.lor, 1) := by decide +kernel
theorem dX12_w3_8 : decode cX12_w3 8 = .ok (.bipush 8, 2) := by decide +kernel
theorem dX12_w3_10 : decode cX12_w3 10 = .ok (.lshl, 1) := by decide +kernel
theorem dX12_w3_11 : decode cX12_w3 11 = .ok (.iload_n 2, 1) := by decide +kernel
theorem dX12_w3_12 : decode cX12_w3 12 = .ok (.i2l, 1) := by decide +kernel
theorem dX12_w3_13 : decode cX12_w3 13 = .ok (.lor, 1) := by decide +kernel
theorem dX12_w3_14 : decode cX12_w3 14 = .ok (.lreturn, 1) := by decide +kernel
set_option maxRecDepth 20000 in
theorem ggX12_w4_X12_w3 : GoodIn wsX12_w4 wsX12_w3 := goodIn_r _ [4] (by decide +kernel) (by decide +kernel)
set_option maxRecDepth 20000 in
theorem gX12_w4_X12_w3 : GoodIn wsX12_w4 (va_wsS RX12 168 yX12_w3 wsX12_w3) := goodIn_app (goodIn_of _ (by decide +kernel)) ggX12_w4_X12_w3
theorem dX12_w4_0 : decode cX12_w4 0 = .ok (.iload_n 0, 1) := by decide +kernel
theorem dX12_w4_1 : decode cX12_w4 1 = .ok (.iload_n 1, 1) := by decide +kernel
theorem dX12_w4_2 : decode cX12_w4 2 = .ok (.iload_n 2, 1) := by decide +kernel
theorem dX12_w4_3 : decode cX12_w4 3 = .ok (.invokestatic 168, 3) := by decide +kernel
theorem dX12_w4_6 : decode cX12_w4 6 = .ok (.bipush 8, 2) := by decide +kernel
theorem dX12_w4_8 : decode cX12_w4 8 = .ok (.lshl, 1) := by decide +kernel
theorem dX12_w4_9 : decode cX12_w4 9 = .ok (.iload_n 3, 1) := by decide +kernel
theorem dX12_w4_10 : decode cX12_w4 10 = .ok (.i2l, 1) := by decide +kernel
theorem dX12_w4_11 : decode cX12_w4 11 = .ok (.lor, 1) := by decide +kernel
theorem dX12_w4_12 : decode cX12_w4 12 = .ok (.lreturn, 1) := by decide +kernel
theorem dX12_isWord_0 : decode cX12_isWord 0 = .ok (.aload_n 0, 1) := by decide +kernel
theorem dX12_isWord_1 : decode cX12_isWord 1 = .ok (.getfield 151, 3) := by decide +kernel
theorem dX12_isWord_4 : decode cX12_isWord 4 = .ok (.iconst 2, 1) := by decide +kernel
theorem dX12_isWord_5 : decode cX12_isWord 5 = .ok (.if_icmp .ne 16, 3) := by decide +kernel
theorem dX12_isWord_8 : decode cX12_isWord 8 = .ok (.aload_n 0, 1) := by decide +kernel
theorem dX12_isWord_9 : decode cX12_isWord 9 = .ok (.getfield 164, 3) := by decide +kernel
theorem dX12_isWord_12 : decode cX12_isWord 12 = .ok (.lload_n 1, 1) := by decide +kernel
theorem dX12_isWord_13 : decode cX12_isWord 13 = .ok (.lcmp, 1) := by decide +kernel
theorem dX12_isWord_14 : decode cX12_isWord 14 = .ok (.ifCond .ne 7, 3) := by decide +kernel
theorem dX12_isWord_17 : decode cX12_isWord 17 = .ok (.iconst 1, 1) := by decide +kernel
theorem dX12_isWord_18 : decode cX12_isWord 18 = .ok (.goto 4, 3) := by decide +kernel
theorem dX12_isWord_21 : decode cX12_isWord 21 = .ok (.iconst 0, 1) := by decide +kernel
theorem dX12_isWord_22 : decode cX12_isWord 22 = .ok (.ireturn, 1) := by decide +kernel
theorem dX12_emit_0 : decode cX12_emit 0 = .ok (.aload_n 0, 1) := by decide +kernel
theorem dX12_emit_1 : decode cX12_emit 1 = .ok (.getfield 16, 3) := by decide +kernel
theorem dX12_emit_4 : decode cX12_emit 4 = .ok (.aload_n 0, 1) := by decide +kernel
theorem dX12_emit_5 : decode cX12_emit 5 = .ok (.getfield 176, 3) := by decide +kernel
theorem dX12_emit_8 : decode cX12_emit 8 = .ok (.bipush 80, 2) := by decide +kernel
theorem dX12_emit_10 : decode cX12_emit 10 = .ok (.iadd, 1) := by decide +kernel
theorem dX12_emit_11 : decode cX12_emit 11 = .ok (.iconst 2, 1) := by decide +kernel
theorem dX12_emit_12 : decode cX12_emit 12 = .ok (.aload_n 0, 1) := by decide +kernel
theorem dX12_emit_13 : decode cX12_emit 13 = .ok (.getfield 179, 3) := by decide +kernel
theorem dX12_emit_16 : decode cX12_emit 16 = .ok (.imul, 1) := by decide +kernel
theorem dX12_emit_17 : decode cX12_emit 17 = .ok (.iadd, 1) := by decide +kernel
theorem dX12_emit_18 : decode cX12_emit 18 = .ok (.iload_n 1, 1) := by decide +kernel
theorem dX12_emit_19 : decode cX12_emit 19 = .ok (.iastore, 1) := by decide +kernel
theorem dX12_emit_20 : decode cX12_emit 20 = .ok (.aload_n 0, 1) := by decide +kernel
theorem dX12_emit_21 : decode cX12_emit 21 = .ok (.getfield 16, 3) := by decide +kernel
theorem dX12_emit_24 : decode cX12_emit 24 = .ok (.aload_n 0, 1) := by decide +kernel
theorem dX12_emit_25 : decode cX12_emit 25 = .ok (.getfield 176, 3) := by decide +kernel
theorem dX12_emit_28 : decode cX12_emit 28 = .ok (.bipush 80, 2) := by decide +kernel
theorem dX12_emit_30 : decode cX12_emit 30 = .ok (.iadd, 1) := by decide +kernel
theorem dX12_emit_31 : decode cX12_emit 31 = .ok (.iconst 2, 1) := by decide +kernel
theorem dX12_emit_32 : decode cX12_emit 32 = .ok (.aload_n 0, 1) := by decide +kernel
theorem dX12_emit_33 : decode cX12_emit 33 = .ok (.getfield 179, 3) := by decide +kernel
theorem dX12_emit_36 : decode cX12_emit 36 = .ok (.imul, 1) := by decide +kernel
theorem dX12_emit_37 : decode cX12_emit 37 = .ok (.iadd, 1) := by decide +kernel
theorem dX12_emit_38 : decode cX12_emit 38 = .ok (.iconst 1, 1) := by decide +kernel
theorem dX12_emit_39 : decode cX12_emit 39 = .ok (.iadd, 1) := by decide +kernel
theorem dX12_emit_40 : decode cX12_emit 40 = .ok (.iload_n 2, 1) := by decide +kernel
theorem dX12_emit_41 : decode cX12_emit 41 = .ok (.iastore, 1) := by decide +kernel
theorem dX12_emit_42 : decode cX12_emit 42 = .ok (.aload_n 0, 1) := by decide +kernel
theorem dX12_emit_43 : decode cX12_emit 43 = .ok (.dup, 1) := by decide +kernel
theorem dX12_emit_44 : decode cX12_emit 44 = .ok (.getfield 179, 3) := by decide +kernel
theorem dX12_emit_47 : decode cX12_emit 47 = .ok (.iconst 1, 1) := by decide +kernel
theorem dX12_emit_48 : decode cX12_emit 48 = .ok (.iadd, 1) := by decide +kernel
theorem dX12_emit_49 : decode cX12_emit 49 = .ok (.putfield 179, 3) := by decide +kernel
theorem dX12_emit_52 : decode cX12_emit 52 = .ok (.return_, 1) := by decide +kernel
theorem dX12_push_0 : decode cX12_push 0 = .ok (.aload_n 0, 1) := by decide +kernel
theorem dX12_push_1 : decode cX12_push 1 = .ok (.getfield 41, 3) := by decide +kernel
theorem dX12_push_4 : decode cX12_push 4 = .ok (.aload_n 0, 1) := by decide +kernel
theorem dX12_push_5 : decode cX12_push 5 = .ok (.getfield 182, 3) := by decide +kernel
theorem dX12_push_8 : decode cX12_push 8 = .ok (.iload_n 1, 1) := by decide +kernel
theorem dX12_push_9 : decode cX12_push 9 = .ok (.iastore, 1) := by decide +kernel
theorem dX12_push_10 : decode cX12_push 10 = .ok (.aload_n 0, 1) := by decide +kernel
theorem dX12_push_11 : decode cX12_push 11 = .ok (.dup, 1) := by decide +kernel
theorem dX12_push_12 : decode cX12_push 12 = .ok (.getfield 182, 3) := by decide +kernel
theorem dX12_push_15 : decode cX12_push 15 = .ok (.iconst 1, 1) := by decide +kernel
theorem dX12_push_16 : decode cX12_push 16 = .ok (.iadd, 1) := by decide +kernel
theorem dX12_push_17 : decode cX12_push 17 = .ok (.putfield 182, 3) := by decide +kernel
theorem dX12_push_20 : decode cX12_push 20 = .ok (.return_, 1) := by decide +kernel
set_option maxRecDepth 20000 in
theorem ggX12_whole_X12_emit : GoodIn wsX12_whole wsX12_emit := goodIn_r _ [9, 10, 11, 12, 13, 14, 15, 16, 17, 18, 19, 20, 21, 22, 23, 24, 25, 26, 27, 28, 29, 30, 31, 32, 33, 34, 35, 36, 37, 38, 39, 40, 41, 42, 43, 44, 45, 46, 47, 48, 49, 50, 51, 52, 53, 54, 55] (by decide +kernel) (by decide +kernel)
set_option maxRecDepth 20000 in
theorem gX12_whole_X12_emit : GoodIn wsX12_whole (wsV RX12 192 RX12 yX12_emit wsX12_emit) := goodIn_app (goodIn_of _ (by decide +kernel)) ggX12_whole_X12_emit
theorem dX12_whole_0 : decode cX12_whole 0 = .ok (.aload_n 0, 1) := by decide +kernel
theorem dX12_whole_1 : decode cX12_whole 1 = .ok (.iconst 1, 1) := by decide +kernel
theorem dX12_whole_2 : decode cX12_whole 2 = .ok (.putfield 185, 3) := by decide +kernel
theorem dX12_whole_5 : decode cX12_whole 5 = .ok (.aload_n 0, 1) := by decide +kernel
theorem dX12_whole_6 : decode cX12_whole 6 = .ok (.getfield 182, 3) := by decide +kernel
theorem dX12_whole_9 : decode cX12_whole 9 = .ok (.ifCond .le 47, 3) := by decide +kernel
theorem dX12_whole_12 : decode cX12_whole 12 = .ok (.aload_n 0, 1) := by decide +kernel
theorem dX12_whole_13 : decode cX12_whole 13 = .ok (.getfield 41, 3) := by decide +kernel
theorem dX12_whole_16 : decode cX12_whole 16 = .ok (.aload_n 0, 1) := by decide +kernel
theorem dX12_whole_17 : decode cX12_whole 17 = .ok (.getfield 182, 3) := by decide +kernel
theorem dX12_whole_20 : decode cX12_whole 20 = .ok (.iconst 1, 1) := by decide +kernel
theorem dX12_whole_21 : decode cX12_whole 21 = .ok (.isub, 1) := by decide +kernel
theorem dX12_whole_22 : decode cX12_whole 22 = .ok (.iaload, 1) := by decide +kernel
theorem dX12_whole_23 : decode cX12_whole 23 = .ok (.iconst 2, 1) := by decide +kernel
theorem dX12_whole_24 : decode cX12_whole 24 = .ok (.if_icmp .ne 32, 3) := by decide +kernel
theorem dX12_whole_27 : decode cX12_whole 27 = .ok (.aload_n 0, 1) := by decide +kernel
theorem dX12_whole_28 : decode cX12_whole 28 = .ok (.dup, 1) := by decide +kernel
theorem dX12_whole_29 : decode cX12_whole 29 = .ok (.getfield 182, 3) := by decide +kernel
theorem dX12_whole_32 : decode cX12_whole 32 = .ok (.iconst 1, 1) := by decide +kernel
theorem dX12_whole_33 : decode cX12_whole 33 = .ok (.isub, 1) := by decide +kernel
theorem dX12_whole_34 : decode cX12_whole 34 = .ok (.putfield 182, 3) := by decide +kernel
theorem dX12_whole_37 : decode cX12_whole 37 = .ok (.aload_n 0, 1) := by decide +kernel
theorem dX12_whole_38 : decode cX12_whole 38 = .ok (.dup, 1) := by decide +kernel
theorem dX12_whole_39 : decode cX12_whole 39 = .ok (.getfield 189, 3) := by decide +kernel
theorem dX12_whole_42 : decode cX12_whole 42 = .ok (.iconst 1, 1) := by decide +kernel
theorem dX12_whole_43 : decode cX12_whole 43 = .ok (.isub, 1) := by decide +kernel
theorem dX12_whole_44 : decode cX12_whole 44 = .ok (.putfield 189, 3) := by decide +kernel
theorem dX12_whole_47 : decode cX12_whole 47 = .ok (.aload_n 0, 1) := by decide +kernel
theorem dX12_whole_48 : decode cX12_whole 48 = .ok (.iconst 2, 1) := by decide +kernel
theorem dX12_whole_49 : decode cX12_whole 49 = .ok (.iconst 0, 1) := by decide +kernel
theorem dX12_whole_50 : decode cX12_whole 50 = .ok (.invokevirtual 192, 3) := by decide +kernel
theorem dX12_whole_53 : decode cX12_whole 53 = .ok (.goto (-48), 3) := by decide +kernel
theorem dX12_whole_56 : decode cX12_whole 56 = .ok (.return_, 1) := by decide +kernel
set_option maxRecDepth 20000 in
theorem ggX12_settle_X12_emit : GoodIn wsX12_settle wsX12_emit := goodIn_r _ [7, 8, 9, 10, 11, 12, 13, 14, 15, 16, 17, 18, 19, 20, 21, 22, 23, 24, 25, 26, 27, 28, 29, 30, 31, 32, 33, 34, 35, 36, 37, 38, 39, 40, 41, 42, 43, 44, 45, 46, 47, 48, 49, 50, 51, 52, 53] (by decide +kernel) (by decide +kernel)
set_option maxRecDepth 20000 in
theorem gX12_settle_X12_emit : GoodIn wsX12_settle (wsV RX12 192 RX12 yX12_emit wsX12_emit) := goodIn_app (goodIn_of _ (by decide +kernel)) ggX12_settle_X12_emit
theorem dX12_settle_0 : decode cX12_settle 0 = .ok (.aload_n 0, 1) := by decide +kernel
theorem dX12_settle_1 : decode cX12_settle 1 = .ok (.getfield 182, 3) := by decide +kernel
theorem dX12_settle_4 : decode cX12_settle 4 = .ok (.ifCond .le 61, 3) := by decide +kernel
theorem dX12_settle_7 : decode cX12_settle 7 = .ok (.aload_n 0, 1) := by decide +kernel
theorem dX12_settle_8 : decode cX12_settle 8 = .ok (.getfield 41, 3) := by decide +kernel
theorem dX12_settle_11 : decode cX12_settle 11 = .ok (.aload_n 0, 1) := by decide +kernel
theorem dX12_settle_12 : decode cX12_settle 12 = .ok (.getfield 182, 3) := by decide +kernel
theorem dX12_settle_15 : decode cX12_settle 15 = .ok (.iconst 1, 1) := by decide +kernel
theorem dX12_settle_16 : decode cX12_settle 16 = .ok (.isub, 1) := by decide +kernel
theorem dX12_settle_17 : decode cX12_settle 17 = .ok (.iaload, 1) := by decide +kernel
theorem dX12_settle_18 : decode cX12_settle 18 = .ok (.bipush 40, 2) := by decide +kernel
theorem dX12_settle_20 : decode cX12_settle 20 = .ok (.if_icmp .ge 45, 3) := by decide +kernel
theorem dX12_settle_23 : decode cX12_settle 23 = .ok (.aload_n 0, 1) := by decide +kernel
theorem dX12_settle_24 : decode cX12_settle 24 = .ok (.getfield 41, 3) := by decide +kernel
theorem dX12_settle_27 : decode cX12_settle 27 = .ok (.aload_n 0, 1) := by decide +kernel
theorem dX12_settle_28 : decode cX12_settle 28 = .ok (.getfield 182, 3) := by decide +kernel
theorem dX12_settle_31 : decode cX12_settle 31 = .ok (.iconst 1, 1) := by decide +kernel
theorem dX12_settle_32 : decode cX12_settle 32 = .ok (.isub, 1) := by decide +kernel
theorem dX12_settle_33 : decode cX12_settle 33 = .ok (.iaload, 1) := by decide +kernel
theorem dX12_settle_34 : decode cX12_settle 34 = .ok (.iload_n 1, 1) := by decide +kernel
theorem dX12_settle_35 : decode cX12_settle 35 = .ok (.if_icmp .lt 30, 3) := by decide +kernel
theorem dX12_settle_38 : decode cX12_settle 38 = .ok (.aload_n 0, 1) := by decide +kernel
theorem dX12_settle_39 : decode cX12_settle 39 = .ok (.dup, 1) := by decide +kernel
theorem dX12_settle_40 : decode cX12_settle 40 = .ok (.getfield 182, 3) := by decide +kernel
theorem dX12_settle_43 : decode cX12_settle 43 = .ok (.iconst 1, 1) := by decide +kernel
theorem dX12_settle_44 : decode cX12_settle 44 = .ok (.isub, 1) := by decide +kernel
theorem dX12_settle_45 : decode cX12_settle 45 = .ok (.putfield 182, 3) := by decide +kernel
theorem dX12_settle_48 : decode cX12_settle 48 = .ok (.aload_n 0, 1) := by decide +kernel
theorem dX12_settle_49 : decode cX12_settle 49 = .ok (.aload_n 0, 1) := by decide +kernel
theorem dX12_settle_50 : decode cX12_settle 50 = .ok (.getfield 41, 3) := by decide +kernel
theorem dX12_settle_53 : decode cX12_settle 53 = .ok (.aload_n 0, 1) := by decide +kernel
theorem dX12_settle_54 : decode cX12_settle 54 = .ok (.getfield 182, 3) := by decide +kernel
theorem dX12_settle_57 : decode cX12_settle 57 = .ok (.iaload, 1) := by decide +kernel
theorem dX12_settle_58 : decode cX12_settle 58 = .ok (.iconst 0, 1) := by decide +kernel
theorem dX12_settle_59 : decode cX12_settle 59 = .ok (.invokevirtual 192, 3) := by decide +kernel
theorem dX12_settle_62 : decode cX12_settle 62 = .ok (.goto (-62), 3) := by decide +kernel
theorem dX12_settle_65 : decode cX12_settle 65 = .ok (.return_, 1) := by decide +kernel
theorem dX12_letterOf_0 : decode cX12_letterOf 0 = .ok (.aload_n 0, 1) := by decide +kernel
theorem dX12_letterOf_1 : decode cX12_letterOf 1 = .ok (.getfield 151, 3) := by decide +kernel
theorem dX12_letterOf_4 : decode cX12_letterOf 4 = .ok (.iconst 2, 1) := by decide +kernel
theorem dX12_letterOf_5 : decode cX12_letterOf 5 = .ok (.if_icmp .ne 36, 3) := by decide +kernel
theorem dX12_letterOf_8 : decode cX12_letterOf 8 = .ok (.aload_n 0, 1) := by decide +kernel
theorem dX12_letterOf_9 : decode cX12_letterOf 9 = .ok (.getfield 164, 3) := by decide +kernel
theorem dX12_letterOf_12 : decode cX12_letterOf 12 = .ok (.ldc2_w 196, 3) := by decide +kernel
theorem dX12_letterOf_15 : decode cX12_letterOf 15 = .ok (.lcmp, 1) := by decide +kernel
theorem dX12_letterOf_16 : decode cX12_letterOf 16 = .ok (.ifCond .lt 25, 3) := by decide +kernel
theorem dX12_letterOf_19 : decode cX12_letterOf 19 = .ok (.aload_n 0, 1) := by decide +kernel
theorem dX12_letterOf_20 : decode cX12_letterOf 20 = .ok (.getfield 164, 3) := by decide +kernel
theorem dX12_letterOf_23 : decode cX12_letterOf 23 = .ok (.ldc2_w 198, 3) := by decide +kernel
theorem dX12_letterOf_26 : decode cX12_letterOf 26 = .ok (.lcmp, 1) := by decide +kernel
theorem dX12_letterOf_27 : decode cX12_letterOf 27 = .ok (.ifCond .gt 14, 3) := by decide +kernel
theorem dX12_letterOf_30 : decode cX12_letterOf 30 = .ok (.aload_n 0, 1) := by decide +kernel
theorem dX12_letterOf_31 : decode cX12_letterOf 31 = .ok (.getfield 164, 3) := by decide +kernel
theorem dX12_letterOf_34 : decode cX12_letterOf 34 = .ok (.l2i, 1) := by decide +kernel
theorem dX12_letterOf_35 : decode cX12_letterOf 35 = .ok (.bipush 65, 2) := by decide +kernel
theorem dX12_letterOf_37 : decode cX12_letterOf 37 = .ok (.isub, 1) := by decide +kernel
theorem dX12_letterOf_38 : decode cX12_letterOf 38 = .ok (.goto 4, 3) := by decide +kernel
theorem dX12_letterOf_41 : decode cX12_letterOf 41 = .ok (.iconst (-1), 1) := by decide +kernel
theorem dX12_letterOf_42 : decode cX12_letterOf 42 = .ok (.ireturn, 1) := by decide +kernel
set_option maxRecDepth 20000 in
theorem ggX12_eye_X12_nextToken : GoodIn wsX12_eye wsX12_nextToken := goodIn_r _ [7, 8, 9, 1, 2, 10, 11, 12, 13, 14, 6, 15, 16, 17, 18, 19, 20, 21, 22, 23, 24, 25, 26, 42, 43, 44, 45, 46, 47, 48, 49, 50, 51, 52, 53, 54, 55, 56, 57, 58, 59, 60, 61, 62, 63, 64, 65, 66, 67, 68, 69, 70, 71, 72, 73, 74, 75, 76, 77, 78, 79, 80, 81, 82, 83, 84] (by decide +kernel) (by decide +kernel)
set_option maxRecDepth 20000 in
theorem gX12_eye_X12_nextToken : GoodIn wsX12_eye (wsV RX12 200 RX12 yX12_nextToken wsX12_nextToken) := goodIn_app (goodIn_of _ (by decide +kernel)) ggX12_eye_X12_nextToken
set_option maxRecDepth 20000 in
theorem ggX12_eye_X12_isIn : GoodIn wsX12_eye wsX12_isIn := goodIn_r _ [23] (by decide +kernel) (by decide +kernel)
set_option maxRecDepth 20000 in
theorem gX12_eye_X12_isIn : GoodIn wsX12_eye (va_wsS RX12 71 yX12_isIn wsX12_isIn) := goodIn_app (goodIn_of _ (by decide +kernel)) ggX12_eye_X12_isIn
set_option maxRecDepth 20000 in
theorem ggX12_eye_X12_emit : GoodIn wsX12_eye wsX12_emit := goodIn_r _ [30, 31, 32, 33, 42, 43, 44, 45, 46, 47, 48, 49, 50, 51, 52, 53, 54, 55, 56, 57, 58, 59, 60, 61, 62, 63, 64, 65, 66, 67, 68, 69, 70, 71, 72, 73, 74, 75, 76, 77, 78, 79, 80, 81, 82, 83, 84] (by decide +kernel) (by decide +kernel)
set_option maxRecDepth 20000 in
theorem gX12_eye_X12_emit : GoodIn wsX12_eye (wsV RX12 192 RX12 yX12_emit wsX12_emit) := goodIn_app (goodIn_of _ (by decide +kernel)) ggX12_eye_X12_emit
set_option maxRecDepth 20000 in
theorem ggX12_eye_X12_whole : GoodIn wsX12_eye wsX12_whole := goodIn_r _ [37, 38, 39, 40, 41, 27, 28, 29, 6, 30, 31, 32, 33, 42, 43, 44, 45, 46, 47, 48, 49, 50, 51, 52, 53, 54, 55, 56, 57, 58, 59, 60, 61, 62, 63, 64, 65, 66, 67, 68, 69, 70, 71, 72, 73, 74, 75, 76, 77, 78, 79, 80, 81, 82, 83, 84] (by decide +kernel) (by decide +kernel)
set_option maxRecDepth 20000 in
theorem gX12_eye_X12_whole : GoodIn wsX12_eye (wsV RX12 203 RX12 yX12_whole wsX12_whole) := goodIn_app (goodIn_of _ (by decide +kernel)) ggX12_eye_X12_whole
theorem dX12_eye_0 : decode cX12_eye 0 = .ok (.aload_n 0, 1) := by decide +kernel
theorem dX12_eye_1 : decode cX12_eye 1 = .ok (.invokevirtual 200, 3) := by decide +kernel
theorem dX12_eye_4 : decode cX12_eye 4 = .ok (.aload_n 0, 1) := by decide +kernel
theorem dX12_eye_5 : decode cX12_eye 5 = .ok (.getfield 151, 3) := by decide +kernel
theorem dX12_eye_8 : decode cX12_eye 8 = .ok (.iconst 1, 1) := by decide +kernel
theorem dX12_eye_9 : decode cX12_eye 9 = .ok (.if_icmp .eq 5, 3) := by decide +kernel
theorem dX12_eye_12 : decode cX12_eye 12 = .ok (.iconst 1, 1) := by decide +kernel
theorem dX12_eye_13 : decode cX12_eye 13 = .ok (.ireturn, 1) := by decide +kernel
theorem dX12_eye_14 : decode cX12_eye 14 = .ok (.aload_n 0, 1) := by decide +kernel
theorem dX12_eye_15 : decode cX12_eye 15 = .ok (.getfield 157, 3) := by decide +kernel
theorem dX12_eye_18 : decode cX12_eye 18 = .ok (.iconst 0, 1) := by decide +kernel
theorem dX12_eye_19 : decode cX12_eye 19 = .ok (.bipush 15, 2) := by decide +kernel
theorem dX12_eye_21 : decode cX12_eye 21 = .ok (.invokestatic 71, 3) := by decide +kernel
theorem dX12_eye_24 : decode cX12_eye 24 = .ok (.ifCond .ne 5, 3) := by decide +kernel
theorem dX12_eye_27 : decode cX12_eye 27 = .ok (.iconst 2, 1) := by decide +kernel
theorem dX12_eye_28 : decode cX12_eye 28 = .ok (.ireturn, 1) := by decide +kernel
theorem dX12_eye_29 : decode cX12_eye 29 = .ok (.aload_n 0, 1) := by decide +kernel
theorem dX12_eye_30 : decode cX12_eye 30 = .ok (.iload_n 1, 1) := by decide +kernel
theorem dX12_eye_31 : decode cX12_eye 31 = .ok (.aload_n 0, 1) := by decide +kernel
theorem dX12_eye_32 : decode cX12_eye 32 = .ok (.getfield 157, 3) := by decide +kernel
theorem dX12_eye_35 : decode cX12_eye 35 = .ok (.invokevirtual 192, 3) := by decide +kernel
theorem dX12_eye_38 : decode cX12_eye 38 = .ok (.aload_n 0, 1) := by decide +kernel
theorem dX12_eye_39 : decode cX12_eye 39 = .ok (.invokevirtual 200, 3) := by decide +kernel
theorem dX12_eye_42 : decode cX12_eye 42 = .ok (.aload_n 0, 1) := by decide +kernel
theorem dX12_eye_43 : decode cX12_eye 43 = .ok (.invokevirtual 203, 3) := by decide +kernel
theorem dX12_eye_46 : decode cX12_eye 46 = .ok (.iconst 0, 1) := by decide +kernel
theorem dX12_eye_47 : decode cX12_eye 47 = .ok (.ireturn, 1) := by decide +kernel
set_option maxRecDepth 20000 in
theorem ggX12_beginOne_X12_emit : GoodIn wsX12_beginOne wsX12_emit := goodIn_r _ [9, 10, 11, 12, 67, 68, 69, 70, 71, 72, 73, 74, 75, 76, 77, 78, 79, 80, 81, 82, 83, 84, 85, 86, 87, 88, 89, 90, 91, 92, 93, 94, 95, 96, 97, 98, 99, 100, 101, 102, 103, 104, 105, 106, 107, 108, 109] (by decide +kernel) (by decide +kernel)
set_option maxRecDepth 20000 in
theorem gX12_beginOne_X12_emit : GoodIn wsX12_beginOne (wsV RX12 192 RX12 yX12_emit wsX12_emit) := goodIn_app (goodIn_of _ (by decide +kernel)) ggX12_beginOne_X12_emit
set_option maxRecDepth 20000 in
theorem ggX12_beginOne_X12_nextToken : GoodIn wsX12_beginOne wsX12_nextToken := goodIn_r _ [16, 17, 18, 1, 2, 19, 20, 21, 22, 23, 8, 24, 25, 26, 27, 28, 29, 30, 31, 32, 33, 34, 35, 67, 68, 69, 70, 71, 72, 73, 74, 75, 76, 77, 78, 79, 80, 81, 82, 83, 84, 85, 86, 87, 88, 89, 90, 91, 92, 93, 94, 95, 96, 97, 98, 99, 100, 101, 102, 103, 104, 105, 106, 107, 108, 109] (by decide +kernel) (by decide +kernel)
set_option maxRecDepth 20000 in
theorem gX12_beginOne_X12_nextToken : GoodIn wsX12_beginOne (wsV RX12 200 RX12 yX12_nextToken wsX12_nextToken) := goodIn_app (goodIn_of _ (by decide +kernel)) ggX12_beginOne_X12_nextToken
set_option maxRecDepth 20000 in
theorem ggX12_beginOne_X12_whole : GoodIn wsX12_beginOne wsX12_whole := goodIn_r _ [39, 40, 41, 42, 4, 5, 6, 7, 8, 9, 10, 11, 12, 67, 68, 69, 70, 71, 72, 73, 74, 75, 76, 77, 78, 79, 80, 81, 82, 83, 84, 85, 86, 87, 88, 89, 90, 91, 92, 93, 94, 95, 96, 97, 98, 99, 100, 101, 102, 103, 104, 105, 106, 107, 108, 109] (by decide +kernel) (by decide +kernel)
set_option maxRecDepth 20000 in
theorem gX12_beginOne_X12_whole : GoodIn wsX12_beginOne (wsV RX12 203 RX12 yX12_whole wsX12_whole) := goodIn_app (goodIn_of _ (by decide +kernel)) ggX12_beginOne_X12_whole
set_option maxRecDepth 20000 in
theorem ggX12_beginOne_X12_letterOf : GoodIn wsX12_beginOne wsX12_letterOf := goodIn_r _ [46, 1, 20, 47, 48, 67, 68, 69, 70, 71, 72, 73, 74, 75, 76, 77, 78, 79, 80, 81, 82, 83, 84, 85, 86, 87, 88, 89, 90, 91, 92, 93, 94, 95, 96, 97, 98, 99, 100, 101, 102, 103, 104, 105, 106, 107, 108, 109] (by decide +kernel) (by decide +kernel)
set_option maxRecDepth 20000 in
theorem gX12_beginOne_X12_letterOf : GoodIn wsX12_beginOne (wsV RX12 206 RX12 yX12_letterOf wsX12_letterOf) := goodIn_app (goodIn_of _ (by decide +kernel)) ggX12_beginOne_X12_letterOf
set_option maxRecDepth 20000 in
theorem ggX12_beginOne_X12_w4 : GoodIn wsX12_beginOne wsX12_w4 := goodIn_r _ [51, 52, 53, 8, 54] (by decide +kernel) (by decide +kernel)
set_option maxRecDepth 20000 in
theorem gX12_beginOne_X12_w4 : GoodIn wsX12_beginOne (va_wsS RX12 213 yX12_w4 wsX12_w4) := goodIn_app (goodIn_of _ (by decide +kernel)) ggX12_beginOne_X12_w4
set_option maxRecDepth 20000 in
theorem ggX12_beginOne_X12_isWord : GoodIn wsX12_beginOne wsX12_isWord := goodIn_r _ [58, 1, 20, 67, 68, 69, 70, 71, 72, 73, 74, 75, 76, 77, 78, 79, 80, 81, 82, 83, 84, 85, 86, 87, 88, 89, 90, 91, 92, 93, 94, 95, 96, 97, 98, 99, 100, 101, 102, 103, 104, 105, 106, 107, 108, 109] (by decide +kernel) (by decide +kernel)
set_option maxRecDepth 20000 in
theorem gX12_beginOne_X12_isWord : GoodIn wsX12_beginOne (wsV RX12 217 RX12 yX12_isWord wsX12_isWord) := goodIn_app (goodIn_of _ (by decide +kernel)) ggX12_beginOne_X12_isWord
set_option maxRecDepth 20000 in
theorem ggX12_beginOne_X12_eye : GoodIn wsX12_beginOne wsX12_eye := goodIn_r _ [62, 1, 2, 13, 14, 15, 8, 16, 17, 18, 19, 20, 21, 22, 23, 24, 25, 26, 27, 28, 29, 30, 31, 32, 33, 34, 35, 5, 6, 7, 9, 10, 11, 12, 36, 37, 38, 39, 40, 41, 42, 4, 67, 68, 69, 70, 71, 72, 73, 74, 75, 76, 77, 78, 79, 80, 81, 82, 83, 84, 85, 86, 87, 88, 89, 90, 91, 92, 93, 94, 95, 96, 97, 98, 99, 100, 101, 102, 103, 104, 105, 106, 107, 108, 109] (by decide +kernel) (by decide +kernel)
set_option maxRecDepth 20000 in
theorem gX12_beginOne_X12_eye : GoodIn wsX12_beginOne (wsV RX12 221 RX12 yX12_eye wsX12_eye) := goodIn_app (goodIn_of _ (by decide +kernel)) ggX12_beginOne_X12_eye
set_option maxRecDepth 20000 in
theorem ggX12_beginOne_X12_w3 : GoodIn wsX12_beginOne wsX12_w3 := goodIn_r _ [54] (by decide +kernel) (by decide +kernel)
set_option maxRecDepth 20000 in
theorem gX12_beginOne_X12_w3 : GoodIn wsX12_beginOne (va_wsS RX12 168 yX12_w3 wsX12_w3) := goodIn_app (goodIn_of _ (by decide +kernel)) ggX12_beginOne_X12_w3
set_option maxRecDepth 20000 in
theorem ggX12_beginOne_X12_push : GoodIn wsX12_beginOne wsX12_push := goodIn_r _ [66, 42, 41, 67, 68, 69, 70, 71, 72, 73, 74, 75, 76, 77, 78, 79, 80, 81, 82, 83, 84, 85, 86, 87, 88, 89, 90, 91, 92, 93, 94, 95, 96, 97, 98, 99, 100, 101, 102, 103, 104, 105, 106, 107, 108, 109] (by decide +kernel) (by decide +kernel)
set_option maxRecDepth 20000 in
theorem gX12_beginOne_X12_push : GoodIn wsX12_beginOne (wsV RX12 224 RX12 yX12_push wsX12_push) := goodIn_app (goodIn_of _ (by decide +kernel)) ggX12_beginOne_X12_push
theorem dX12_beginOne_0 : decode cX12_beginOne 0 = .ok (.aload_n 0, 1) := by decide +kernel
theorem dX12_beginOne_1 : decode cX12_beginOne 1 = .ok (.getfield 151, 3) := by decide +kernel
theorem dX12_beginOne_4 : decode cX12_beginOne 4 = .ok (.iconst 1, 1) := by decide +kernel
theorem dX12_beginOne_5 : decode cX12_beginOne 5 = .ok (.if_icmp .ne 34, 3) := by decide +kernel
theorem dX12_beginOne_8 : decode cX12_beginOne 8 = .ok (.aload_n 0, 1) := by decide +kernel
theorem dX12_beginOne_9 : decode cX12_beginOne 9 = .ok (.getfield 157, 3) := by decide +kernel
theorem dX12_beginOne_12 : decode cX12_beginOne 12 = .ok (.sipush 9999, 3) := by decide +kernel
theorem dX12_beginOne_15 : decode cX12_beginOne 15 = .ok (.if_icmp .le 5, 3) := by decide +kernel
theorem dX12_beginOne_18 : decode cX12_beginOne 18 = .ok (.iconst 2, 1) := by decide +kernel
theorem dX12_beginOne_19 : decode cX12_beginOne 19 = .ok (.ireturn, 1) := by decide +kernel
theorem dX12_beginOne_20 : decode cX12_beginOne 20 = .ok (.aload_n 0, 1) := by decide +kernel
theorem dX12_beginOne_21 : decode cX12_beginOne 21 = .ok (.iconst 0, 1) := by decide +kernel
theorem dX12_beginOne_22 : decode cX12_beginOne 22 = .ok (.aload_n 0, 1) := by decide +kernel
theorem dX12_beginOne_23 : decode cX12_beginOne 23 = .ok (.getfield 157, 3) := by decide +kernel
theorem dX12_beginOne_26 : decode cX12_beginOne 26 = .ok (.invokevirtual 192, 3) := by decide +kernel
theorem dX12_beginOne_29 : decode cX12_beginOne 29 = .ok (.aload_n 0, 1) := by decide +kernel
theorem dX12_beginOne_30 : decode cX12_beginOne 30 = .ok (.invokevirtual 200, 3) := by decide +kernel
theorem dX12_beginOne_33 : decode cX12_beginOne 33 = .ok (.aload_n 0, 1) := by decide +kernel
theorem dX12_beginOne_34 : decode cX12_beginOne 34 = .ok (.invokevirtual 203, 3) := by decide +kernel
theorem dX12_beginOne_37 : decode cX12_beginOne 37 = .ok (.iconst 0, 1) := by decide +kernel
theorem dX12_beginOne_38 : decode cX12_beginOne 38 = .ok (.ireturn, 1) := by decide +kernel
theorem dX12_beginOne_39 : decode cX12_beginOne 39 = .ok (.aload_n 0, 1) := by decide +kernel
theorem dX12_beginOne_40 : decode cX12_beginOne 40 = .ok (.invokevirtual 206, 3) := by decide +kernel
theorem dX12_beginOne_43 : decode cX12_beginOne 43 = .ok (.ifCond .lt 38, 3) := by decide +kernel
theorem dX12_beginOne_46 : decode cX12_beginOne 46 = .ok (.aload_n 0, 1) := by decide +kernel
theorem dX12_beginOne_47 : decode cX12_beginOne 47 = .ok (.getfield 210, 3) := by decide +kernel
theorem dX12_beginOne_50 : decode cX12_beginOne 50 = .ok (.aload_n 0, 1) := by decide +kernel
theorem dX12_beginOne_51 : decode cX12_beginOne 51 = .ok (.invokevirtual 206, 3) := by decide +kernel
theorem dX12_beginOne_54 : decode cX12_beginOne 54 = .ok (.ishr, 1) := by decide +kernel
theorem dX12_beginOne_55 : decode cX12_beginOne 55 = .ok (.iconst 1, 1) := by decide +kernel
theorem dX12_beginOne_56 : decode cX12_beginOne 56 = .ok (.iand, 1) := by decide +kernel
theorem dX12_beginOne_57 : decode cX12_beginOne 57 = .ok (.ifCond .ne 5, 3) := by decide +kernel
theorem dX12_beginOne_60 : decode cX12_beginOne 60 = .ok (.iconst 5, 1) := by decide +kernel
theorem dX12_beginOne_61 : decode cX12_beginOne 61 = .ok (.ireturn, 1) := by decide +kernel
theorem dX12_beginOne_62 : decode cX12_beginOne 62 = .ok (.aload_n 0, 1) := by decide +kernel
theorem dX12_beginOne_63 : decode cX12_beginOne 63 = .ok (.iconst 1, 1) := by decide +kernel
theorem dX12_beginOne_64 : decode cX12_beginOne 64 = .ok (.aload_n 0, 1) := by decide +kernel
theorem dX12_beginOne_65 : decode cX12_beginOne 65 = .ok (.invokevirtual 206, 3) := by decide +kernel
theorem dX12_beginOne_68 : decode cX12_beginOne 68 = .ok (.invokevirtual 192, 3) := by decide +kernel
theorem dX12_beginOne_71 : decode cX12_beginOne 71 = .ok (.aload_n 0, 1) := by decide +kernel
theorem dX12_beginOne_72 : decode cX12_beginOne 72 = .ok (.invokevirtual 200, 3) := by decide +kernel
theorem dX12_beginOne_75 : decode cX12_beginOne 75 = .ok (.aload_n 0, 1) := by decide +kernel
theorem dX12_beginOne_76 : decode cX12_beginOne 76 = .ok (.invokevirtual 203, 3) := by decide +kernel
theorem dX12_beginOne_79 : decode cX12_beginOne 79 = .ok (.iconst 0, 1) := by decide +kernel
theorem dX12_beginOne_80 : decode cX12_beginOne 80 = .ok (.ireturn, 1) := by decide +kernel
theorem dX12_beginOne_81 : decode cX12_beginOne 81 = .ok (.aload_n 0, 1) := by decide +kernel
theorem dX12_beginOne_82 : decode cX12_beginOne 82 = .ok (.bipush 116, 2) := by decide +kernel
theorem dX12_beginOne_84 : decode cX12_beginOne 84 = .ok (.bipush 105, 2) := by decide +kernel
theorem dX12_beginOne_86 : decode cX12_beginOne 86 = .ok (.bipush 99, 2) := by decide +kernel
theorem dX12_beginOne_88 : decode cX12_beginOne 88 = .ok (.bipush 107, 2) := by decide +kernel
theorem dX12_beginOne_90 : decode cX12_beginOne 90 = .ok (.invokestatic 213, 3) := by decide +kernel
theorem dX12_beginOne_93 : decode cX12_beginOne 93 = .ok (.invokevirtual 217, 3) := by decide +kernel
theorem dX12_beginOne_96 : decode cX12_beginOne 96 = .ok (.ifCond .eq 20, 3) := by decide +kernel
theorem dX12_beginOne_99 : decode cX12_beginOne 99 = .ok (.aload_n 0, 1) := by decide +kernel
theorem dX12_beginOne_100 : decode cX12_beginOne 100 = .ok (.bipush 30, 2) := by decide +kernel
theorem dX12_beginOne_102 : decode cX12_beginOne 102 = .ok (.iconst 0, 1) := by decide +kernel
theorem dX12_beginOne_103 : decode cX12_beginOne 103 = .ok (.invokevirtual 192, 3) := by decide +kernel
theorem dX12_beginOne_106 : decode cX12_beginOne 106 = .ok (.aload_n 0, 1) := by decide +kernel
theorem dX12_beginOne_107 : decode cX12_beginOne 107 = .ok (.invokevirtual 200, 3) := by decide +kernel
theorem dX12_beginOne_110 : decode cX12_beginOne 110 = .ok (.aload_n 0, 1) := by decide +kernel
theorem dX12_beginOne_111 : decode cX12_beginOne 111 = .ok (.invokevirtual 203, 3) := by decide +kernel
theorem dX12_beginOne_114 : decode cX12_beginOne 114 = .ok (.iconst 0, 1) := by decide +kernel
theorem dX12_beginOne_115 : decode cX12_beginOne 115 = .ok (.ireturn, 1) := by decide +kernel
theorem dX12_beginOne_116 : decode cX12_beginOne 116 = .ok (.aload_n 0, 1) := by decide +kernel
theorem dX12_beginOne_117 : decode cX12_beginOne 117 = .ok (.bipush 108, 2) := by decide +kernel
theorem dX12_beginOne_119 : decode cX12_beginOne 119 = .ok (.bipush 101, 2) := by decide +kernel
theorem dX12_beginOne_121 : decode cX12_beginOne 121 = .ok (.bipush 110, 2) := by decide +kernel
theorem dX12_beginOne_123 : decode cX12_beginOne 123 = .ok (.bipush 115, 2) := by decide +kernel
theorem dX12_beginOne_125 : decode cX12_beginOne 125 = .ok (.invokestatic 213, 3) := by decide +kernel
theorem dX12_beginOne_128 : decode cX12_beginOne 128 = .ok (.invokevirtual 217, 3) := by decide +kernel
theorem dX12_beginOne_131 : decode cX12_beginOne 131 = .ok (.ifCond .ne 21, 3) := by decide +kernel
theorem dX12_beginOne_134 : decode cX12_beginOne 134 = .ok (.aload_n 0, 1) := by decide +kernel
theorem dX12_beginOne_135 : decode cX12_beginOne 135 = .ok (.bipush 112, 2) := by decide +kernel
theorem dX12_beginOne_137 : decode cX12_beginOne 137 = .ok (.bipush 97, 2) := by decide +kernel
theorem dX12_beginOne_139 : decode cX12_beginOne 139 = .ok (.bipush 105, 2) := by decide +kernel
theorem dX12_beginOne_141 : decode cX12_beginOne 141 = .ok (.bipush 114, 2) := by decide +kernel
theorem dX12_beginOne_143 : decode cX12_beginOne 143 = .ok (.invokestatic 213, 3) := by decide +kernel
theorem dX12_beginOne_146 : decode cX12_beginOne 146 = .ok (.invokevirtual 217, 3) := by decide +kernel
theorem dX12_beginOne_149 : decode cX12_beginOne 149 = .ok (.ifCond .eq 33, 3) := by decide +kernel
theorem dX12_beginOne_152 : decode cX12_beginOne 152 = .ok (.aload_n 0, 1) := by decide +kernel
theorem dX12_beginOne_153 : decode cX12_beginOne 153 = .ok (.aload_n 0, 1) := by decide +kernel
theorem dX12_beginOne_154 : decode cX12_beginOne 154 = .ok (.bipush 108, 2) := by decide +kernel
theorem dX12_beginOne_156 : decode cX12_beginOne 156 = .ok (.bipush 101, 2) := by decide +kernel
theorem dX12_beginOne_158 : decode cX12_beginOne 158 = .ok (.bipush 110, 2) := by decide +kernel
theorem dX12_beginOne_160 : decode cX12_beginOne 160 = .ok (.bipush 115, 2) := by decide +kernel
theorem dX12_beginOne_162 : decode cX12_beginOne 162 = .ok (.invokestatic 213, 3) := by decide +kernel
theorem dX12_beginOne_165 : decode cX12_beginOne 165 = .ok (.invokevirtual 217, 3) := by decide +kernel
theorem dX12_beginOne_168 : decode cX12_beginOne 168 = .ok (.ifCond .eq 8, 3) := by decide +kernel
theorem dX12_beginOne_171 : decode cX12_beginOne 171 = .ok (.bipush 31, 2) := by decide +kernel
theorem dX12_beginOne_173 : decode cX12_beginOne 173 = .ok (.goto 5, 3) := by decide +kernel
theorem dX12_beginOne_176 : decode cX12_beginOne 176 = .ok (.bipush 32, 2) := by decide +kernel
theorem dX12_beginOne_178 : decode cX12_beginOne 178 = .ok (.invokevirtual 221, 3) := by decide +kernel
theorem dX12_beginOne_181 : decode cX12_beginOne 181 = .ok (.ireturn, 1) := by decide +kernel
theorem dX12_beginOne_182 : decode cX12_beginOne 182 = .ok (.aload_n 0, 1) := by decide +kernel
theorem dX12_beginOne_183 : decode cX12_beginOne 183 = .ok (.bipush 109, 2) := by decide +kernel
theorem dX12_beginOne_185 : decode cX12_beginOne 185 = .ok (.bipush 105, 2) := by decide +kernel
theorem dX12_beginOne_187 : decode cX12_beginOne 187 = .ok (.bipush 110, 2) := by decide +kernel
theorem dX12_beginOne_189 : decode cX12_beginOne 189 = .ok (.invokestatic 168, 3) := by decide +kernel
theorem dX12_beginOne_192 : decode cX12_beginOne 192 = .ok (.invokevirtual 217, 3) := by decide +kernel
theorem dX12_beginOne_195 : decode cX12_beginOne 195 = .ok (.ifCond .eq 8, 3) := by decide +kernel
theorem dX12_beginOne_198 : decode cX12_beginOne 198 = .ok (.bipush 41, 2) := by decide +kernel
theorem dX12_beginOne_200 : decode cX12_beginOne 200 = .ok (.goto 52, 3) := by decide +kernel
theorem dX12_beginOne_203 : decode cX12_beginOne 203 = .ok (.aload_n 0, 1) := by decide +kernel
theorem dX12_beginOne_204 : decode cX12_beginOne 204 = .ok (.bipush 109, 2) := by decide +kernel
theorem dX12_beginOne_206 : decode cX12_beginOne 206 = .ok (.bipush 97, 2) := by decide +kernel
theorem dX12_beginOne_208 : decode cX12_beginOne 208 = .ok (.bipush 120, 2) := by decide +kernel
theorem dX12_beginOne_210 : decode cX12_beginOne 210 = .ok (.invokestatic 168, 3) := by decide +kernel
theorem dX12_beginOne_213 : decode cX12_beginOne 213 = .ok (.invokevirtual 217, 3) := by decide +kernel
theorem dX12_beginOne_216 : decode cX12_beginOne 216 = .ok (.ifCond .eq 8, 3) := by decide +kernel
theorem dX12_beginOne_219 : decode cX12_beginOne 219 = .ok (.bipush 42, 2) := by decide +kernel
theorem dX12_beginOne_221 : decode cX12_beginOne 221 = .ok (.goto 31, 3) := by decide +kernel
theorem dX12_beginOne_224 : decode cX12_beginOne 224 = .ok (.aload_n 0, 1) := by decide +kernel
theorem dX12_beginOne_225 : decode cX12_beginOne 225 = .ok (.getfield 151, 3) := by decide +kernel
theorem dX12_beginOne_228 : decode cX12_beginOne 228 = .ok (.bipush 40, 2) := by decide +kernel
theorem dX12_beginOne_230 : decode cX12_beginOne 230 = .ok (.if_icmp .ne 8, 3) := by decide +kernel
theorem dX12_beginOne_233 : decode cX12_beginOne 233 = .ok (.bipush 40, 2) := by decide +kernel
theorem dX12_beginOne_235 : decode cX12_beginOne 235 = .ok (.goto 17, 3) := by decide +kernel
theorem dX12_beginOne_238 : decode cX12_beginOne 238 = .ok (.aload_n 0, 1) := by decide +kernel
theorem dX12_beginOne_239 : decode cX12_beginOne 239 = .ok (.getfield 151, 3) := by decide +kernel
theorem dX12_beginOne_242 : decode cX12_beginOne 242 = .ok (.bipush 45, 2) := by decide +kernel
theorem dX12_beginOne_244 : decode cX12_beginOne 244 = .ok (.if_icmp .ne 7, 3) := by decide +kernel
theorem dX12_beginOne_247 : decode cX12_beginOne 247 = .ok (.iconst 2, 1) := by decide +kernel
theorem dX12_beginOne_248 : decode cX12_beginOne 248 = .ok (.goto 4, 3) := by decide +kernel
theorem dX12_beginOne_251 : decode cX12_beginOne 251 = .ok (.iconst 0, 1) := by decide +kernel
theorem dX12_beginOne_252 : decode cX12_beginOne 252 = .ok (.istore_n 1, 1) := by decide +kernel
theorem dX12_beginOne_253 : decode cX12_beginOne 253 = .ok (.iload_n 1, 1) := by decide +kernel
theorem dX12_beginOne_254 : decode cX12_beginOne 254 = .ok (.ifCond .ne 5, 3) := by decide +kernel
theorem dX12_beginOne_257 : decode cX12_beginOne 257 = .ok (.iconst 1, 1) := by decide +kernel
theorem dX12_beginOne_258 : decode cX12_beginOne 258 = .ok (.ireturn, 1) := by decide +kernel
theorem dX12_beginOne_259 : decode cX12_beginOne 259 = .ok (.iload_n 1, 1) := by decide +kernel
theorem dX12_beginOne_260 : decode cX12_beginOne 260 = .ok (.bipush 40, 2) := by decide +kernel
theorem dX12_beginOne_262 : decode cX12_beginOne 262 = .ok (.if_icmp .le 18, 3) := by decide +kernel
theorem dX12_beginOne_265 : decode cX12_beginOne 265 = .ok (.aload_n 0, 1) := by decide +kernel
theorem dX12_beginOne_266 : decode cX12_beginOne 266 = .ok (.invokevirtual 200, 3) := by decide +kernel
theorem dX12_beginOne_269 : decode cX12_beginOne 269 = .ok (.aload_n 0, 1) := by decide +kernel
theorem dX12_beginOne_270 : decode cX12_beginOne 270 = .ok (.getfield 151, 3) := by decide +kernel
theorem dX12_beginOne_273 : decode cX12_beginOne 273 = .ok (.bipush 40, 2) := by decide +kernel
theorem dX12_beginOne_275 : decode cX12_beginOne 275 = .ok (.if_icmp .eq 5, 3) := by decide +kernel
theorem dX12_beginOne_278 : decode cX12_beginOne 278 = .ok (.iconst 1, 1) := by decide +kernel
theorem dX12_beginOne_279 : decode cX12_beginOne 279 = .ok (.ireturn, 1) := by decide +kernel
theorem dX12_beginOne_280 : decode cX12_beginOne 280 = .ok (.aload_n 0, 1) := by decide +kernel
theorem dX12_beginOne_281 : decode cX12_beginOne 281 = .ok (.getfield 189, 3) := by decide +kernel
theorem dX12_beginOne_284 : decode cX12_beginOne 284 = .ok (.bipush 8, 2) := by decide +kernel
theorem dX12_beginOne_286 : decode cX12_beginOne 286 = .ok (.if_icmp .ne 5, 3) := by decide +kernel
theorem dX12_beginOne_289 : decode cX12_beginOne 289 = .ok (.iconst 3, 1) := by decide +kernel
theorem dX12_beginOne_290 : decode cX12_beginOne 290 = .ok (.ireturn, 1) := by decide +kernel
theorem dX12_beginOne_291 : decode cX12_beginOne 291 = .ok (.aload_n 0, 1) := by decide +kernel
theorem dX12_beginOne_292 : decode cX12_beginOne 292 = .ok (.dup, 1) := by decide +kernel
theorem dX12_beginOne_293 : decode cX12_beginOne 293 = .ok (.getfield 189, 3) := by decide +kernel
theorem dX12_beginOne_296 : decode cX12_beginOne 296 = .ok (.iconst 1, 1) := by decide +kernel
theorem dX12_beginOne_297 : decode cX12_beginOne 297 = .ok (.iadd, 1) := by decide +kernel
theorem dX12_beginOne_298 : decode cX12_beginOne 298 = .ok (.putfield 189, 3) := by decide +kernel
theorem dX12_beginOne_301 : decode cX12_beginOne 301 = .ok (.aload_n 0, 1) := by decide +kernel
theorem dX12_beginOne_302 : decode cX12_beginOne 302 = .ok (.iload_n 1, 1) := by decide +kernel
theorem dX12_beginOne_303 : decode cX12_beginOne 303 = .ok (.invokevirtual 224, 3) := by decide +kernel
theorem dX12_beginOne_306 : decode cX12_beginOne 306 = .ok (.aload_n 0, 1) := by decide +kernel
theorem dX12_beginOne_307 : decode cX12_beginOne 307 = .ok (.invokevirtual 200, 3) := by decide +kernel
theorem dX12_beginOne_310 : decode cX12_beginOne 310 = .ok (.iconst 0, 1) := by decide +kernel
theorem dX12_beginOne_311 : decode cX12_beginOne 311 = .ok (.ireturn, 1) := by decide +kernel
theorem dX12_hasParen_0 : decode cX12_hasParen 0 = .ok (.iconst 0, 1) := by decide +kernel
theorem dX12_hasParen_1 : decode cX12_hasParen 1 = .ok (.istore_n 1, 1) := by decide +kernel
theorem dX12_hasParen_2 : decode cX12_hasParen 2 = .ok (.iload_n 1, 1) := by decide +kernel
theorem dX12_hasParen_3 : decode cX12_hasParen 3 = .ok (.aload_n 0, 1) := by decide +kernel
theorem dX12_hasParen_4 : decode cX12_hasParen 4 = .ok (.getfield 182, 3) := by decide +kernel
theorem dX12_hasParen_7 : decode cX12_hasParen 7 = .ok (.if_icmp .ge 22, 3) := by decide +kernel
theorem dX12_hasParen_10 : decode cX12_hasParen 10 = .ok (.aload_n 0, 1) := by decide +kernel
theorem dX12_hasParen_11 : decode cX12_hasParen 11 = .ok (.getfield 41, 3) := by decide +kernel
theorem dX12_hasParen_14 : decode cX12_hasParen 14 = .ok (.iload_n 1, 1) := by decide +kernel
theorem dX12_hasParen_15 : decode cX12_hasParen 15 = .ok (.iaload, 1) := by decide +kernel
theorem dX12_hasParen_16 : decode cX12_hasParen 16 = .ok (.bipush 40, 2) := by decide +kernel
theorem dX12_hasParen_18 : decode cX12_hasParen 18 = .ok (.if_icmp .lt 5, 3) := by decide +kernel
theorem dX12_hasParen_21 : decode cX12_hasParen 21 = .ok (.iconst 1, 1) := by decide +kernel
theorem dX12_hasParen_22 : decode cX12_hasParen 22 = .ok (.ireturn, 1) := by decide +kernel
theorem dX12_hasParen_23 : decode cX12_hasParen 23 = .ok (.iinc 1 1, 3) := by decide +kernel
theorem dX12_hasParen_26 : decode cX12_hasParen 26 = .ok (.goto (-24), 3) := by decide +kernel
theorem dX12_hasParen_29 : decode cX12_hasParen 29 = .ok (.iconst 0, 1) := by decide +kernel
theorem dX12_hasParen_30 : decode cX12_hasParen 30 = .ok (.ireturn, 1) := by decide +kernel
set_option maxRecDepth 20000 in
theorem ggX12_goesOn_X12_hasParen : GoodIn wsX12_goesOn wsX12_hasParen := goodIn_r _ [6, 7, 8, 9, 10, 11, 12, 13, 14, 15, 16, 17, 18, 19, 20, 21, 22, 23, 24, 25, 26, 27, 28, 29, 30, 31, 32, 33, 34, 35, 36, 37, 38, 39, 40, 41, 42, 43, 44, 45, 46, 47, 48, 49, 50, 51] (by decide +kernel) (by decide +kernel)
set_option maxRecDepth 20000 in
theorem gX12_goesOn_X12_hasParen : GoodIn wsX12_goesOn (wsV RX12 227 RX12 yX12_hasParen wsX12_hasParen) := goodIn_app (goodIn_of _ (by decide +kernel)) ggX12_goesOn_X12_hasParen
theorem dX12_goesOn_0 : decode cX12_goesOn 0 = .ok (.aload_n 0, 1) := by decide +kernel
theorem dX12_goesOn_1 : decode cX12_goesOn 1 = .ok (.getfield 151, 3) := by decide +kernel
theorem dX12_goesOn_4 : decode cX12_goesOn 4 = .ok (.bipush 43, 2) := by decide +kernel
theorem dX12_goesOn_6 : decode cX12_goesOn 6 = .ok (.if_icmp .eq 55, 3) := by decide +kernel
theorem dX12_goesOn_9 : decode cX12_goesOn 9 = .ok (.aload_n 0, 1) := by decide +kernel
theorem dX12_goesOn_10 : decode cX12_goesOn 10 = .ok (.getfield 151, 3) := by decide +kernel
theorem dX12_goesOn_13 : decode cX12_goesOn 13 = .ok (.bipush 45, 2) := by decide +kernel
theorem dX12_goesOn_15 : decode cX12_goesOn 15 = .ok (.if_icmp .eq 46, 3) := by decide +kernel
theorem dX12_goesOn_18 : decode cX12_goesOn 18 = .ok (.aload_n 0, 1) := by decide +kernel
theorem dX12_goesOn_19 : decode cX12_goesOn 19 = .ok (.getfield 151, 3) := by decide +kernel
theorem dX12_goesOn_22 : decode cX12_goesOn 22 = .ok (.bipush 42, 2) := by decide +kernel
theorem dX12_goesOn_24 : decode cX12_goesOn 24 = .ok (.if_icmp .eq 37, 3) := by decide +kernel
theorem dX12_goesOn_27 : decode cX12_goesOn 27 = .ok (.aload_n 0, 1) := by decide +kernel
theorem dX12_goesOn_28 : decode cX12_goesOn 28 = .ok (.getfield 151, 3) := by decide +kernel
theorem dX12_goesOn_31 : decode cX12_goesOn 31 = .ok (.bipush 47, 2) := by decide +kernel
theorem dX12_goesOn_33 : decode cX12_goesOn 33 = .ok (.if_icmp .eq 28, 3) := by decide +kernel
theorem dX12_goesOn_36 : decode cX12_goesOn 36 = .ok (.aload_n 0, 1) := by decide +kernel
theorem dX12_goesOn_37 : decode cX12_goesOn 37 = .ok (.getfield 151, 3) := by decide +kernel
theorem dX12_goesOn_40 : decode cX12_goesOn 40 = .ok (.bipush 44, 2) := by decide +kernel
theorem dX12_goesOn_42 : decode cX12_goesOn 42 = .ok (.if_icmp .eq 12, 3) := by decide +kernel
theorem dX12_goesOn_45 : decode cX12_goesOn 45 = .ok (.aload_n 0, 1) := by decide +kernel
theorem dX12_goesOn_46 : decode cX12_goesOn 46 = .ok (.getfield 151, 3) := by decide +kernel
theorem dX12_goesOn_49 : decode cX12_goesOn 49 = .ok (.bipush 41, 2) := by decide +kernel
theorem dX12_goesOn_51 : decode cX12_goesOn 51 = .ok (.if_icmp .ne 14, 3) := by decide +kernel
theorem dX12_goesOn_54 : decode cX12_goesOn 54 = .ok (.aload_n 0, 1) := by decide +kernel
theorem dX12_goesOn_55 : decode cX12_goesOn 55 = .ok (.invokevirtual 227, 3) := by decide +kernel
theorem dX12_goesOn_58 : decode cX12_goesOn 58 = .ok (.ifCond .eq 7, 3) := by decide +kernel
theorem dX12_goesOn_61 : decode cX12_goesOn 61 = .ok (.iconst 1, 1) := by decide +kernel
theorem dX12_goesOn_62 : decode cX12_goesOn 62 = .ok (.goto 4, 3) := by decide +kernel
theorem dX12_goesOn_65 : decode cX12_goesOn 65 = .ok (.iconst 0, 1) := by decide +kernel
theorem dX12_goesOn_66 : decode cX12_goesOn 66 = .ok (.ireturn, 1) := by decide +kernel
set_option maxRecDepth 20000 in
theorem ggX12_behindOne_X12_settle : GoodIn wsX12_behindOne wsX12_settle := goodIn_r _ [10, 4, 3, 11, 12, 13, 9, 14, 15, 16, 17, 50, 51, 52, 53, 54, 55, 56, 57, 58, 59, 60, 61, 62, 63, 64, 65, 66, 67, 68, 69, 70, 71, 72, 73, 74, 75, 76, 77, 78, 79, 80, 81, 82, 83, 84, 85, 86, 87, 88, 89, 90, 91, 92] (by decide +kernel) (by decide +kernel)
set_option maxRecDepth 20000 in
theorem gX12_behindOne_X12_settle : GoodIn wsX12_behindOne (wsV RX12 231 RX12 yX12_settle wsX12_settle) := goodIn_app (goodIn_of _ (by decide +kernel)) ggX12_behindOne_X12_settle
set_option maxRecDepth 20000 in
theorem ggX12_behindOne_X12_push : GoodIn wsX12_behindOne wsX12_push := goodIn_r _ [21, 3, 4, 50, 51, 52, 53, 54, 55, 56, 57, 58, 59, 60, 61, 62, 63, 64, 65, 66, 67, 68, 69, 70, 71, 72, 73, 74, 75, 76, 77, 78, 79, 80, 81, 82, 83, 84, 85, 86, 87, 88, 89, 90, 91, 92] (by decide +kernel) (by decide +kernel)
set_option maxRecDepth 20000 in
theorem gX12_behindOne_X12_push : GoodIn wsX12_behindOne (wsV RX12 224 RX12 yX12_push wsX12_push) := goodIn_app (goodIn_of _ (by decide +kernel)) ggX12_behindOne_X12_push
set_option maxRecDepth 20000 in
theorem ggX12_behindOne_X12_emit : GoodIn wsX12_behindOne wsX12_emit := goodIn_r _ [14, 15, 16, 17, 50, 51, 52, 53, 54, 55, 56, 57, 58, 59, 60, 61, 62, 63, 64, 65, 66, 67, 68, 69, 70, 71, 72, 73, 74, 75, 76, 77, 78, 79, 80, 81, 82, 83, 84, 85, 86, 87, 88, 89, 90, 91, 92] (by decide +kernel) (by decide +kernel)
set_option maxRecDepth 20000 in
theorem gX12_behindOne_X12_emit : GoodIn wsX12_behindOne (wsV RX12 192 RX12 yX12_emit wsX12_emit) := goodIn_app (goodIn_of _ (by decide +kernel)) ggX12_behindOne_X12_emit
set_option maxRecDepth 20000 in
theorem ggX12_behindOne_X12_whole : GoodIn wsX12_behindOne wsX12_whole := goodIn_r _ [25, 2, 4, 3, 5, 11, 12, 13, 9, 14, 15, 16, 17, 50, 51, 52, 53, 54, 55, 56, 57, 58, 59, 60, 61, 62, 63, 64, 65, 66, 67, 68, 69, 70, 71, 72, 73, 74, 75, 76, 77, 78, 79, 80, 81, 82, 83, 84, 85, 86, 87, 88, 89, 90, 91, 92] (by decide +kernel) (by decide +kernel)
set_option maxRecDepth 20000 in
theorem gX12_behindOne_X12_whole : GoodIn wsX12_behindOne (wsV RX12 203 RX12 yX12_whole wsX12_whole) := goodIn_app (goodIn_of _ (by decide +kernel)) ggX12_behindOne_X12_whole
set_option maxRecDepth 20000 in
theorem ggX12_behindOne_X12_nextToken : GoodIn wsX12_behindOne wsX12_nextToken := goodIn_r _ [29, 30, 31, 1, 32, 33, 34, 35, 36, 37, 9, 38, 39, 40, 41, 42, 43, 44, 45, 46, 47, 48, 49, 50, 51, 52, 53, 54, 55, 56, 57, 58, 59, 60, 61, 62, 63, 64, 65, 66, 67, 68, 69, 70, 71, 72, 73, 74, 75, 76, 77, 78, 79, 80, 81, 82, 83, 84, 85, 86, 87, 88, 89, 90, 91, 92] (by decide +kernel) (by decide +kernel)
set_option maxRecDepth 20000 in
theorem gX12_behindOne_X12_nextToken : GoodIn wsX12_behindOne (wsV RX12 200 RX12 yX12_nextToken wsX12_nextToken) := goodIn_app (goodIn_of _ (by decide +kernel)) ggX12_behindOne_X12_nextToken
theorem dX12_behindOne_0 : decode cX12_behindOne 0 = .ok (.aload_n 0, 1) := by decide +kernel
theorem dX12_behindOne_1 : decode cX12_behindOne 1 = .ok (.getfield 151, 3) := by decide +kernel
theorem dX12_behindOne_4 : decode cX12_behindOne 4 = .ok (.istore_n 1, 1) := by decide +kernel
theorem dX12_behindOne_5 : decode cX12_behindOne 5 = .ok (.iload_n 1, 1) := by decide +kernel
theorem dX12_behindOne_6 : decode cX12_behindOne 6 = .ok (.bipush 43, 2) := by decide +kernel
theorem dX12_behindOne_8 : decode cX12_behindOne 8 = .ok (.if_icmp .eq 9, 3) := by decide +kernel
theorem dX12_behindOne_11 : decode cX12_behindOne 11 = .ok (.iload_n 1, 1) := by decide +kernel
theorem dX12_behindOne_12 : decode cX12_behindOne 12 = .ok (.bipush 45, 2) := by decide +kernel
theorem dX12_behindOne_14 : decode cX12_behindOne 14 = .ok (.if_icmp .ne 31, 3) := by decide +kernel
theorem dX12_behindOne_17 : decode cX12_behindOne 17 = .ok (.aload_n 0, 1) := by decide +kernel
theorem dX12_behindOne_18 : decode cX12_behindOne 18 = .ok (.iconst 3, 1) := by decide +kernel
theorem dX12_behindOne_19 : decode cX12_behindOne 19 = .ok (.invokevirtual 231, 3) := by decide +kernel
theorem dX12_behindOne_22 : decode cX12_behindOne 22 = .ok (.aload_n 0, 1) := by decide +kernel
theorem dX12_behindOne_23 : decode cX12_behindOne 23 = .ok (.iload_n 1, 1) := by decide +kernel
theorem dX12_behindOne_24 : decode cX12_behindOne 24 = .ok (.bipush 43, 2) := by decide +kernel
theorem dX12_behindOne_26 : decode cX12_behindOne 26 = .ok (.if_icmp .ne 7, 3) := by decide +kernel
theorem dX12_behindOne_29 : decode cX12_behindOne 29 = .ok (.iconst 3, 1) := by decide +kernel
theorem dX12_behindOne_30 : decode cX12_behindOne 30 = .ok (.goto 4, 3) := by decide +kernel
theorem dX12_behindOne_33 : decode cX12_behindOne 33 = .ok (.iconst 4, 1) := by decide +kernel
theorem dX12_behindOne_34 : decode cX12_behindOne 34 = .ok (.invokevirtual 224, 3) := by decide +kernel
theorem dX12_behindOne_37 : decode cX12_behindOne 37 = .ok (.aload_n 0, 1) := by decide +kernel
theorem dX12_behindOne_38 : decode cX12_behindOne 38 = .ok (.iconst 0, 1) := by decide +kernel
theorem dX12_behindOne_39 : decode cX12_behindOne 39 = .ok (.putfield 185, 3) := by decide +kernel
theorem dX12_behindOne_42 : decode cX12_behindOne 42 = .ok (.goto 166, 3) := by decide +kernel
theorem dX12_behindOne_45 : decode cX12_behindOne 45 = .ok (.iload_n 1, 1) := by decide +kernel
theorem dX12_behindOne_46 : decode cX12_behindOne 46 = .ok (.bipush 42, 2) := by decide +kernel
theorem dX12_behindOne_48 : decode cX12_behindOne 48 = .ok (.if_icmp .eq 9, 3) := by decide +kernel
theorem dX12_behindOne_51 : decode cX12_behindOne 51 = .ok (.iload_n 1, 1) := by decide +kernel
theorem dX12_behindOne_52 : decode cX12_behindOne 52 = .ok (.bipush 47, 2) := by decide +kernel
theorem dX12_behindOne_54 : decode cX12_behindOne 54 = .ok (.if_icmp .ne 32, 3) := by decide +kernel
theorem dX12_behindOne_57 : decode cX12_behindOne 57 = .ok (.aload_n 0, 1) := by decide +kernel
theorem dX12_behindOne_58 : decode cX12_behindOne 58 = .ok (.iconst 5, 1) := by decide +kernel
theorem dX12_behindOne_59 : decode cX12_behindOne 59 = .ok (.invokevirtual 231, 3) := by decide +kernel
theorem dX12_behindOne_62 : decode cX12_behindOne 62 = .ok (.aload_n 0, 1) := by decide +kernel
theorem dX12_behindOne_63 : decode cX12_behindOne 63 = .ok (.iload_n 1, 1) := by decide +kernel
theorem dX12_behindOne_64 : decode cX12_behindOne 64 = .ok (.bipush 42, 2) := by decide +kernel
theorem dX12_behindOne_66 : decode cX12_behindOne 66 = .ok (.if_icmp .ne 7, 3) := by decide +kernel
theorem dX12_behindOne_69 : decode cX12_behindOne 69 = .ok (.iconst 5, 1) := by decide +kernel
theorem dX12_behindOne_70 : decode cX12_behindOne 70 = .ok (.goto 5, 3) := by decide +kernel
theorem dX12_behindOne_73 : decode cX12_behindOne 73 = .ok (.bipush 6, 2) := by decide +kernel
theorem dX12_behindOne_75 : decode cX12_behindOne 75 = .ok (.invokevirtual 224, 3) := by decide +kernel
theorem dX12_behindOne_78 : decode cX12_behindOne 78 = .ok (.aload_n 0, 1) := by decide +kernel
theorem dX12_behindOne_79 : decode cX12_behindOne 79 = .ok (.iconst 0, 1) := by decide +kernel
theorem dX12_behindOne_80 : decode cX12_behindOne 80 = .ok (.putfield 185, 3) := by decide +kernel
theorem dX12_behindOne_83 : decode cX12_behindOne 83 = .ok (.goto 125, 3) := by decide +kernel
theorem dX12_behindOne_86 : decode cX12_behindOne 86 = .ok (.aload_n 0, 1) := by decide +kernel
theorem dX12_behindOne_87 : decode cX12_behindOne 87 = .ok (.iconst 3, 1) := by decide +kernel
theorem dX12_behindOne_88 : decode cX12_behindOne 88 = .ok (.invokevirtual 231, 3) := by decide +kernel
theorem dX12_behindOne_91 : decode cX12_behindOne 91 = .ok (.aload_n 0, 1) := by decide +kernel
theorem dX12_behindOne_92 : decode cX12_behindOne 92 = .ok (.getfield 41, 3) := by decide +kernel
theorem dX12_behindOne_95 : decode cX12_behindOne 95 = .ok (.aload_n 0, 1) := by decide +kernel
theorem dX12_behindOne_96 : decode cX12_behindOne 96 = .ok (.getfield 182, 3) := by decide +kernel
theorem dX12_behindOne_99 : decode cX12_behindOne 99 = .ok (.iconst 1, 1) := by decide +kernel
theorem dX12_behindOne_100 : decode cX12_behindOne 100 = .ok (.isub, 1) := by decide +kernel
theorem dX12_behindOne_101 : decode cX12_behindOne 101 = .ok (.iaload, 1) := by decide +kernel
theorem dX12_behindOne_102 : decode cX12_behindOne 102 = .ok (.istore_n 2, 1) := by decide +kernel
theorem dX12_behindOne_103 : decode cX12_behindOne 103 = .ok (.iload_n 1, 1) := by decide +kernel
theorem dX12_behindOne_104 : decode cX12_behindOne 104 = .ok (.bipush 44, 2) := by decide +kernel
theorem dX12_behindOne_106 : decode cX12_behindOne 106 = .ok (.if_icmp .ne 40, 3) := by decide +kernel
theorem dX12_behindOne_109 : decode cX12_behindOne 109 = .ok (.iload_n 2, 1) := by decide +kernel
theorem dX12_behindOne_110 : decode cX12_behindOne 110 = .ok (.bipush 41, 2) := by decide +kernel
theorem dX12_behindOne_112 : decode cX12_behindOne 112 = .ok (.if_icmp .eq 11, 3) := by decide +kernel
theorem dX12_behindOne_115 : decode cX12_behindOne 115 = .ok (.iload_n 2, 1) := by decide +kernel
theorem dX12_behindOne_116 : decode cX12_behindOne 116 = .ok (.bipush 42, 2) := by decide +kernel
theorem dX12_behindOne_118 : decode cX12_behindOne 118 = .ok (.if_icmp .eq 5, 3) := by decide +kernel
theorem dX12_behindOne_121 : decode cX12_behindOne 121 = .ok (.iconst 1, 1) := by decide +kernel
theorem dX12_behindOne_122 : decode cX12_behindOne 122 = .ok (.ireturn, 1) := by decide +kernel
theorem dX12_behindOne_123 : decode cX12_behindOne 123 = .ok (.aload_n 0, 1) := by decide +kernel
theorem dX12_behindOne_124 : decode cX12_behindOne 124 = .ok (.getfield 41, 3) := by decide +kernel
theorem dX12_behindOne_127 : decode cX12_behindOne 127 = .ok (.aload_n 0, 1) := by decide +kernel
theorem dX12_behindOne_128 : decode cX12_behindOne 128 = .ok (.getfield 182, 3) := by decide +kernel
theorem dX12_behindOne_131 : decode cX12_behindOne 131 = .ok (.iconst 1, 1) := by decide +kernel
theorem dX12_behindOne_132 : decode cX12_behindOne 132 = .ok (.isub, 1) := by decide +kernel
theorem dX12_behindOne_133 : decode cX12_behindOne 133 = .ok (.dup2, 1) := by decide +kernel
theorem dX12_behindOne_134 : decode cX12_behindOne 134 = .ok (.iaload, 1) := by decide +kernel
theorem dX12_behindOne_135 : decode cX12_behindOne 135 = .ok (.iconst 2, 1) := by decide +kernel
theorem dX12_behindOne_136 : decode cX12_behindOne 136 = .ok (.iadd, 1) := by decide +kernel
theorem dX12_behindOne_137 : decode cX12_behindOne 137 = .ok (.iastore, 1) := by decide +kernel
theorem dX12_behindOne_138 : decode cX12_behindOne 138 = .ok (.aload_n 0, 1) := by decide +kernel
theorem dX12_behindOne_139 : decode cX12_behindOne 139 = .ok (.iconst 0, 1) := by decide +kernel
theorem dX12_behindOne_140 : decode cX12_behindOne 140 = .ok (.putfield 185, 3) := by decide +kernel
theorem dX12_behindOne_143 : decode cX12_behindOne 143 = .ok (.goto 65, 3) := by decide +kernel
theorem dX12_behindOne_146 : decode cX12_behindOne 146 = .ok (.iload_n 2, 1) := by decide +kernel
theorem dX12_behindOne_147 : decode cX12_behindOne 147 = .ok (.bipush 41, 2) := by decide +kernel
theorem dX12_behindOne_149 : decode cX12_behindOne 149 = .ok (.if_icmp .eq 9, 3) := by decide +kernel
theorem dX12_behindOne_152 : decode cX12_behindOne 152 = .ok (.iload_n 2, 1) := by decide +kernel
theorem dX12_behindOne_153 : decode cX12_behindOne 153 = .ok (.bipush 42, 2) := by decide +kernel
theorem dX12_behindOne_155 : decode cX12_behindOne 155 = .ok (.if_icmp .ne 5, 3) := by decide +kernel
theorem dX12_behindOne_158 : decode cX12_behindOne 158 = .ok (.iconst 1, 1) := by decide +kernel
theorem dX12_behindOne_159 : decode cX12_behindOne 159 = .ok (.ireturn, 1) := by decide +kernel
theorem dX12_behindOne_160 : decode cX12_behindOne 160 = .ok (.aload_n 0, 1) := by decide +kernel
theorem dX12_behindOne_161 : decode cX12_behindOne 161 = .ok (.dup, 1) := by decide +kernel
theorem dX12_behindOne_162 : decode cX12_behindOne 162 = .ok (.getfield 182, 3) := by decide +kernel
theorem dX12_behindOne_165 : decode cX12_behindOne 165 = .ok (.iconst 1, 1) := by decide +kernel
theorem dX12_behindOne_166 : decode cX12_behindOne 166 = .ok (.isub, 1) := by decide +kernel
theorem dX12_behindOne_167 : decode cX12_behindOne 167 = .ok (.putfield 182, 3) := by decide +kernel
theorem dX12_behindOne_170 : decode cX12_behindOne 170 = .ok (.aload_n 0, 1) := by decide +kernel
theorem dX12_behindOne_171 : decode cX12_behindOne 171 = .ok (.dup, 1) := by decide +kernel
theorem dX12_behindOne_172 : decode cX12_behindOne 172 = .ok (.getfield 189, 3) := by decide +kernel
theorem dX12_behindOne_175 : decode cX12_behindOne 175 = .ok (.iconst 1, 1) := by decide +kernel
theorem dX12_behindOne_176 : decode cX12_behindOne 176 = .ok (.isub, 1) := by decide +kernel
theorem dX12_behindOne_177 : decode cX12_behindOne 177 = .ok (.putfield 189, 3) := by decide +kernel
theorem dX12_behindOne_180 : decode cX12_behindOne 180 = .ok (.iload_n 2, 1) := by decide +kernel
theorem dX12_behindOne_181 : decode cX12_behindOne 181 = .ok (.bipush 40, 2) := by decide +kernel
theorem dX12_behindOne_183 : decode cX12_behindOne 183 = .ok (.if_icmp .le 21, 3) := by decide +kernel
theorem dX12_behindOne_186 : decode cX12_behindOne 186 = .ok (.aload_n 0, 1) := by decide +kernel
theorem dX12_behindOne_187 : decode cX12_behindOne 187 = .ok (.iload_n 2, 1) := by decide +kernel
