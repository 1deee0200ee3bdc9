theorem dX10_init_9 : decode cX10_init 9 = .ok (.invokestatic 11, 3) := by decide +kernel
theorem dX10_init_12 : decode cX10_init 12 = .ok (.invokestatic 17, 3) := by decide +kernel
theorem dX10_init_15 : decode cX10_init 15 = .ok (.putfield 20, 3) := by decide +kernel
theorem dX10_init_18 : decode cX10_init 18 = .ok (.aload_n 0, 1) := by decide +kernel
theorem dX10_init_19 : decode cX10_init 19 = .ok (.iconst 4, 1) := by decide +kernel
theorem dX10_init_20 : decode cX10_init 20 = .ok (.bipush 24, 2) := by decide +kernel
theorem dX10_init_22 : decode cX10_init 22 = .ok (.iload_n 2, 1) := by decide +kernel
theorem dX10_init_23 : decode cX10_init 23 = .ok (.invokestatic 11, 3) := by decide +kernel
theorem dX10_init_26 : decode cX10_init 26 = .ok (.invokestatic 17, 3) := by decide +kernel
theorem dX10_init_29 : decode cX10_init 29 = .ok (.putfield 24, 3) := by decide +kernel
theorem dX10_init_32 : decode cX10_init 32 = .ok (.aload_n 0, 1) := by decide +kernel
theorem dX10_init_33 : decode cX10_init 33 = .ok (.aload_n 0, 1) := by decide +kernel
theorem dX10_init_34 : decode cX10_init 34 = .ok (.getfield 20, 3) := by decide +kernel
theorem dX10_init_37 : decode cX10_init 37 = .ok (.aload_n 0, 1) := by decide +kernel
theorem dX10_init_38 : decode cX10_init 38 = .ok (.getfield 24, 3) := by decide +kernel
theorem dX10_init_41 : decode cX10_init 41 = .ok (.imul, 1) := by decide +kernel
theorem dX10_init_42 : decode cX10_init 42 = .ok (.newarray .int, 2) := by decide +kernel
theorem dX10_init_44 : decode cX10_init 44 = .ok (.putfield 27, 3) := by decide +kernel
theorem dX10_init_47 : decode cX10_init 47 = .ok (.aload_n 0, 1) := by decide +kernel
theorem dX10_init_48 : decode cX10_init 48 = .ok (.bipush 6, 2) := by decide +kernel
theorem dX10_init_50 : decode cX10_init 50 = .ok (.newarray .int, 2) := by decide +kernel
theorem dX10_init_52 : decode cX10_init 52 = .ok (.putfield 31, 3) := by decide +kernel
theorem dX10_init_55 : decode cX10_init 55 = .ok (.aload_n 0, 1) := by decide +kernel
theorem dX10_init_56 : decode cX10_init 56 = .ok (.bipush 6, 2) := by decide +kernel
theorem dX10_init_58 : decode cX10_init 58 = .ok (.newarray .int, 2) := by decide +kernel
theorem dX10_init_60 : decode cX10_init 60 = .ok (.putfield 34, 3) := by decide +kernel
theorem dX10_init_63 : decode cX10_init 63 = .ok (.aload_n 0, 1) := by decide +kernel
theorem dX10_init_64 : decode cX10_init 64 = .ok (.bipush 6, 2) := by decide +kernel
theorem dX10_init_66 : decode cX10_init 66 = .ok (.newarray .int, 2) := by decide +kernel
theorem dX10_init_68 : decode cX10_init 68 = .ok (.putfield 37, 3) := by decide +kernel
theorem dX10_init_71 : decode cX10_init 71 = .ok (.aload_n 0, 1) := by decide +kernel
theorem dX10_init_72 : decode cX10_init 72 = .ok (.bipush 6, 2) := by decide +kernel
theorem dX10_init_74 : decode cX10_init 74 = .ok (.newarray .int, 2) := by decide +kernel
theorem dX10_init_76 : decode cX10_init 76 = .ok (.putfield 40, 3) := by decide +kernel
theorem dX10_init_79 : decode cX10_init 79 = .ok (.aload_n 0, 1) := by decide +kernel
theorem dX10_init_80 : decode cX10_init 80 = .ok (.bipush 6, 2) := by decide +kernel
theorem dX10_init_82 : decode cX10_init 82 = .ok (.newarray .int, 2) := by decide +kernel
theorem dX10_init_84 : decode cX10_init 84 = .ok (.putfield 43, 3) := by decide +kernel
theorem dX10_init_87 : decode cX10_init 87 = .ok (.return_, 1) := by decide +kernel
set_option maxRecDepth 20000 in
theorem ggX10_isCell_X11_isWithin : GoodIn wsX10_isCell wsX11_isWithin := goodIn_r _ [4] (by decide +kernel) (by decide +kernel)
set_option maxRecDepth 20000 in
theorem gX10_isCell_X11_isWithin_n46 : GoodIn wsX10_isCell (wsX11_isWithin) := ggX10_isCell_X11_isWithin
theorem dX10_isCell_0 : decode cX10_isCell 0 = .ok (.iload_n 1, 1) := by decide +kernel
theorem dX10_isCell_1 : decode cX10_isCell 1 = .ok (.iconst 0, 1) := by decide +kernel
theorem dX10_isCell_2 : decode cX10_isCell 2 = .ok (.aload_n 0, 1) := by decide +kernel
theorem dX10_isCell_3 : decode cX10_isCell 3 = .ok (.getfield 27, 3) := by decide +kernel
theorem dX10_isCell_6 : decode cX10_isCell 6 = .ok (.arraylength, 1) := by decide +kernel
theorem dX10_isCell_7 : decode cX10_isCell 7 = .ok (.iconst 1, 1) := by decide +kernel
theorem dX10_isCell_8 : decode cX10_isCell 8 = .ok (.isub, 1) := by decide +kernel
theorem dX10_isCell_9 : decode cX10_isCell 9 = .ok (.invokestatic 46, 3) := by decide +kernel
theorem dX10_isCell_12 : decode cX10_isCell 12 = .ok (.ireturn, 1) := by decide +kernel
theorem dX10_rowOf_0 : decode cX10_rowOf 0 = .ok (.aload_n 0, 1) := by decide +kernel
theorem dX10_rowOf_1 : decode cX10_rowOf 1 = .ok (.getfield 20, 3) := by decide +kernel
theorem dX10_rowOf_4 : decode cX10_rowOf 4 = .ok (.ifCond .le 12, 3) := by decide +kernel
theorem dX10_rowOf_7 : decode cX10_rowOf 7 = .ok (.iload_n 1, 1) := by decide +kernel
theorem dX10_rowOf_8 : decode cX10_rowOf 8 = .ok (.aload_n 0, 1) := by decide +kernel
theorem dX10_rowOf_9 : decode cX10_rowOf 9 = .ok (.getfield 20, 3) := by decide +kernel
theorem dX10_rowOf_12 : decode cX10_rowOf 12 = .ok (.idiv, 1) := by decide +kernel
theorem dX10_rowOf_13 : decode cX10_rowOf 13 = .ok (.goto 4, 3) := by decide +kernel
theorem dX10_rowOf_16 : decode cX10_rowOf 16 = .ok (.iconst 0, 1) := by decide +kernel
theorem dX10_rowOf_17 : decode cX10_rowOf 17 = .ok (.ireturn, 1) := by decide +kernel
set_option maxRecDepth 20000 in
theorem ggX10_isBody_X11_isWithin : GoodIn wsX10_isBody wsX11_isWithin := goodIn_r _ [4] (by decide +kernel) (by decide +kernel)
set_option maxRecDepth 20000 in
theorem gX10_isBody_X11_isWithin_n46 : GoodIn wsX10_isBody (wsX11_isWithin) := ggX10_isBody_X11_isWithin
theorem dX10_isBody_0 : decode cX10_isBody 0 = .ok (.iload_n 1, 1) := by decide +kernel
theorem dX10_isBody_1 : decode cX10_isBody 1 = .ok (.iconst 0, 1) := by decide +kernel
theorem dX10_isBody_2 : decode cX10_isBody 2 = .ok (.aload_n 0, 1) := by decide +kernel
theorem dX10_isBody_3 : decode cX10_isBody 3 = .ok (.getfield 50, 3) := by decide +kernel
theorem dX10_isBody_6 : decode cX10_isBody 6 = .ok (.iconst 1, 1) := by decide +kernel
theorem dX10_isBody_7 : decode cX10_isBody 7 = .ok (.isub, 1) := by decide +kernel
theorem dX10_isBody_8 : decode cX10_isBody 8 = .ok (.invokestatic 46, 3) := by decide +kernel
theorem dX10_isBody_11 : decode cX10_isBody 11 = .ok (.ireturn, 1) := by decide +kernel
set_option maxRecDepth 20000 in
theorem ggX10_isPlace_X11_isWithin : GoodIn wsX10_isPlace wsX11_isWithin := goodIn_r _ [5] (by decide +kernel) (by decide +kernel)
set_option maxRecDepth 20000 in
theorem gX10_isPlace_X11_isWithin_n46 : GoodIn wsX10_isPlace (wsX11_isWithin) := ggX10_isPlace_X11_isWithin
theorem dX10_isPlace_0 : decode cX10_isPlace 0 = .ok (.iload_n 1, 1) := by decide +kernel
theorem dX10_isPlace_1 : decode cX10_isPlace 1 = .ok (.iconst 0, 1) := by decide +kernel
theorem dX10_isPlace_2 : decode cX10_isPlace 2 = .ok (.aload_n 0, 1) := by decide +kernel
theorem dX10_isPlace_3 : decode cX10_isPlace 3 = .ok (.getfield 20, 3) := by decide +kernel
theorem dX10_isPlace_6 : decode cX10_isPlace 6 = .ok (.bipush 16, 2) := by decide +kernel
theorem dX10_isPlace_8 : decode cX10_isPlace 8 = .ok (.imul, 1) := by decide +kernel
theorem dX10_isPlace_9 : decode cX10_isPlace 9 = .ok (.iconst 1, 1) := by decide +kernel
theorem dX10_isPlace_10 : decode cX10_isPlace 10 = .ok (.isub, 1) := by decide +kernel
theorem dX10_isPlace_11 : decode cX10_isPlace 11 = .ok (.invokestatic 46, 3) := by decide +kernel
theorem dX10_isPlace_14 : decode cX10_isPlace 14 = .ok (.ifCond .eq 24, 3) := by decide +kernel
theorem dX10_isPlace_17 : decode cX10_isPlace 17 = .ok (.iload_n 2, 1) := by decide +kernel
theorem dX10_isPlace_18 : decode cX10_isPlace 18 = .ok (.iconst 0, 1) := by decide +kernel
theorem dX10_isPlace_19 : decode cX10_isPlace 19 = .ok (.aload_n 0, 1) := by decide +kernel
theorem dX10_isPlace_20 : decode cX10_isPlace 20 = .ok (.getfield 24, 3) := by decide +kernel
theorem dX10_isPlace_23 : decode cX10_isPlace 23 = .ok (.bipush 16, 2) := by decide +kernel
theorem dX10_isPlace_25 : decode cX10_isPlace 25 = .ok (.imul, 1) := by decide +kernel
theorem dX10_isPlace_26 : decode cX10_isPlace 26 = .ok (.iconst 1, 1) := by decide +kernel
theorem dX10_isPlace_27 : decode cX10_isPlace 27 = .ok (.isub, 1) := by decide +kernel
theorem dX10_isPlace_28 : decode cX10_isPlace 28 = .ok (.invokestatic 46, 3) := by decide +kernel
theorem dX10_isPlace_31 : decode cX10_isPlace 31 = .ok (.ifCond .eq 7, 3) := by decide +kernel
theorem dX10_isPlace_34 : decode cX10_isPlace 34 = .ok (.iconst 1, 1) := by decide +kernel
theorem dX10_isPlace_35 : decode cX10_isPlace 35 = .ok (.goto 4, 3) := by decide +kernel
theorem dX10_isPlace_38 : decode cX10_isPlace 38 = .ok (.iconst 0, 1) := by decide +kernel
theorem dX10_isPlace_39 : decode cX10_isPlace 39 = .ok (.ireturn, 1) := by decide +kernel
set_option maxRecDepth 20000 in
theorem ggX10_isFree_X10_isPlace : GoodIn wsX10_isFree wsX10_isPlace := goodIn_r _ [6, 1, 7, 8, 9, 10, 30, 31, 32, 33, 34, 35, 36, 37, 38] (by decide +kernel) (by decide +kernel)
set_option maxRecDepth 20000 in
theorem gX10_isFree_X10_isPlace : GoodIn wsX10_isFree (wsV RX10 53 RX10 yX10_isPlace wsX10_isPlace) := goodIn_app (goodIn_of _ (by decide +kernel)) ggX10_isFree_X10_isPlace
set_option maxRecDepth 20000 in
theorem ggX10_isFree_X10_seenMark : GoodIn wsX10_isFree wsX10_seenMark := goodIn_r _ [14, 15, 16, 17, 18, 19, 20, 5, 21, 22, 23, 24, 25, 1, 7, 26, 27, 28, 29, 8, 9, 10, 30, 31, 32, 33, 34, 35, 36, 37, 38] (by decide +kernel) (by decide +kernel)
set_option maxRecDepth 20000 in
theorem gX10_isFree_X10_seenMark : GoodIn wsX10_isFree (wsV RX10 57 RX10 yX10_seenMark wsX10_seenMark) := goodIn_app (goodIn_of _ (by decide +kernel)) ggX10_isFree_X10_seenMark
theorem dX10_isFree_0 : decode cX10_isFree 0 = .ok (.aload_n 0, 1) := by decide +kernel
theorem dX10_isFree_1 : decode cX10_isFree 1 = .ok (.iload_n 1, 1) := by decide +kernel
theorem dX10_isFree_2 : decode cX10_isFree 2 = .ok (.iload_n 2, 1) := by decide +kernel
theorem dX10_isFree_3 : decode cX10_isFree 3 = .ok (.invokevirtual 53, 3) := by decide +kernel
theorem dX10_isFree_6 : decode cX10_isFree 6 = .ok (.ifCond .eq 29, 3) := by decide +kernel
theorem dX10_isFree_9 : decode cX10_isFree 9 = .ok (.aload_n 0, 1) := by decide +kernel
theorem dX10_isFree_10 : decode cX10_isFree 10 = .ok (.iload_n 2, 1) := by decide +kernel
theorem dX10_isFree_11 : decode cX10_isFree 11 = .ok (.bipush 16, 2) := by decide +kernel
theorem dX10_isFree_13 : decode cX10_isFree 13 = .ok (.idiv, 1) := by decide +kernel
theorem dX10_isFree_14 : decode cX10_isFree 14 = .ok (.aload_n 0, 1) := by decide +kernel
theorem dX10_isFree_15 : decode cX10_isFree 15 = .ok (.getfield 20, 3) := by decide +kernel
theorem dX10_isFree_18 : decode cX10_isFree 18 = .ok (.imul, 1) := by decide +kernel
theorem dX10_isFree_19 : decode cX10_isFree 19 = .ok (.iload_n 1, 1) := by decide +kernel
theorem dX10_isFree_20 : decode cX10_isFree 20 = .ok (.bipush 16, 2) := by decide +kernel
theorem dX10_isFree_22 : decode cX10_isFree 22 = .ok (.idiv, 1) := by decide +kernel
theorem dX10_isFree_23 : decode cX10_isFree 23 = .ok (.iadd, 1) := by decide +kernel
theorem dX10_isFree_24 : decode cX10_isFree 24 = .ok (.iload_n 3, 1) := by decide +kernel
theorem dX10_isFree_25 : decode cX10_isFree 25 = .ok (.invokevirtual 57, 3) := by decide +kernel
theorem dX10_isFree_28 : decode cX10_isFree 28 = .ok (.ifCond .ne 7, 3) := by decide +kernel
theorem dX10_isFree_31 : decode cX10_isFree 31 = .ok (.iconst 1, 1) := by decide +kernel
theorem dX10_isFree_32 : decode cX10_isFree 32 = .ok (.goto 4, 3) := by decide +kernel
theorem dX10_isFree_35 : decode cX10_isFree 35 = .ok (.iconst 0, 1) := by decide +kernel
theorem dX10_isFree_36 : decode cX10_isFree 36 = .ok (.ireturn, 1) := by decide +kernel
theorem dX10_bodyCell_0 : decode cX10_bodyCell 0 = .ok (.aload_n 0, 1) := by decide +kernel
theorem dX10_bodyCell_1 : decode cX10_bodyCell 1 = .ok (.getfield 31, 3) := by decide +kernel
theorem dX10_bodyCell_4 : decode cX10_bodyCell 4 = .ok (.iload_n 1, 1) := by decide +kernel
theorem dX10_bodyCell_5 : decode cX10_bodyCell 5 = .ok (.iaload, 1) := by decide +kernel
theorem dX10_bodyCell_6 : decode cX10_bodyCell 6 = .ok (.iload_n 2, 1) := by decide +kernel
theorem dX10_bodyCell_7 : decode cX10_bodyCell 7 = .ok (.aload_n 0, 1) := by decide +kernel
theorem dX10_bodyCell_8 : decode cX10_bodyCell 8 = .ok (.getfield 37, 3) := by decide +kernel
theorem dX10_bodyCell_11 : decode cX10_bodyCell 11 = .ok (.iload_n 1, 1) := by decide +kernel
theorem dX10_bodyCell_12 : decode cX10_bodyCell 12 = .ok (.iaload, 1) := by decide +kernel
theorem dX10_bodyCell_13 : decode cX10_bodyCell 13 = .ok (.imul, 1) := by decide +kernel
theorem dX10_bodyCell_14 : decode cX10_bodyCell 14 = .ok (.iadd, 1) := by decide +kernel
theorem dX10_bodyCell_15 : decode cX10_bodyCell 15 = .ok (.istore_n 3, 1) := by decide +kernel
theorem dX10_bodyCell_16 : decode cX10_bodyCell 16 = .ok (.aload_n 0, 1) := by decide +kernel
theorem dX10_bodyCell_17 : decode cX10_bodyCell 17 = .ok (.getfield 34, 3) := by decide +kernel
theorem dX10_bodyCell_20 : decode cX10_bodyCell 20 = .ok (.iload_n 1, 1) := by decide +kernel
theorem dX10_bodyCell_21 : decode cX10_bodyCell 21 = .ok (.iaload, 1) := by decide +kernel
theorem dX10_bodyCell_22 : decode cX10_bodyCell 22 = .ok (.iload_n 2, 1) := by decide +kernel
theorem dX10_bodyCell_23 : decode cX10_bodyCell 23 = .ok (.aload_n 0, 1) := by decide +kernel
theorem dX10_bodyCell_24 : decode cX10_bodyCell 24 = .ok (.getfield 40, 3) := by decide +kernel
theorem dX10_bodyCell_27 : decode cX10_bodyCell 27 = .ok (.iload_n 1, 1) := by decide +kernel
theorem dX10_bodyCell_28 : decode cX10_bodyCell 28 = .ok (.iaload, 1) := by decide +kernel
theorem dX10_bodyCell_29 : decode cX10_bodyCell 29 = .ok (.imul, 1) := by decide +kernel
theorem dX10_bodyCell_30 : decode cX10_bodyCell 30 = .ok (.iadd, 1) := by decide +kernel
theorem dX10_bodyCell_31 : decode cX10_bodyCell 31 = .ok (.istore 4, 2) := by decide +kernel
theorem dX10_bodyCell_33 : decode cX10_bodyCell 33 = .ok (.iload_n 3, 1) := by decide +kernel
theorem dX10_bodyCell_34 : decode cX10_bodyCell 34 = .ok (.ifCond .lt 37, 3) := by decide +kernel
theorem dX10_bodyCell_37 : decode cX10_bodyCell 37 = .ok (.iload_n 3, 1) := by decide +kernel
theorem dX10_bodyCell_38 : decode cX10_bodyCell 38 = .ok (.aload_n 0, 1) := by decide +kernel
theorem dX10_bodyCell_39 : decode cX10_bodyCell 39 = .ok (.getfield 20, 3) := by decide +kernel
theorem dX10_bodyCell_42 : decode cX10_bodyCell 42 = .ok (.if_icmp .ge 29, 3) := by decide +kernel
theorem dX10_bodyCell_45 : decode cX10_bodyCell 45 = .ok (.iload 4, 2) := by decide +kernel
theorem dX10_bodyCell_47 : decode cX10_bodyCell 47 = .ok (.ifCond .lt 24, 3) := by decide +kernel
theorem dX10_bodyCell_50 : decode cX10_bodyCell 50 = .ok (.iload 4, 2) := by decide +kernel
theorem dX10_bodyCell_52 : decode cX10_bodyCell 52 = .ok (.aload_n 0, 1) := by decide +kernel
theorem dX10_bodyCell_53 : decode cX10_bodyCell 53 = .ok (.getfield 24, 3) := by decide +kernel
theorem dX10_bodyCell_56 : decode cX10_bodyCell 56 = .ok (.if_icmp .ge 15, 3) := by decide +kernel
theorem dX10_bodyCell_59 : decode cX10_bodyCell 59 = .ok (.iload 4, 2) := by decide +kernel
theorem dX10_bodyCell_61 : decode cX10_bodyCell 61 = .ok (.aload_n 0, 1) := by decide +kernel
theorem dX10_bodyCell_62 : decode cX10_bodyCell 62 = .ok (.getfield 20, 3) := by decide +kernel
theorem dX10_bodyCell_65 : decode cX10_bodyCell 65 = .ok (.imul, 1) := by decide +kernel
theorem dX10_bodyCell_66 : decode cX10_bodyCell 66 = .ok (.iload_n 3, 1) := by decide +kernel
theorem dX10_bodyCell_67 : decode cX10_bodyCell 67 = .ok (.iadd, 1) := by decide +kernel
theorem dX10_bodyCell_68 : decode cX10_bodyCell 68 = .ok (.goto 4, 3) := by decide +kernel
theorem dX10_bodyCell_71 : decode cX10_bodyCell 71 = .ok (.iconst (-1), 1) := by decide +kernel
theorem dX10_bodyCell_72 : decode cX10_bodyCell 72 = .ok (.ireturn, 1) := by decide +kernel
set_option maxRecDepth 20000 in
theorem ggX10_seenMark_X10_bodyCell : GoodIn wsX10_seenMark wsX10_bodyCell := goodIn_r _ [8, 9, 10, 11, 12, 13, 14, 22, 23, 24, 25, 26, 27, 28, 29, 30] (by decide +kernel) (by decide +kernel)
set_option maxRecDepth 20000 in
theorem gX10_seenMark_X10_bodyCell : GoodIn wsX10_seenMark (wsV RX10 60 RX10 yX10_bodyCell wsX10_bodyCell) := goodIn_app (goodIn_of _ (by decide +kernel)) ggX10_seenMark_X10_bodyCell
set_option maxRecDepth 20000 in
theorem ggX10_seenMark_X10_isCell : GoodIn wsX10_seenMark wsX10_isCell := goodIn_r _ [18, 3, 19, 20, 21, 22, 23, 24, 25, 26, 27, 28, 29, 30] (by decide +kernel) (by decide +kernel)
set_option maxRecDepth 20000 in
theorem gX10_seenMark_X10_isCell : GoodIn wsX10_seenMark (wsV RX10 63 RX10 yX10_isCell wsX10_isCell) := goodIn_app (goodIn_of _ (by decide +kernel)) ggX10_seenMark_X10_isCell
theorem dX10_seenMark_0 : decode cX10_seenMark 0 = .ok (.iconst 0, 1) := by decide +kernel
theorem dX10_seenMark_1 : decode cX10_seenMark 1 = .ok (.istore_n 3, 1) := by decide +kernel
theorem dX10_seenMark_2 : decode cX10_seenMark 2 = .ok (.iload_n 3, 1) := by decide +kernel
theorem dX10_seenMark_3 : decode cX10_seenMark 3 = .ok (.aload_n 0, 1) := by decide +kernel
theorem dX10_seenMark_4 : decode cX10_seenMark 4 = .ok (.getfield 50, 3) := by decide +kernel
theorem dX10_seenMark_7 : decode cX10_seenMark 7 = .ok (.if_icmp .ge 26, 3) := by decide +kernel
theorem dX10_seenMark_10 : decode cX10_seenMark 10 = .ok (.aload_n 0, 1) := by decide +kernel
theorem dX10_seenMark_11 : decode cX10_seenMark 11 = .ok (.iload_n 3, 1) := by decide +kernel
theorem dX10_seenMark_12 : decode cX10_seenMark 12 = .ok (.iload_n 2, 1) := by decide +kernel
theorem dX10_seenMark_13 : decode cX10_seenMark 13 = .ok (.invokevirtual 60, 3) := by decide +kernel
theorem dX10_seenMark_16 : decode cX10_seenMark 16 = .ok (.iload_n 1, 1) := by decide +kernel
theorem dX10_seenMark_17 : decode cX10_seenMark 17 = .ok (.if_icmp .ne 10, 3) := by decide +kernel
theorem dX10_seenMark_20 : decode cX10_seenMark 20 = .ok (.aload_n 0, 1) := by decide +kernel
theorem dX10_seenMark_21 : decode cX10_seenMark 21 = .ok (.getfield 43, 3) := by decide +kernel
theorem dX10_seenMark_24 : decode cX10_seenMark 24 = .ok (.iload_n 3, 1) := by decide +kernel
theorem dX10_seenMark_25 : decode cX10_seenMark 25 = .ok (.iaload, 1) := by decide +kernel
theorem dX10_seenMark_26 : decode cX10_seenMark 26 = .ok (.ireturn, 1) := by decide +kernel
theorem dX10_seenMark_27 : decode cX10_seenMark 27 = .ok (.iinc 3 1, 3) := by decide +kernel
theorem dX10_seenMark_30 : decode cX10_seenMark 30 = .ok (.goto (-28), 3) := by decide +kernel
theorem dX10_seenMark_33 : decode cX10_seenMark 33 = .ok (.aload_n 0, 1) := by decide +kernel
theorem dX10_seenMark_34 : decode cX10_seenMark 34 = .ok (.iload_n 1, 1) := by decide +kernel
theorem dX10_seenMark_35 : decode cX10_seenMark 35 = .ok (.invokevirtual 63, 3) := by decide +kernel
theorem dX10_seenMark_38 : decode cX10_seenMark 38 = .ok (.ifCond .eq 12, 3) := by decide +kernel
theorem dX10_seenMark_41 : decode cX10_seenMark 41 = .ok (.aload_n 0, 1) := by decide +kernel
theorem dX10_seenMark_42 : decode cX10_seenMark 42 = .ok (.getfield 27, 3) := by decide +kernel
theorem dX10_seenMark_45 : decode cX10_seenMark 45 = .ok (.iload_n 1, 1) := by decide +kernel
theorem dX10_seenMark_46 : decode cX10_seenMark 46 = .ok (.iaload, 1) := by decide +kernel
theorem dX10_seenMark_47 : decode cX10_seenMark 47 = .ok (.goto 4, 3) := by decide +kernel
theorem dX10_seenMark_50 : decode cX10_seenMark 50 = .ok (.iconst 0, 1) := by decide +kernel
theorem dX10_seenMark_51 : decode cX10_seenMark 51 = .ok (.ireturn, 1) := by decide +kernel
theorem dX10_countOwnMarks_0 : decode cX10_countOwnMarks 0 = .ok (.iconst 0, 1) := by decide +kernel
theorem dX10_countOwnMarks_1 : decode cX10_countOwnMarks 1 = .ok (.istore_n 1, 1) := by decide +kernel
theorem dX10_countOwnMarks_2 : decode cX10_countOwnMarks 2 = .ok (.iconst 0, 1) := by decide +kernel
theorem dX10_countOwnMarks_3 : decode cX10_countOwnMarks 3 = .ok (.istore_n 2, 1) := by decide +kernel
theorem dX10_countOwnMarks_4 : decode cX10_countOwnMarks 4 = .ok (.iload_n 2, 1) := by decide +kernel
theorem dX10_countOwnMarks_5 : decode cX10_countOwnMarks 5 = .ok (.aload_n 0, 1) := by decide +kernel
theorem dX10_countOwnMarks_6 : decode cX10_countOwnMarks 6 = .ok (.getfield 27, 3) := by decide +kernel
theorem dX10_countOwnMarks_9 : decode cX10_countOwnMarks 9 = .ok (.arraylength, 1) := by decide +kernel
theorem dX10_countOwnMarks_10 : decode cX10_countOwnMarks 10 = .ok (.if_icmp .ge 21, 3) := by decide +kernel
theorem dX10_countOwnMarks_13 : decode cX10_countOwnMarks 13 = .ok (.aload_n 0, 1) := by decide +kernel
theorem dX10_countOwnMarks_14 : decode cX10_countOwnMarks 14 = .ok (.getfield 27, 3) := by decide +kernel
theorem dX10_countOwnMarks_17 : decode cX10_countOwnMarks 17 = .ok (.iload_n 2, 1) := by decide +kernel
theorem dX10_countOwnMarks_18 : decode cX10_countOwnMarks 18 = .ok (.iaload, 1) := by decide +kernel
theorem dX10_countOwnMarks_19 : decode cX10_countOwnMarks 19 = .ok (.ifCond .eq 6, 3) := by decide +kernel
theorem dX10_countOwnMarks_22 : decode cX10_countOwnMarks 22 = .ok (.iinc 1 1, 3) := by decide +kernel
theorem dX10_countOwnMarks_25 : decode cX10_countOwnMarks 25 = .ok (.iinc 2 1, 3) := by decide +kernel
theorem dX10_countOwnMarks_28 : decode cX10_countOwnMarks 28 = .ok (.goto (-24), 3) := by decide +kernel
theorem dX10_countOwnMarks_31 : decode cX10_countOwnMarks 31 = .ok (.iload_n 1, 1) := by decide +kernel
theorem dX10_countOwnMarks_32 : decode cX10_countOwnMarks 32 = .ok (.ireturn, 1) := by decide +kernel
set_option maxRecDepth 20000 in
theorem ggX10_copyFrom_X11_copyRow : GoodIn wsX10_copyFrom wsX11_copyRow := goodIn_r _ [10, 11, 12, 13, 14, 15, 16, 17, 18] (by decide +kernel) (by decide +kernel)
set_option maxRecDepth 20000 in
theorem gX10_copyFrom_X11_copyRow_n67 : GoodIn wsX10_copyFrom (wsX11_copyRow) := ggX10_copyFrom_X11_copyRow
theorem dX10_copyFrom_0 : decode cX10_copyFrom 0 = .ok (.aload_n 1, 1) := by decide +kernel
theorem dX10_copyFrom_1 : decode cX10_copyFrom 1 = .ok (.getfield 27, 3) := by decide +kernel
theorem dX10_copyFrom_4 : decode cX10_copyFrom 4 = .ok (.aload_n 0, 1) := by decide +kernel
theorem dX10_copyFrom_5 : decode cX10_copyFrom 5 = .ok (.getfield 27, 3) := by decide +kernel
theorem dX10_copyFrom_8 : decode cX10_copyFrom 8 = .ok (.invokestatic 67, 3) := by decide +kernel
theorem dX10_copyFrom_11 : decode cX10_copyFrom 11 = .ok (.aload_n 1, 1) := by decide +kernel
theorem dX10_copyFrom_12 : decode cX10_copyFrom 12 = .ok (.getfield 31, 3) := by decide +kernel
theorem dX10_copyFrom_15 : decode cX10_copyFrom 15 = .ok (.aload_n 0, 1) := by decide +kernel
theorem dX10_copyFrom_16 : decode cX10_copyFrom 16 = .ok (.getfield 31, 3) := by decide +kernel
theorem dX10_copyFrom_19 : decode cX10_copyFrom 19 = .ok (.invokestatic 67, 3) := by decide +kernel
theorem dX10_copyFrom_22 : decode cX10_copyFrom 22 = .ok (.aload_n 1, 1) := by decide +kernel
theorem dX10_copyFrom_23 : decode cX10_copyFrom 23 = .ok (.getfield 34, 3) := by decide +kernel
theorem dX10_copyFrom_26 : decode cX10_copyFrom 26 = .ok (.aload_n 0, 1) := by decide +kernel
theorem dX10_copyFrom_27 : decode cX10_copyFrom 27 = .ok (.getfield 34, 3) := by decide +kernel
theorem dX10_copyFrom_30 : decode cX10_copyFrom 30 = .ok (.invokestatic 67, 3) := by decide +kernel
theorem dX10_copyFrom_33 : decode cX10_copyFrom 33 = .ok (.aload_n 1, 1) := by decide +kernel
theorem dX10_copyFrom_34 : decode cX10_copyFrom 34 = .ok (.getfield 37, 3) := by decide +kernel
theorem dX10_copyFrom_37 : decode cX10_copyFrom 37 = .ok (.aload_n 0, 1) := by decide +kernel
theorem dX10_copyFrom_38 : decode cX10_copyFrom 38 = .ok (.getfield 37, 3) := by decide +kernel
theorem dX10_copyFrom_41 : decode cX10_copyFrom 41 = .ok (.invokestatic 67, 3) := by decide +kernel
theorem dX10_copyFrom_44 : decode cX10_copyFrom 44 = .ok (.aload_n 1, 1) := by decide +kernel
theorem dX10_copyFrom_45 : decode cX10_copyFrom 45 = .ok (.getfield 40, 3) := by decide +kernel
theorem dX10_copyFrom_48 : decode cX10_copyFrom 48 = .ok (.aload_n 0, 1) := by decide +kernel
theorem dX10_copyFrom_49 : decode cX10_copyFrom 49 = .ok (.getfield 40, 3) := by decide +kernel
theorem dX10_copyFrom_52 : decode cX10_copyFrom 52 = .ok (.invokestatic 67, 3) := by decide +kernel
theorem dX10_copyFrom_55 : decode cX10_copyFrom 55 = .ok (.aload_n 1, 1) := by decide +kernel
theorem dX10_copyFrom_56 : decode cX10_copyFrom 56 = .ok (.getfield 43, 3) := by decide +kernel
theorem dX10_copyFrom_59 : decode cX10_copyFrom 59 = .ok (.aload_n 0, 1) := by decide +kernel
theorem dX10_copyFrom_60 : decode cX10_copyFrom 60 = .ok (.getfield 43, 3) := by decide +kernel
theorem dX10_copyFrom_63 : decode cX10_copyFrom 63 = .ok (.invokestatic 67, 3) := by decide +kernel
theorem dX10_copyFrom_66 : decode cX10_copyFrom 66 = .ok (.aload_n 0, 1) := by decide +kernel
theorem dX10_copyFrom_67 : decode cX10_copyFrom 67 = .ok (.aload_n 1, 1) := by decide +kernel
theorem dX10_copyFrom_68 : decode cX10_copyFrom 68 = .ok (.getfield 50, 3) := by decide +kernel
theorem dX10_copyFrom_71 : decode cX10_copyFrom 71 = .ok (.putfield 50, 3) := by decide +kernel
theorem dX10_copyFrom_74 : decode cX10_copyFrom 74 = .ok (.return_, 1) := by decide +kernel
set_option maxRecDepth 20000 in
theorem ggX11_init_X8_init : GoodIn wsX11_init wsX8_init := goodIn_r _ [27, 28, 2, 3, 29, 30, 31, 32, 33, 34, 35, 36, 37, 38, 39, 40, 41, 42, 43, 44, 45, 22, 46, 47, 48, 49, 50, 51, 52, 53, 54, 55, 56, 57, 58, 59, 60, 61, 62, 63, 64, 65, 66, 67, 68, 69, 70, 71, 72, 73, 74, 75, 76, 77, 78, 79, 80, 81, 82, 83, 84, 85, 86, 163, 164, 165, 166, 167, 168, 169, 170, 171, 131, 132, 133, 134, 135, 136, 172, 173, 174, 175, 176, 177, 178, 179, 180, 181, 182, 183, 184, 185, 186, 187, 188, 189, 190, 191, 192, 193, 194, 195, 196] (by decide +kernel) (by decide +kernel)
set_option maxRecDepth 20000 in
theorem gX11_init_X8_init : GoodIn wsX11_init (wsX8_init) := ggX11_init_X8_init
set_option maxRecDepth 20000 in
theorem ggX11_init_X7_init : GoodIn wsX11_init wsX7_init := goodIn_r _ [89, 90, 2, 3, 91, 92, 22, 93, 94, 146, 147, 148, 149, 150, 163, 164, 165, 166, 167, 168, 169, 170, 171] (by decide +kernel) (by decide +kernel)
set_option maxRecDepth 20000 in
theorem gX11_init_X7_init : GoodIn wsX11_init (wsX7_init) := ggX11_init_X7_init
set_option maxRecDepth 20000 in
theorem ggX11_init_X3_init : GoodIn wsX11_init wsX3_init := goodIn_r _ [97, 98, 2, 3, 99, 100, 101, 102, 103, 104, 105, 106, 42, 43, 107, 108, 109, 110, 111, 112, 22, 113, 114, 115, 116, 82, 83, 84, 85, 86, 151, 152, 153, 154, 197, 198, 199, 200, 201, 202, 203, 204, 205, 131, 132, 133, 134, 135, 136, 185, 186, 187, 188, 189, 190, 191, 192, 193, 194, 195, 196] (by decide +kernel) (by decide +kernel)
set_option maxRecDepth 20000 in
theorem gX11_init_X3_init : GoodIn wsX11_init (wsX3_init) := ggX11_init_X3_init
set_option maxRecDepth 20000 in
theorem ggX11_init_X4_init : GoodIn wsX11_init wsX4_init := goodIn_r _ [118, 119, 2, 3, 120, 121, 122, 123, 22, 124, 125, 126, 127, 128, 129, 130, 206, 207, 208, 209, 210, 211, 212, 213, 155, 156, 157, 158, 159, 160, 161, 162] (by decide +kernel) (by decide +kernel)
set_option maxRecDepth 20000 in
theorem gX11_init_X4_init_n45 : GoodIn wsX11_init (wsX4_init) := ggX11_init_X4_init
theorem dX11_init_0 : decode cX11_init 0 = .ok (.aload_n 0, 1) := by decide +kernel
theorem dX11_init_1 : decode cX11_init 1 = .ok (.invokespecial 3, 3) := by decide +kernel
theorem dX11_init_4 : decode cX11_init 4 = .ok (.aload_n 0, 1) := by decide +kernel
theorem dX11_init_5 : decode cX11_init 5 = .ok (.new 9, 3) := by decide +kernel
theorem dX11_init_8 : decode cX11_init 8 = .ok (.dup, 1) := by decide +kernel
theorem dX11_init_9 : decode cX11_init 9 = .ok (.iload_n 1, 1) := by decide +kernel
theorem dX11_init_10 : decode cX11_init 10 = .ok (.iload_n 2, 1) := by decide +kernel
theorem dX11_init_11 : decode cX11_init 11 = .ok (.invokespecial 11, 3) := by decide +kernel
theorem dX11_init_14 : decode cX11_init 14 = .ok (.putfield 14, 3) := by decide +kernel
theorem dX11_init_17 : decode cX11_init 17 = .ok (.aload_n 0, 1) := by decide +kernel
theorem dX11_init_18 : decode cX11_init 18 = .ok (.new 9, 3) := by decide +kernel
theorem dX11_init_21 : decode cX11_init 21 = .ok (.dup, 1) := by decide +kernel
theorem dX11_init_22 : decode cX11_init 22 = .ok (.iload_n 1, 1) := by decide +kernel
theorem dX11_init_23 : decode cX11_init 23 = .ok (.iload_n 2, 1) := by decide +kernel
theorem dX11_init_24 : decode cX11_init 24 = .ok (.invokespecial 11, 3) := by decide +kernel
theorem dX11_init_27 : decode cX11_init 27 = .ok (.putfield 18, 3) := by decide +kernel
theorem dX11_init_30 : decode cX11_init 30 = .ok (.aload_n 0, 1) := by decide +kernel
theorem dX11_init_31 : decode cX11_init 31 = .ok (.new 21, 3) := by decide +kernel
theorem dX11_init_34 : decode cX11_init 34 = .ok (.dup, 1) := by decide +kernel
theorem dX11_init_35 : decode cX11_init 35 = .ok (.aload_n 0, 1) := by decide +kernel
theorem dX11_init_36 : decode cX11_init 36 = .ok (.getfield 14, 3) := by decide +kernel
theorem dX11_init_39 : decode cX11_init 39 = .ok (.getfield 23, 3) := by decide +kernel
theorem dX11_init_42 : decode cX11_init 42 = .ok (.invokespecial 27, 3) := by decide +kernel
theorem dX11_init_45 : decode cX11_init 45 = .ok (.putfield 30, 3) := by decide +kernel
theorem dX11_init_48 : decode cX11_init 48 = .ok (.aload_n 0, 1) := by decide +kernel
theorem dX11_init_49 : decode cX11_init 49 = .ok (.new 34, 3) := by decide +kernel
theorem dX11_init_52 : decode cX11_init 52 = .ok (.dup, 1) := by decide +kernel
theorem dX11_init_53 : decode cX11_init 53 = .ok (.aload_n 0, 1) := by decide +kernel
theorem dX11_init_54 : decode cX11_init 54 = .ok (.getfield 14, 3) := by decide +kernel
theorem dX11_init_57 : decode cX11_init 57 = .ok (.aload_n 0, 1) := by decide +kernel
theorem dX11_init_58 : decode cX11_init 58 = .ok (.getfield 30, 3) := by decide +kernel
theorem dX11_init_61 : decode cX11_init 61 = .ok (.invokespecial 36, 3) := by decide +kernel
theorem dX11_init_64 : decode cX11_init 64 = .ok (.putfield 39, 3) := by decide +kernel
theorem dX11_init_67 : decode cX11_init 67 = .ok (.aload_n 0, 1) := by decide +kernel
theorem dX11_init_68 : decode cX11_init 68 = .ok (.new 43, 3) := by decide +kernel
theorem dX11_init_71 : decode cX11_init 71 = .ok (.dup, 1) := by decide +kernel
theorem dX11_init_72 : decode cX11_init 72 = .ok (.invokespecial 45, 3) := by decide +kernel
theorem dX11_init_75 : decode cX11_init 75 = .ok (.putfield 46, 3) := by decide +kernel
theorem dX11_init_78 : decode cX11_init 78 = .ok (.aload_n 0, 1) := by decide +kernel
theorem dX11_init_79 : decode cX11_init 79 = .ok (.sipush 300, 3) := by decide +kernel
theorem dX11_init_82 : decode cX11_init 82 = .ok (.newarray .int, 2) := by decide +kernel
theorem dX11_init_84 : decode cX11_init 84 = .ok (.putfield 50, 3) := by decide +kernel
theorem dX11_init_87 : decode cX11_init 87 = .ok (.aload_n 0, 1) := by decide +kernel
theorem dX11_init_88 : decode cX11_init 88 = .ok (.bipush 16, 2) := by decide +kernel
theorem dX11_init_90 : decode cX11_init 90 = .ok (.newarray .int, 2) := by decide +kernel
theorem dX11_init_92 : decode cX11_init 92 = .ok (.putfield 54, 3) := by decide +kernel
theorem dX11_init_95 : decode cX11_init 95 = .ok (.return_, 1) := by decide +kernel
set_option maxRecDepth 20000 in
theorem ggX11_mark_X10_isCell : GoodIn wsX11_mark wsX10_isCell := goodIn_r _ [8, 9, 10, 11, 12, 29, 30, 31, 32, 33, 34, 35, 36, 37] (by decide +kernel) (by decide +kernel)
set_option maxRecDepth 20000 in
theorem gX11_mark_X10_isCell : GoodIn wsX11_mark (wsV RX11 57 RX10 yX10_isCell wsX10_isCell) := goodIn_app (goodIn_of _ (by decide +kernel)) ggX11_mark_X10_isCell
set_option maxRecDepth 20000 in
theorem ggX11_mark_X11_isWithin : GoodIn wsX11_mark wsX11_isWithin := goodIn_r _ [12] (by decide +kernel) (by decide +kernel)
set_option maxRecDepth 20000 in
theorem gX11_mark_X11_isWithin : GoodIn wsX11_mark (va_wsS RX11 63 yX11_isWithin wsX11_isWithin) := goodIn_app (goodIn_of _ (by decide +kernel)) ggX11_mark_X11_isWithin
theorem dX11_mark_0 : decode cX11_mark 0 = .ok (.aload_n 0, 1) := by decide +kernel
theorem dX11_mark_1 : decode cX11_mark 1 = .ok (.getfield 14, 3) := by decide +kernel
theorem dX11_mark_4 : decode cX11_mark 4 = .ok (.getfield 23, 3) := by decide +kernel
theorem dX11_mark_7 : decode cX11_mark 7 = .ok (.iload_n 1, 1) := by decide +kernel
theorem dX11_mark_8 : decode cX11_mark 8 = .ok (.invokevirtual 57, 3) := by decide +kernel
theorem dX11_mark_11 : decode cX11_mark 11 = .ok (.ifCond .eq 14, 3) := by decide +kernel
theorem dX11_mark_14 : decode cX11_mark 14 = .ok (.iload_n 2, 1) := by decide +kernel
theorem dX11_mark_15 : decode cX11_mark 15 = .ok (.iconst 0, 1) := by decide +kernel
theorem dX11_mark_16 : decode cX11_mark 16 = .ok (.sipush 255, 3) := by decide +kernel
theorem dX11_mark_19 : decode cX11_mark 19 = .ok (.invokestatic 63, 3) := by decide +kernel
theorem dX11_mark_22 : decode cX11_mark 22 = .ok (.ifCond .ne 5, 3) := by decide +kernel
theorem dX11_mark_25 : decode cX11_mark 25 = .ok (.iconst 0, 1) := by decide +kernel
theorem dX11_mark_26 : decode cX11_mark 26 = .ok (.ireturn, 1) := by decide +kernel
theorem dX11_mark_27 : decode cX11_mark 27 = .ok (.aload_n 0, 1) := by decide +kernel
theorem dX11_mark_28 : decode cX11_mark 28 = .ok (.getfield 14, 3) := by decide +kernel
theorem dX11_mark_31 : decode cX11_mark 31 = .ok (.getfield 23, 3) := by decide +kernel
theorem dX11_mark_34 : decode cX11_mark 34 = .ok (.getfield 67, 3) := by decide +kernel
theorem dX11_mark_37 : decode cX11_mark 37 = .ok (.iload_n 1, 1) := by decide +kernel
theorem dX11_mark_38 : decode cX11_mark 38 = .ok (.iload_n 2, 1) := by decide +kernel
theorem dX11_mark_39 : decode cX11_mark 39 = .ok (.iastore, 1) := by decide +kernel
theorem dX11_mark_40 : decode cX11_mark 40 = .ok (.iconst 1, 1) := by decide +kernel
theorem dX11_mark_41 : decode cX11_mark 41 = .ok (.ireturn, 1) := by decide +kernel
set_option maxRecDepth 20000 in
theorem ggX11_body_X10_isCell : GoodIn wsX11_body wsX10_isCell := goodIn_r _ [14, 15, 16, 17, 18, 40, 41, 42, 43, 44, 45, 46, 47, 48] (by decide +kernel) (by decide +kernel)
set_option maxRecDepth 20000 in
theorem gX11_body_X10_isCell : GoodIn wsX11_body (wsV RX11 57 RX10 yX10_isCell wsX10_isCell) := goodIn_app (goodIn_of _ (by decide +kernel)) ggX11_body_X10_isCell
set_option maxRecDepth 20000 in
theorem ggX11_body_X11_isWithin : GoodIn wsX11_body wsX11_isWithin := goodIn_r _ [18] (by decide +kernel) (by decide +kernel)
set_option maxRecDepth 20000 in
theorem gX11_body_X11_isWithin : GoodIn wsX11_body (va_wsS RX11 63 yX11_isWithin wsX11_isWithin) := goodIn_app (goodIn_of _ (by decide +kernel)) ggX11_body_X11_isWithin
set_option maxRecDepth 20000 in
theorem ggX11_body_X10_rowOf : GoodIn wsX11_body wsX10_rowOf := goodIn_r _ [23, 24, 40, 41, 42, 43, 44, 45, 46, 47, 48] (by decide +kernel) (by decide +kernel)
set_option maxRecDepth 20000 in
theorem gX11_body_X10_rowOf : GoodIn wsX11_body (wsV RX11 77 RX10 yX10_rowOf wsX10_rowOf) := goodIn_app (goodIn_of _ (by decide +kernel)) ggX11_body_X10_rowOf
theorem dX11_body_0 : decode cX11_body 0 = .ok (.aload_n 0, 1) := by decide +kernel
theorem dX11_body_1 : decode cX11_body 1 = .ok (.getfield 14, 3) := by decide +kernel
theorem dX11_body_4 : decode cX11_body 4 = .ok (.getfield 23, 3) := by decide +kernel
theorem dX11_body_7 : decode cX11_body 7 = .ok (.astore 5, 2) := by decide +kernel
theorem dX11_body_9 : decode cX11_body 9 = .ok (.aload 5, 2) := by decide +kernel
theorem dX11_body_11 : decode cX11_body 11 = .ok (.iload_n 1, 1) := by decide +kernel
theorem dX11_body_12 : decode cX11_body 12 = .ok (.invokevirtual 57, 3) := by decide +kernel
theorem dX11_body_15 : decode cX11_body 15 = .ok (.ifCond .eq 25, 3) := by decide +kernel
theorem dX11_body_18 : decode cX11_body 18 = .ok (.iload 4, 2) := by decide +kernel
theorem dX11_body_20 : decode cX11_body 20 = .ok (.iconst 1, 1) := by decide +kernel
theorem dX11_body_21 : decode cX11_body 21 = .ok (.sipush 255, 3) := by decide +kernel
theorem dX11_body_24 : decode cX11_body 24 = .ok (.invokestatic 63, 3) := by decide +kernel
theorem dX11_body_27 : decode cX11_body 27 = .ok (.ifCond .eq 13, 3) := by decide +kernel
theorem dX11_body_30 : decode cX11_body 30 = .ok (.aload 5, 2) := by decide +kernel
theorem dX11_body_32 : decode cX11_body 32 = .ok (.getfield 70, 3) := by decide +kernel
theorem dX11_body_35 : decode cX11_body 35 = .ok (.bipush 6, 2) := by decide +kernel
theorem dX11_body_37 : decode cX11_body 37 = .ok (.if_icmp .lt 5, 3) := by decide +kernel
theorem dX11_body_40 : decode cX11_body 40 = .ok (.iconst (-1), 1) := by decide +kernel
theorem dX11_body_41 : decode cX11_body 41 = .ok (.ireturn, 1) := by decide +kernel
theorem dX11_body_42 : decode cX11_body 42 = .ok (.iload_n 2, 1) := by decide +kernel
theorem dX11_body_43 : decode cX11_body 43 = .ok (.bipush (-2), 2) := by decide +kernel
theorem dX11_body_45 : decode cX11_body 45 = .ok (.iconst 2, 1) := by decide +kernel
theorem dX11_body_46 : decode cX11_body 46 = .ok (.invokestatic 63, 3) := by decide +kernel
theorem dX11_body_49 : decode cX11_body 49 = .ok (.ifCond .eq 13, 3) := by decide +kernel
theorem dX11_body_52 : decode cX11_body 52 = .ok (.iload_n 3, 1) := by decide +kernel
theorem dX11_body_53 : decode cX11_body 53 = .ok (.bipush (-2), 2) := by decide +kernel
theorem dX11_body_55 : decode cX11_body 55 = .ok (.iconst 2, 1) := by decide +kernel
theorem dX11_body_56 : decode cX11_body 56 = .ok (.invokestatic 63, 3) := by decide +kernel
theorem dX11_body_59 : decode cX11_body 59 = .ok (.ifCond .ne 5, 3) := by decide +kernel
theorem dX11_body_62 : decode cX11_body 62 = .ok (.iconst (-1), 1) := by decide +kernel
theorem dX11_body_63 : decode cX11_body 63 = .ok (.ireturn, 1) := by decide +kernel
theorem dX11_body_64 : decode cX11_body 64 = .ok (.aload 5, 2) := by decide +kernel
theorem dX11_body_66 : decode cX11_body 66 = .ok (.getfield 70, 3) := by decide +kernel
theorem dX11_body_69 : decode cX11_body 69 = .ok (.istore 6, 2) := by decide +kernel
theorem dX11_body_71 : decode cX11_body 71 = .ok (.aload 5, 2) := by decide +kernel
theorem dX11_body_73 : decode cX11_body 73 = .ok (.getfield 74, 3) := by decide +kernel
theorem dX11_body_76 : decode cX11_body 76 = .ok (.iload 6, 2) := by decide +kernel
theorem dX11_body_78 : decode cX11_body 78 = .ok (.aload 5, 2) := by decide +kernel
theorem dX11_body_80 : decode cX11_body 80 = .ok (.iload_n 1, 1) := by decide +kernel
theorem dX11_body_81 : decode cX11_body 81 = .ok (.invokevirtual 77, 3) := by decide +kernel
theorem dX11_body_84 : decode cX11_body 84 = .ok (.iastore, 1) := by decide +kernel
theorem dX11_body_85 : decode cX11_body 85 = .ok (.aload 5, 2) := by decide +kernel
theorem dX11_body_87 : decode cX11_body 87 = .ok (.getfield 81, 3) := by decide +kernel
theorem dX11_body_90 : decode cX11_body 90 = .ok (.iload 6, 2) := by decide +kernel
theorem dX11_body_92 : decode cX11_body 92 = .ok (.iload_n 1, 1) := by decide +kernel
theorem dX11_body_93 : decode cX11_body 93 = .ok (.aload 5, 2) := by decide +kernel
theorem dX11_body_95 : decode cX11_body 95 = .ok (.getfield 74, 3) := by decide +kernel
theorem dX11_body_98 : decode cX11_body 98 = .ok (.iload 6, 2) := by decide +kernel
theorem dX11_body_100 : decode cX11_body 100 = .ok (.iaload, 1) := by decide +kernel
theorem dX11_body_101 : decode cX11_body 101 = .ok (.aload 5, 2) := by decide +kernel
theorem dX11_body_103 : decode cX11_body 103 = .ok (.getfield 84, 3) := by decide +kernel
theorem dX11_body_106 : decode cX11_body 106 = .ok (.imul, 1) := by decide +kernel
theorem dX11_body_107 : decode cX11_body 107 = .ok (.isub, 1) := by decide +kernel
theorem dX11_body_108 : decode cX11_body 108 = .ok (.iastore, 1) := by decide +kernel
theorem dX11_body_109 : decode cX11_body 109 = .ok (.aload 5, 2) := by decide +kernel
theorem dX11_body_111 : decode cX11_body 111 = .ok (.getfield 87, 3) := by decide +kernel
theorem dX11_body_114 : decode cX11_body 114 = .ok (.iload 6, 2) := by decide +kernel
theorem dX11_body_116 : decode cX11_body 116 = .ok (.iload_n 2, 1) := by decide +kernel
theorem dX11_body_117 : decode cX11_body 117 = .ok (.iastore, 1) := by decide +kernel
theorem dX11_body_118 : decode cX11_body 118 = .ok (.aload 5, 2) := by decide +kernel
theorem dX11_body_120 : decode cX11_body 120 = .ok (.getfield 90, 3) := by decide +kernel
theorem dX11_body_123 : decode cX11_body 123 = .ok (.iload 6, 2) := by decide +kernel
theorem dX11_body_125 : decode cX11_body 125 = .ok (.iload_n 3, 1) := by decide +kernel
theorem dX11_body_126 : decode cX11_body 126 = .ok (.iastore, 1) := by decide +kernel
theorem dX11_body_127 : decode cX11_body 127 = .ok (.aload 5, 2) := by decide +kernel
theorem dX11_body_129 : decode cX11_body 129 = .ok (.getfield 93, 3) := by decide +kernel
theorem dX11_body_132 : decode cX11_body 132 = .ok (.iload 6, 2) := by decide +kernel
theorem dX11_body_134 : decode cX11_body 134 = .ok (.iload 4, 2) := by decide +kernel
theorem dX11_body_136 : decode cX11_body 136 = .ok (.iastore, 1) := by decide +kernel
theorem dX11_body_137 : decode cX11_body 137 = .ok (.aload 5, 2) := by decide +kernel
theorem dX11_body_139 : decode cX11_body 139 = .ok (.iload 6, 2) := by decide +kernel
theorem dX11_body_141 : decode cX11_body 141 = .ok (.iconst 1, 1) := by decide +kernel
theorem dX11_body_142 : decode cX11_body 142 = .ok (.iadd, 1) := by decide +kernel
theorem dX11_body_143 : decode cX11_body 143 = .ok (.putfield 70, 3) := by decide +kernel
theorem dX11_body_146 : decode cX11_body 146 = .ok (.iload 6, 2) := by decide +kernel
theorem dX11_body_148 : decode cX11_body 148 = .ok (.ireturn, 1) := by decide +kernel
set_option maxRecDepth 20000 in
theorem ggX11_markOf_X10_isCell : GoodIn wsX11_markOf wsX10_isCell := goodIn_r _ [7, 8, 9, 10, 11, 48, 49, 50, 51, 52, 53, 54, 55, 56] (by decide +kernel) (by decide +kernel)
set_option maxRecDepth 20000 in
theorem gX11_markOf_X10_isCell : GoodIn wsX11_markOf (wsV RX11 57 RX10 yX10_isCell wsX10_isCell) := goodIn_app (goodIn_of _ (by decide +kernel)) ggX11_markOf_X10_isCell
set_option maxRecDepth 20000 in
theorem ggX11_markOf_X11_isTick : GoodIn wsX11_markOf wsX11_isTick := goodIn_r _ [14, 15, 9, 10, 11] (by decide +kernel) (by decide +kernel)
set_option maxRecDepth 20000 in
theorem gX11_markOf_X11_isTick : GoodIn wsX11_markOf (va_wsS RX11 96 yX11_isTick wsX11_isTick) := goodIn_app (goodIn_of _ (by decide +kernel)) ggX11_markOf_X11_isTick
set_option maxRecDepth 20000 in
theorem ggX11_markOf_X10_seenMark : GoodIn wsX11_markOf wsX10_seenMark := goodIn_r _ [19, 20, 21, 8, 22, 23, 24, 6, 25, 26, 27, 28, 29, 30, 31, 32, 4, 5, 7, 9, 10, 11, 48, 49, 50, 51, 52, 53, 54, 55, 56] (by decide +kernel) (by decide +kernel)
set_option maxRecDepth 20000 in
theorem gX11_markOf_X10_seenMark : GoodIn wsX11_markOf (wsV RX11 99 RX10 yX10_seenMark wsX10_seenMark) := goodIn_app (goodIn_of _ (by decide +kernel)) ggX11_markOf_X10_seenMark
theorem dX11_markOf_0 : decode cX11_markOf 0 = .ok (.aload_n 0, 1) := by decide +kernel
theorem dX11_markOf_1 : decode cX11_markOf 1 = .ok (.getfield 14, 3) := by decide +kernel
theorem dX11_markOf_4 : decode cX11_markOf 4 = .ok (.getfield 23, 3) := by decide +kernel
theorem dX11_markOf_7 : decode cX11_markOf 7 = .ok (.iload_n 1, 1) := by decide +kernel
theorem dX11_markOf_8 : decode cX11_markOf 8 = .ok (.invokevirtual 57, 3) := by decide +kernel
theorem dX11_markOf_11 : decode cX11_markOf 11 = .ok (.ifCond .eq 25, 3) := by decide +kernel
theorem dX11_markOf_14 : decode cX11_markOf 14 = .ok (.iload_n 2, 1) := by decide +kernel
theorem dX11_markOf_15 : decode cX11_markOf 15 = .ok (.invokestatic 96, 3) := by decide +kernel
theorem dX11_markOf_18 : decode cX11_markOf 18 = .ok (.ifCond .eq 18, 3) := by decide +kernel
theorem dX11_markOf_21 : decode cX11_markOf 21 = .ok (.aload_n 0, 1) := by decide +kernel
theorem dX11_markOf_22 : decode cX11_markOf 22 = .ok (.getfield 14, 3) := by decide +kernel
theorem dX11_markOf_25 : decode cX11_markOf 25 = .ok (.getfield 23, 3) := by decide +kernel
theorem dX11_markOf_28 : decode cX11_markOf 28 = .ok (.iload_n 1, 1) := by decide +kernel
theorem dX11_markOf_29 : decode cX11_markOf 29 = .ok (.iload_n 2, 1) := by decide +kernel
theorem dX11_markOf_30 : decode cX11_markOf 30 = .ok (.invokevirtual 99, 3) := by decide +kernel
theorem dX11_markOf_33 : decode cX11_markOf 33 = .ok (.goto 4, 3) := by decide +kernel
theorem dX11_markOf_36 : decode cX11_markOf 36 = .ok (.iconst (-1), 1) := by decide +kernel
theorem dX11_markOf_37 : decode cX11_markOf 37 = .ok (.ireturn, 1) := by decide +kernel
set_option maxRecDepth 20000 in
theorem ggX11_lens_X11_isSide : GoodIn wsX11_lens wsX11_isSide := goodIn_r _ [9, 10, 11, 8, 12] (by decide +kernel) (by decide +kernel)
set_option maxRecDepth 20000 in
theorem gX11_lens_X11_isSide : GoodIn wsX11_lens (va_wsS RX11 107 yX11_isSide wsX11_isSide) := goodIn_app (goodIn_of _ (by decide +kernel)) ggX11_lens_X11_isSide
set_option maxRecDepth 20000 in
theorem ggX11_lens_X11_isWithin : GoodIn wsX11_lens wsX11_isWithin := goodIn_r _ [12] (by decide +kernel) (by decide +kernel)
set_option maxRecDepth 20000 in
theorem gX11_lens_X11_isWithin : GoodIn wsX11_lens (va_wsS RX11 63 yX11_isWithin wsX11_isWithin) := goodIn_app (goodIn_of _ (by decide +kernel)) ggX11_lens_X11_isWithin
theorem dX11_lens_0 : decode cX11_lens 0 = .ok (.aload_n 0, 1) := by decide +kernel
theorem dX11_lens_1 : decode cX11_lens 1 = .ok (.getfield 14, 3) := by decide +kernel
theorem dX11_lens_4 : decode cX11_lens 4 = .ok (.getfield 103, 3) := by decide +kernel
theorem dX11_lens_7 : decode cX11_lens 7 = .ok (.astore_n 3, 1) := by decide +kernel
theorem dX11_lens_8 : decode cX11_lens 8 = .ok (.iload_n 1, 1) := by decide +kernel
theorem dX11_lens_9 : decode cX11_lens 9 = .ok (.invokestatic 107, 3) := by decide +kernel
theorem dX11_lens_12 : decode cX11_lens 12 = .ok (.ifCond .eq 22, 3) := by decide +kernel
theorem dX11_lens_15 : decode cX11_lens 15 = .ok (.iload_n 2, 1) := by decide +kernel
theorem dX11_lens_16 : decode cX11_lens 16 = .ok (.iconst 0, 1) := by decide +kernel
theorem dX11_lens_17 : decode cX11_lens 17 = .ok (.bipush 7, 2) := by decide +kernel
theorem dX11_lens_19 : decode cX11_lens 19 = .ok (.invokestatic 63, 3) := by decide +kernel
theorem dX11_lens_22 : decode cX11_lens 22 = .ok (.ifCond .eq 12, 3) := by decide +kernel
theorem dX11_lens_25 : decode cX11_lens 25 = .ok (.aload_n 3, 1) := by decide +kernel
theorem dX11_lens_26 : decode cX11_lens 26 = .ok (.getfield 110, 3) := by decide +kernel
theorem dX11_lens_29 : decode cX11_lens 29 = .ok (.bipush 16, 2) := by decide +kernel
theorem dX11_lens_31 : decode cX11_lens 31 = .ok (.if_icmp .lt 5, 3) := by decide +kernel
theorem dX11_lens_34 : decode cX11_lens 34 = .ok (.iconst (-1), 1) := by decide +kernel
theorem dX11_lens_35 : decode cX11_lens 35 = .ok (.ireturn, 1) := by decide +kernel
theorem dX11_lens_36 : decode cX11_lens 36 = .ok (.aload_n 3, 1) := by decide +kernel
theorem dX11_lens_37 : decode cX11_lens 37 = .ok (.getfield 110, 3) := by decide +kernel
theorem dX11_lens_40 : decode cX11_lens 40 = .ok (.istore 4, 2) := by decide +kernel
theorem dX11_lens_42 : decode cX11_lens 42 = .ok (.aload_n 3, 1) := by decide +kernel
theorem dX11_lens_43 : decode cX11_lens 43 = .ok (.getfield 115, 3) := by decide +kernel
theorem dX11_lens_46 : decode cX11_lens 46 = .ok (.iload 4, 2) := by decide +kernel
theorem dX11_lens_48 : decode cX11_lens 48 = .ok (.iload_n 1, 1) := by decide +kernel
theorem dX11_lens_49 : decode cX11_lens 49 = .ok (.iastore, 1) := by decide +kernel
theorem dX11_lens_50 : decode cX11_lens 50 = .ok (.aload_n 3, 1) := by decide +kernel
theorem dX11_lens_51 : decode cX11_lens 51 = .ok (.getfield 118, 3) := by decide +kernel
theorem dX11_lens_54 : decode cX11_lens 54 = .ok (.iload 4, 2) := by decide +kernel
theorem dX11_lens_56 : decode cX11_lens 56 = .ok (.iload_n 2, 1) := by decide +kernel
theorem dX11_lens_57 : decode cX11_lens 57 = .ok (.iastore, 1) := by decide +kernel
theorem dX11_lens_58 : decode cX11_lens 58 = .ok (.aload_n 3, 1) := by decide +kernel
theorem dX11_lens_59 : decode cX11_lens 59 = .ok (.iload 4, 2) := by decide +kernel
theorem dX11_lens_61 : decode cX11_lens 61 = .ok (.iconst 1, 1) := by decide +kernel
theorem dX11_lens_62 : decode cX11_lens 62 = .ok (.iadd, 1) := by decide +kernel
theorem dX11_lens_63 : decode cX11_lens 63 = .ok (.putfield 110, 3) := by decide +kernel
theorem dX11_lens_66 : decode cX11_lens 66 = .ok (.iload 4, 2) := by decide +kernel
theorem dX11_lens_68 : decode cX11_lens 68 = .ok (.ireturn, 1) := by decide +kernel
set_option maxRecDepth 20000 in
theorem ggX11_pair_X1_isLens : GoodIn wsX11_pair wsX1_isLens := goodIn_r _ [11, 12, 13, 14, 15, 32, 33, 34, 35, 36, 37, 38] (by decide +kernel) (by decide +kernel)
set_option maxRecDepth 20000 in
theorem gX11_pair_X1_isLens : GoodIn wsX11_pair (wsV RX11 121 RX1 yX1_isLens wsX1_isLens) := goodIn_app (goodIn_of _ (by decide +kernel)) ggX11_pair_X1_isLens
set_option maxRecDepth 20000 in
theorem ggX11_pair_X11_isWithin : GoodIn wsX11_pair wsX11_isWithin := goodIn_r _ [15] (by decide +kernel) (by decide +kernel)
set_option maxRecDepth 20000 in
theorem gX11_pair_X11_isWithin : GoodIn wsX11_pair (va_wsS RX11 63 yX11_isWithin wsX11_isWithin) := goodIn_app (goodIn_of _ (by decide +kernel)) ggX11_pair_X11_isWithin
theorem dX11_pair_0 : decode cX11_pair 0 = .ok (.aload_n 0, 1) := by decide +kernel
theorem dX11_pair_1 : decode cX11_pair 1 = .ok (.getfield 14, 3) := by decide +kernel
theorem dX11_pair_4 : decode cX11_pair 4 = .ok (.getfield 103, 3) := by decide +kernel
theorem dX11_pair_7 : decode cX11_pair 7 = .ok (.astore 4, 2) := by decide +kernel
theorem dX11_pair_9 : decode cX11_pair 9 = .ok (.aload 4, 2) := by decide +kernel
theorem dX11_pair_11 : decode cX11_pair 11 = .ok (.iload_n 1, 1) := by decide +kernel
theorem dX11_pair_12 : decode cX11_pair 12 = .ok (.invokevirtual 121, 3) := by decide +kernel
theorem dX11_pair_15 : decode cX11_pair 15 = .ok (.ifCond .eq 17, 3) := by decide +kernel
theorem dX11_pair_18 : decode cX11_pair 18 = .ok (.aload 4, 2) := by decide +kernel
theorem dX11_pair_20 : decode cX11_pair 20 = .ok (.iload_n 2, 1) := by decide +kernel
theorem dX11_pair_21 : decode cX11_pair 21 = .ok (.invokevirtual 121, 3) := by decide +kernel
theorem dX11_pair_24 : decode cX11_pair 24 = .ok (.ifCond .eq 8, 3) := by decide +kernel
theorem dX11_pair_27 : decode cX11_pair 27 = .ok (.iload_n 1, 1) := by decide +kernel
theorem dX11_pair_28 : decode cX11_pair 28 = .ok (.iload_n 2, 1) := by decide +kernel
theorem dX11_pair_29 : decode cX11_pair 29 = .ok (.if_icmp .ne 5, 3) := by decide +kernel
theorem dX11_pair_32 : decode cX11_pair 32 = .ok (.iconst (-1), 1) := by decide +kernel
theorem dX11_pair_33 : decode cX11_pair 33 = .ok (.ireturn, 1) := by decide +kernel
theorem dX11_pair_34 : decode cX11_pair 34 = .ok (.iload_n 3, 1) := by decide +kernel
theorem dX11_pair_35 : decode cX11_pair 35 = .ok (.iconst 1, 1) := by decide +kernel
theorem dX11_pair_36 : decode cX11_pair 36 = .ok (.bipush 8, 2) := by decide +kernel
theorem dX11_pair_38 : decode cX11_pair 38 = .ok (.invokestatic 63, 3) := by decide +kernel
theorem dX11_pair_41 : decode cX11_pair 41 = .ok (.ifCond .eq 13, 3) := by decide +kernel
theorem dX11_pair_44 : decode cX11_pair 44 = .ok (.aload 4, 2) := by decide +kernel
theorem dX11_pair_46 : decode cX11_pair 46 = .ok (.getfield 124, 3) := by decide +kernel
theorem dX11_pair_49 : decode cX11_pair 49 = .ok (.bipush 16, 2) := by decide +kernel
theorem dX11_pair_51 : decode cX11_pair 51 = .ok (.if_icmp .lt 5, 3) := by decide +kernel
theorem dX11_pair_54 : decode cX11_pair 54 = .ok (.iconst (-1), 1) := by decide +kernel
theorem dX11_pair_55 : decode cX11_pair 55 = .ok (.ireturn, 1) := by decide +kernel
theorem dX11_pair_56 : decode cX11_pair 56 = .ok (.aload 4, 2) := by decide +kernel
theorem dX11_pair_58 : decode cX11_pair 58 = .ok (.getfield 124, 3) := by decide +kernel
theorem dX11_pair_61 : decode cX11_pair 61 = .ok (.istore 5, 2) := by decide +kernel
theorem dX11_pair_63 : decode cX11_pair 63 = .ok (.aload 4, 2) := by decide +kernel
theorem dX11_pair_65 : decode cX11_pair 65 = .ok (.getfield 127, 3) := by decide +kernel
theorem dX11_pair_68 : decode cX11_pair 68 = .ok (.iload 5, 2) := by decide +kernel
theorem dX11_pair_70 : decode cX11_pair 70 = .ok (.iload_n 1, 1) := by decide +kernel
theorem dX11_pair_71 : decode cX11_pair 71 = .ok (.iastore, 1) := by decide +kernel
theorem dX11_pair_72 : decode cX11_pair 72 = .ok (.aload 4, 2) := by decide +kernel
theorem dX11_pair_74 : decode cX11_pair 74 = .ok (.getfield 130, 3) := by decide +kernel
theorem dX11_pair_77 : decode cX11_pair 77 = .ok (.iload 5, 2) := by decide +kernel
theorem dX11_pair_79 : decode cX11_pair 79 = .ok (.iload_n 2, 1) := by decide +kernel
theorem dX11_pair_80 : decode cX11_pair 80 = .ok (.iastore, 1) := by decide +kernel
theorem dX11_pair_81 : decode cX11_pair 81 = .ok (.aload 4, 2) := by decide +kernel
theorem dX11_pair_83 : decode cX11_pair 83 = .ok (.getfield 133, 3) := by decide +kernel
theorem dX11_pair_86 : decode cX11_pair 86 = .ok (.iload 5, 2) := by decide +kernel
theorem dX11_pair_88 : decode cX11_pair 88 = .ok (.iload_n 3, 1) := by decide +kernel
theorem dX11_pair_89 : decode cX11_pair 89 = .ok (.iastore, 1) := by decide +kernel
theorem dX11_pair_90 : decode cX11_pair 90 = .ok (.aload 4, 2) := by decide +kernel
theorem dX11_pair_92 : decode cX11_pair 92 = .ok (.iload 5, 2) := by decide +kernel
theorem dX11_pair_94 : decode cX11_pair 94 = .ok (.iconst 1, 1) := by decide +kernel
theorem dX11_pair_95 : decode cX11_pair 95 = .ok (.iadd, 1) := by decide +kernel
theorem dX11_pair_96 : decode cX11_pair 96 = .ok (.putfield 124, 3) := by decide +kernel
theorem dX11_pair_99 : decode cX11_pair 99 = .ok (.iload 5, 2) := by decide +kernel
theorem dX11_pair_101 : decode cX11_pair 101 = .ok (.ireturn, 1) := by decide +kernel
set_option maxRecDepth 20000 in
theorem ggX11_ray_X10_isPlace : GoodIn wsX11_ray wsX10_isPlace := goodIn_r _ [8, 9, 10, 11, 12, 13, 71, 72, 73, 74, 75, 76, 77, 78, 79] (by decide +kernel) (by decide +kernel)
set_option maxRecDepth 20000 in
theorem gX11_ray_X10_isPlace : GoodIn wsX11_ray (wsV RX11 136 RX10 yX10_isPlace wsX10_isPlace) := goodIn_app (goodIn_of _ (by decide +kernel)) ggX11_ray_X10_isPlace
set_option maxRecDepth 20000 in
theorem ggX11_ray_X11_isSide : GoodIn wsX11_ray wsX11_isSide := goodIn_r _ [16, 17, 11, 12, 13] (by decide +kernel) (by decide +kernel)
set_option maxRecDepth 20000 in
theorem gX11_ray_X11_isSide : GoodIn wsX11_ray (va_wsS RX11 107 yX11_isSide wsX11_isSide) := goodIn_app (goodIn_of _ (by decide +kernel)) ggX11_ray_X11_isSide
set_option maxRecDepth 20000 in
theorem ggX11_ray_X11_isTick : GoodIn wsX11_ray wsX11_isTick := goodIn_r _ [20, 17, 11, 12, 13] (by decide +kernel) (by decide +kernel)
set_option maxRecDepth 20000 in
theorem gX11_ray_X11_isTick : GoodIn wsX11_ray (va_wsS RX11 96 yX11_isTick wsX11_isTick) := goodIn_app (goodIn_of _ (by decide +kernel)) ggX11_ray_X11_isTick
set_option maxRecDepth 20000 in
theorem ggX11_ray_X7_look : GoodIn wsX11_ray wsX7_look := goodIn_r _ [25, 26, 27, 28, 29, 30, 31, 32, 33, 34, 35, 36, 37, 38, 39, 40, 7, 41, 42, 43, 44, 45, 9, 10, 46, 47, 48, 49, 80, 81, 82, 83, 84, 71, 72, 73, 74, 75, 76, 77, 78, 79] (by decide +kernel) (by decide +kernel)
set_option maxRecDepth 20000 in
theorem gX11_ray_X7_look : GoodIn wsX11_ray (wsV RX11 140 RX7 yX7_look wsX7_look) := goodIn_app (goodIn_of _ (by decide +kernel)) ggX11_ray_X7_look
set_option maxRecDepth 20000 in
theorem ggX11_ray_X7_trace : GoodIn wsX11_ray wsX7_trace := goodIn_r _ [53, 28, 54, 55, 26, 27, 30, 80, 81, 82, 83, 84, 71, 72, 73, 74, 75, 76, 77, 78, 79] (by decide +kernel) (by decide +kernel)
set_option maxRecDepth 20000 in
theorem gX11_ray_X7_trace : GoodIn wsX11_ray (wsV RX11 144 RX7 yX7_trace wsX7_trace) := goodIn_app (goodIn_of _ (by decide +kernel)) ggX11_ray_X7_trace
theorem dX11_ray_0 : decode cX11_ray 0 = .ok (.aload_n 0, 1) := by decide +kernel
theorem dX11_ray_1 : decode cX11_ray 1 = .ok (.getfield 14, 3) := by decide +kernel
theorem dX11_ray_4 : decode cX11_ray 4 = .ok (.getfield 23, 3) := by decide +kernel
theorem dX11_ray_7 : decode cX11_ray 7 = .ok (.iload_n 1, 1) := by decide +kernel
theorem dX11_ray_8 : decode cX11_ray 8 = .ok (.iload_n 2, 1) := by decide +kernel
theorem dX11_ray_9 : decode cX11_ray 9 = .ok (.invokevirtual 136, 3) := by decide +kernel
theorem dX11_ray_12 : decode cX11_ray 12 = .ok (.ifCond .eq 18, 3) := by decide +kernel
theorem dX11_ray_15 : decode cX11_ray 15 = .ok (.iload_n 3, 1) := by decide +kernel
theorem dX11_ray_16 : decode cX11_ray 16 = .ok (.invokestatic 107, 3) := by decide +kernel
theorem dX11_ray_19 : decode cX11_ray 19 = .ok (.ifCond .eq 11, 3) := by decide +kernel
theorem dX11_ray_22 : decode cX11_ray 22 = .ok (.iload 4, 2) := by decide +kernel
theorem dX11_ray_24 : decode cX11_ray 24 = .ok (.invokestatic 96, 3) := by decide +kernel
theorem dX11_ray_27 : decode cX11_ray 27 = .ok (.ifCond .ne 5, 3) := by decide +kernel
theorem dX11_ray_30 : decode cX11_ray 30 = .ok (.iconst (-1), 1) := by decide +kernel
theorem dX11_ray_31 : decode cX11_ray 31 = .ok (.ireturn, 1) := by decide +kernel
theorem dX11_ray_32 : decode cX11_ray 32 = .ok (.aload_n 0, 1) := by decide +kernel
theorem dX11_ray_33 : decode cX11_ray 33 = .ok (.getfield 30, 3) := by decide +kernel
theorem dX11_ray_36 : decode cX11_ray 36 = .ok (.iload_n 1, 1) := by decide +kernel
theorem dX11_ray_37 : decode cX11_ray 37 = .ok (.iload_n 2, 1) := by decide +kernel
theorem dX11_ray_38 : decode cX11_ray 38 = .ok (.iload 4, 2) := by decide +kernel
theorem dX11_ray_40 : decode cX11_ray 40 = .ok (.invokevirtual 140, 3) := by decide +kernel
theorem dX11_ray_43 : decode cX11_ray 43 = .ok (.aload_n 0, 1) := by decide +kernel
theorem dX11_ray_44 : decode cX11_ray 44 = .ok (.getfield 30, 3) := by decide +kernel
theorem dX11_ray_47 : decode cX11_ray 47 = .ok (.iload_n 3, 1) := by decide +kernel
theorem dX11_ray_48 : decode cX11_ray 48 = .ok (.invokevirtual 144, 3) := by decide +kernel
theorem dX11_ray_51 : decode cX11_ray 51 = .ok (.istore 6, 2) := by decide +kernel
theorem dX11_ray_53 : decode cX11_ray 53 = .ok (.iload 5, 2) := by decide +kernel
theorem dX11_ray_55 : decode cX11_ray 55 = .ok (.ifCond .eq 11, 3) := by decide +kernel
theorem dX11_ray_58 : decode cX11_ray 58 = .ok (.iload 6, 2) := by decide +kernel
theorem dX11_ray_60 : decode cX11_ray 60 = .ok (.bipush 8, 2) := by decide +kernel
theorem dX11_ray_62 : decode cX11_ray 62 = .ok (.ishr, 1) := by decide +kernel
theorem dX11_ray_63 : decode cX11_ray 63 = .ok (.goto 9, 3) := by decide +kernel
theorem dX11_ray_66 : decode cX11_ray 66 = .ok (.iload 6, 2) := by decide +kernel
theorem dX11_ray_68 : decode cX11_ray 68 = .ok (.sipush 255, 3) := by decide +kernel
theorem dX11_ray_71 : decode cX11_ray 71 = .ok (.iand, 1) := by decide +kernel
theorem dX11_ray_72 : decode cX11_ray 72 = .ok (.ireturn, 1) := by decide +kernel
set_option maxRecDepth 20000 in
theorem ggX11_take_X1_isLens : GoodIn wsX11_take wsX1_isLens := goodIn_r _ [10, 11, 12, 13, 14, 95, 96, 97, 98, 99, 100, 101] (by decide +kernel) (by decide +kernel)
set_option maxRecDepth 20000 in
theorem gX11_take_X1_isLens : GoodIn wsX11_take (wsV RX11 121 RX1 yX1_isLens wsX1_isLens) := goodIn_app (goodIn_of _ (by decide +kernel)) ggX11_take_X1_isLens
set_option maxRecDepth 20000 in
theorem ggX11_take_X11_isStanding : GoodIn wsX11_take wsX11_isStanding := goodIn_r _ [18, 1, 19, 20, 21, 22, 23, 24, 25, 26, 12, 13, 14, 27, 28, 29, 30, 80, 81, 82, 83, 84, 85, 86, 87, 88, 89, 90, 91, 92, 93, 94, 102, 103, 104, 105, 106, 107, 108, 109, 110] (by decide +kernel) (by decide +kernel)
set_option maxRecDepth 20000 in
theorem gX11_take_X11_isStanding : GoodIn wsX11_take (wsV RX11 147 RX11 yX11_isStanding wsX11_isStanding) := goodIn_app (goodIn_of _ (by decide +kernel)) ggX11_take_X11_isStanding
set_option maxRecDepth 20000 in
theorem ggX11_take_X11_isTick : GoodIn wsX11_take wsX11_isTick := goodIn_r _ [33, 30, 12, 13, 14] (by decide +kernel) (by decide +kernel)
set_option maxRecDepth 20000 in
theorem gX11_take_X11_isTick : GoodIn wsX11_take (va_wsS RX11 96 yX11_isTick wsX11_isTick) := goodIn_app (goodIn_of _ (by decide +kernel)) ggX11_take_X11_isTick
set_option maxRecDepth 20000 in
theorem ggX11_take_X7_look : GoodIn wsX11_take wsX7_look := goodIn_r _ [38, 39, 40, 41, 42, 43, 44, 45, 46, 47, 48, 49, 50, 51, 52, 53, 23, 54, 55, 56, 57, 58, 25, 26, 59, 60, 61, 62, 111, 112, 113, 114, 115, 102, 103, 104, 105, 106, 107, 108, 109, 110] (by decide +kernel) (by decide +kernel)
set_option maxRecDepth 20000 in
theorem gX11_take_X7_look : GoodIn wsX11_take (wsV RX11 140 RX7 yX7_look wsX7_look) := goodIn_app (goodIn_of _ (by decide +kernel)) ggX11_take_X7_look
set_option maxRecDepth 20000 in
theorem ggX11_take_X7_weigh : GoodIn wsX11_take wsX7_weigh := goodIn_r _ [66, 50, 67, 68, 69, 70, 71, 72, 73, 37, 74, 41, 75, 76, 39, 40, 43, 77, 78, 9, 79, 111, 112, 113, 114, 115, 102, 103, 104, 105, 106, 107, 108, 109, 110] (by decide +kernel) (by decide +kernel)
set_option maxRecDepth 20000 in
theorem gX11_take_X7_weigh : GoodIn wsX11_take (wsV RX11 150 RX7 yX7_weigh wsX7_weigh) := goodIn_app (goodIn_of _ (by decide +kernel)) ggX11_take_X7_weigh
theorem dX11_take_0 : decode cX11_take 0 = .ok (.aload_n 0, 1) := by decide +kernel
theorem dX11_take_1 : decode cX11_take 1 = .ok (.getfield 14, 3) := by decide +kernel
theorem dX11_take_4 : decode cX11_take 4 = .ok (.getfield 103, 3) := by decide +kernel
theorem dX11_take_7 : decode cX11_take 7 = .ok (.astore 6, 2) := by decide +kernel
theorem dX11_take_9 : decode cX11_take 9 = .ok (.aload 6, 2) := by decide +kernel
theorem dX11_take_11 : decode cX11_take 11 = .ok (.iload_n 1, 1) := by decide +kernel
theorem dX11_take_12 : decode cX11_take 12 = .ok (.invokevirtual 121, 3) := by decide +kernel
theorem dX11_take_15 : decode cX11_take 15 = .ok (.ifCond .eq 22, 3) := by decide +kernel
theorem dX11_take_18 : decode cX11_take 18 = .ok (.aload_n 0, 1) := by decide +kernel
theorem dX11_take_19 : decode cX11_take 19 = .ok (.iload_n 2, 1) := by decide +kernel
theorem dX11_take_20 : decode cX11_take 20 = .ok (.iload_n 3, 1) := by decide +kernel
theorem dX11_take_21 : decode cX11_take 21 = .ok (.iload 4, 2) := by decide +kernel
theorem dX11_take_23 : decode cX11_take 23 = .ok (.invokevirtual 147, 3) := by decide +kernel
theorem dX11_take_26 : decode cX11_take 26 = .ok (.ifCond .eq 11, 3) := by decide +kernel
theorem dX11_take_29 : decode cX11_take 29 = .ok (.iload 5, 2) := by decide +kernel
theorem dX11_take_31 : decode cX11_take 31 = .ok (.invokestatic 96, 3) := by decide +kernel
theorem dX11_take_34 : decode cX11_take 34 = .ok (.ifCond .ne 5, 3) := by decide +kernel
theorem dX11_take_37 : decode cX11_take 37 = .ok (.iconst (-1), 1) := by decide +kernel
theorem dX11_take_38 : decode cX11_take 38 = .ok (.ireturn, 1) := by decide +kernel
theorem dX11_take_39 : decode cX11_take 39 = .ok (.aload_n 0, 1) := by decide +kernel
theorem dX11_take_40 : decode cX11_take 40 = .ok (.getfield 30, 3) := by decide +kernel
theorem dX11_take_43 : decode cX11_take 43 = .ok (.iload_n 2, 1) := by decide +kernel
theorem dX11_take_44 : decode cX11_take 44 = .ok (.iload_n 3, 1) := by decide +kernel
theorem dX11_take_45 : decode cX11_take 45 = .ok (.iload 5, 2) := by decide +kernel
theorem dX11_take_47 : decode cX11_take 47 = .ok (.invokevirtual 140, 3) := by decide +kernel
theorem dX11_take_50 : decode cX11_take 50 = .ok (.aload_n 0, 1) := by decide +kernel
theorem dX11_take_51 : decode cX11_take 51 = .ok (.getfield 30, 3) := by decide +kernel
theorem dX11_take_54 : decode cX11_take 54 = .ok (.aload 6, 2) := by decide +kernel
theorem dX11_take_56 : decode cX11_take 56 = .ok (.getfield 115, 3) := by decide +kernel
theorem dX11_take_59 : decode cX11_take 59 = .ok (.iload_n 1, 1) := by decide +kernel
theorem dX11_take_60 : decode cX11_take 60 = .ok (.iaload, 1) := by decide +kernel
theorem dX11_take_61 : decode cX11_take 61 = .ok (.aload 6, 2) := by decide +kernel
theorem dX11_take_63 : decode cX11_take 63 = .ok (.getfield 118, 3) := by decide +kernel
theorem dX11_take_66 : decode cX11_take 66 = .ok (.iload_n 1, 1) := by decide +kernel
theorem dX11_take_67 : decode cX11_take 67 = .ok (.iaload, 1) := by decide +kernel
theorem dX11_take_68 : decode cX11_take 68 = .ok (.iload 4, 2) := by decide +kernel
theorem dX11_take_70 : decode cX11_take 70 = .ok (.invokevirtual 150, 3) := by decide +kernel
theorem dX11_take_73 : decode cX11_take 73 = .ok (.ireturn, 1) := by decide +kernel
set_option maxRecDepth 20000 in
theorem ggX11_covered_X11_isSide : GoodIn wsX11_covered wsX11_isSide := goodIn_r _ [6, 7, 8, 5, 9] (by decide +kernel) (by decide +kernel)
set_option maxRecDepth 20000 in
theorem gX11_covered_X11_isSide : GoodIn wsX11_covered (va_wsS RX11 107 yX11_isSide wsX11_isSide) := goodIn_app (goodIn_of _ (by decide +kernel)) ggX11_covered_X11_isSide
set_option maxRecDepth 20000 in
theorem ggX11_covered_X1_lensesTo : GoodIn wsX11_covered wsX1_lensesTo := goodIn_r _ [14, 15, 16, 17, 18, 13, 19, 20, 21, 22, 23, 24, 25, 26, 27, 28, 49, 50, 51, 52, 53, 54, 55] (by decide +kernel) (by decide +kernel)
set_option maxRecDepth 20000 in
theorem gX11_covered_X1_lensesTo : GoodIn wsX11_covered (wsV RX11 154 RX1 yX1_lensesTo wsX1_lensesTo) := goodIn_app (goodIn_of _ (by decide +kernel)) ggX11_covered_X1_lensesTo
set_option maxRecDepth 20000 in
theorem ggX11_covered_X1_sidesUnseen : GoodIn wsX11_covered wsX1_sidesUnseen := goodIn_r _ [32, 33, 11, 12, 13, 14, 15, 16, 17, 18, 19, 20, 21, 22, 23, 24, 25, 26, 27, 28, 49, 50, 51, 52, 53, 54, 55] (by decide +kernel) (by decide +kernel)
set_option maxRecDepth 20000 in
theorem gX11_covered_X1_sidesUnseen : GoodIn wsX11_covered (wsV RX11 157 RX1 yX1_sidesUnseen wsX1_sidesUnseen) := goodIn_app (goodIn_of _ (by decide +kernel)) ggX11_covered_X1_sidesUnseen
theorem dX11_covered_0 : decode cX11_covered 0 = .ok (.iload_n 1, 1) := by decide +kernel
theorem dX11_covered_1 : decode cX11_covered 1 = .ok (.invokestatic 107, 3) := by decide +kernel
theorem dX11_covered_4 : decode cX11_covered 4 = .ok (.ifCond .eq 15, 3) := by decide +kernel
theorem dX11_covered_7 : decode cX11_covered 7 = .ok (.aload_n 0, 1) := by decide +kernel
theorem dX11_covered_8 : decode cX11_covered 8 = .ok (.getfield 14, 3) := by decide +kernel
theorem dX11_covered_11 : decode cX11_covered 11 = .ok (.getfield 103, 3) := by decide +kernel
theorem dX11_covered_14 : decode cX11_covered 14 = .ok (.iload_n 1, 1) := by decide +kernel
theorem dX11_covered_15 : decode cX11_covered 15 = .ok (.invokevirtual 154, 3) := by decide +kernel
theorem dX11_covered_18 : decode cX11_covered 18 = .ok (.ireturn, 1) := by decide +kernel
theorem dX11_covered_19 : decode cX11_covered 19 = .ok (.iload_n 1, 1) := by decide +kernel
theorem dX11_covered_20 : decode cX11_covered 20 = .ok (.iconst (-1), 1) := by decide +kernel
theorem dX11_covered_21 : decode cX11_covered 21 = .ok (.if_icmp .ne 16, 3) := by decide +kernel
theorem dX11_covered_24 : decode cX11_covered 24 = .ok (.aload_n 0, 1) := by decide +kernel
theorem dX11_covered_25 : decode cX11_covered 25 = .ok (.getfield 14, 3) := by decide +kernel
theorem dX11_covered_28 : decode cX11_covered 28 = .ok (.getfield 103, 3) := by decide +kernel
theorem dX11_covered_31 : decode cX11_covered 31 = .ok (.invokevirtual 157, 3) := by decide +kernel
theorem dX11_covered_34 : decode cX11_covered 34 = .ok (.goto 4, 3) := by decide +kernel
theorem dX11_covered_37 : decode cX11_covered 37 = .ok (.iconst (-1), 1) := by decide +kernel
theorem dX11_covered_38 : decode cX11_covered 38 = .ok (.ireturn, 1) := by decide +kernel
set_option maxRecDepth 20000 in
theorem ggX11_ends_X11_isSide : GoodIn wsX11_ends wsX11_isSide := goodIn_r _ [17, 18, 19, 16, 20] (by decide +kernel) (by decide +kernel)
set_option maxRecDepth 20000 in
theorem gX11_ends_X11_isSide : GoodIn wsX11_ends (va_wsS RX11 107 yX11_isSide wsX11_isSide) := goodIn_app (goodIn_of _ (by decide +kernel)) ggX11_ends_X11_isSide
set_option maxRecDepth 20000 in
theorem ggX11_ends_X11_isStanding : GoodIn wsX11_ends wsX11_isStanding := goodIn_r _ [24, 2, 25, 26, 27, 28, 29, 30, 31, 32, 19, 16, 20, 14, 15, 17, 18, 95, 96, 97, 98, 99, 100, 101, 102, 103, 104, 105, 106, 107, 108, 109, 117, 118, 119, 120, 121, 122, 123, 124, 125] (by decide +kernel) (by decide +kernel)
set_option maxRecDepth 20000 in
theorem gX11_ends_X11_isStanding : GoodIn wsX11_ends (wsV RX11 147 RX11 yX11_isStanding wsX11_isStanding) := goodIn_app (goodIn_of _ (by decide +kernel)) ggX11_ends_X11_isStanding
set_option maxRecDepth 20000 in
theorem ggX11_ends_X7_look : GoodIn wsX11_ends wsX7_look := goodIn_r _ [37, 38, 39, 40, 41, 42, 43, 44, 45, 46, 47, 48, 49, 50, 51, 52, 29, 53, 54, 55, 56, 57, 31, 32, 58, 59, 60, 61, 126, 127, 128, 129, 130, 117, 118, 119, 120, 121, 122, 123, 124, 125] (by decide +kernel) (by decide +kernel)
set_option maxRecDepth 20000 in
theorem gX11_ends_X7_look : GoodIn wsX11_ends (wsV RX11 140 RX7 yX7_look wsX7_look) := goodIn_app (goodIn_of _ (by decide +kernel)) ggX11_ends_X7_look
set_option maxRecDepth 20000 in
theorem ggX11_ends_X1_weightOf : GoodIn wsX11_ends wsX1_weightOf := goodIn_r _ [66, 67, 68, 69, 12, 9, 13, 70, 8, 10, 110, 111, 112, 113, 114, 115, 116] (by decide +kernel) (by decide +kernel)
set_option maxRecDepth 20000 in
theorem gX11_ends_X1_weightOf : GoodIn wsX11_ends (wsV RX11 161 RX1 yX1_weightOf wsX1_weightOf) := goodIn_app (goodIn_of _ (by decide +kernel)) ggX11_ends_X1_weightOf
set_option maxRecDepth 20000 in
theorem ggX11_ends_X1_allWeights : GoodIn wsX11_ends wsX1_allWeights := goodIn_r _ [73] (by decide +kernel) (by decide +kernel)
set_option maxRecDepth 20000 in
theorem gX11_ends_X1_allWeights : GoodIn wsX11_ends (va_wsS RX11 164 yX1_allWeights wsX1_allWeights) := goodIn_app (goodIn_of _ (by decide +kernel)) ggX11_ends_X1_allWeights
set_option maxRecDepth 20000 in
theorem ggX11_ends_X7_weigh : GoodIn wsX11_ends wsX7_weigh := goodIn_r _ [77, 49, 78, 79, 9, 80, 81, 82, 83, 36, 84, 40, 85, 86, 38, 39, 42, 87, 72, 65, 73, 126, 127, 128, 129, 130, 117, 118, 119, 120, 121, 122, 123, 124, 125] (by decide +kernel) (by decide +kernel)
set_option maxRecDepth 20000 in
theorem gX11_ends_X7_weigh : GoodIn wsX11_ends (wsV RX11 150 RX7 yX7_weigh wsX7_weigh) := goodIn_app (goodIn_of _ (by decide +kernel)) ggX11_ends_X7_weigh
set_option maxRecDepth 20000 in
theorem ggX11_ends_X11_ceilDiv : GoodIn wsX11_ends wsX11_ceilDiv := goodIn_r _ [90, 91, 92, 93, 94] (by decide +kernel) (by decide +kernel)
set_option maxRecDepth 20000 in
theorem gX11_ends_X11_ceilDiv : GoodIn wsX11_ends (va_wsS RX11 167 yX11_ceilDiv wsX11_ceilDiv) := goodIn_app (goodIn_of _ (by decide +kernel)) ggX11_ends_X11_ceilDiv
theorem dX11_ends_0 : decode cX11_ends 0 = .ok (.iload_n 1, 1) := by decide +kernel
theorem dX11_ends_1 : decode cX11_ends 1 = .ok (.invokestatic 107, 3) := by decide +kernel
theorem dX11_ends_4 : decode cX11_ends 4 = .ok (.ifCond .eq 14, 3) := by decide +kernel
theorem dX11_ends_7 : decode cX11_ends 7 = .ok (.aload_n 0, 1) := by decide +kernel
theorem dX11_ends_8 : decode cX11_ends 8 = .ok (.iload_n 2, 1) := by decide +kernel
theorem dX11_ends_9 : decode cX11_ends 9 = .ok (.iload_n 3, 1) := by decide +kernel
theorem dX11_ends_10 : decode cX11_ends 10 = .ok (.iload 4, 2) := by decide +kernel
theorem dX11_ends_12 : decode cX11_ends 12 = .ok (.invokevirtual 147, 3) := by decide +kernel
theorem dX11_ends_15 : decode cX11_ends 15 = .ok (.ifCond .ne 5, 3) := by decide +kernel
theorem dX11_ends_18 : decode cX11_ends 18 = .ok (.iconst (-1), 1) := by decide +kernel
theorem dX11_ends_19 : decode cX11_ends 19 = .ok (.ireturn, 1) := by decide +kernel
theorem dX11_ends_20 : decode cX11_ends 20 = .ok (.aload_n 0, 1) := by decide +kernel
theorem dX11_ends_21 : decode cX11_ends 21 = .ok (.getfield 30, 3) := by decide +kernel
theorem dX11_ends_24 : decode cX11_ends 24 = .ok (.iload_n 2, 1) := by decide +kernel
theorem dX11_ends_25 : decode cX11_ends 25 = .ok (.iload_n 3, 1) := by decide +kernel
theorem dX11_ends_26 : decode cX11_ends 26 = .ok (.iconst 0, 1) := by decide +kernel
theorem dX11_ends_27 : decode cX11_ends 27 = .ok (.invokevirtual 140, 3) := by decide +kernel
theorem dX11_ends_30 : decode cX11_ends 30 = .ok (.aload_n 0, 1) := by decide +kernel
theorem dX11_ends_31 : decode cX11_ends 31 = .ok (.getfield 14, 3) := by decide +kernel
theorem dX11_ends_34 : decode cX11_ends 34 = .ok (.getfield 103, 3) := by decide +kernel
theorem dX11_ends_37 : decode cX11_ends 37 = .ok (.astore 6, 2) := by decide +kernel
theorem dX11_ends_39 : decode cX11_ends 39 = .ok (.iconst 0, 1) := by decide +kernel
theorem dX11_ends_40 : decode cX11_ends 40 = .ok (.istore 7, 2) := by decide +kernel
theorem dX11_ends_42 : decode cX11_ends 42 = .ok (.sipush 255, 3) := by decide +kernel
theorem dX11_ends_45 : decode cX11_ends 45 = .ok (.istore 8, 2) := by decide +kernel
theorem dX11_ends_47 : decode cX11_ends 47 = .ok (.iconst 0, 1) := by decide +kernel
theorem dX11_ends_48 : decode cX11_ends 48 = .ok (.istore 9, 2) := by decide +kernel
theorem dX11_ends_50 : decode cX11_ends 50 = .ok (.iload 9, 2) := by decide +kernel
theorem dX11_ends_52 : decode cX11_ends 52 = .ok (.aload 6, 2) := by decide +kernel
theorem dX11_ends_54 : decode cX11_ends 54 = .ok (.getfield 110, 3) := by decide +kernel
theorem dX11_ends_57 : decode cX11_ends 57 = .ok (.if_icmp .ge 110, 3) := by decide +kernel
theorem dX11_ends_60 : decode cX11_ends 60 = .ok (.aload 6, 2) := by decide +kernel
theorem dX11_ends_62 : decode cX11_ends 62 = .ok (.iload 9, 2) := by decide +kernel
theorem dX11_ends_64 : decode cX11_ends 64 = .ok (.iload_n 1, 1) := by decide +kernel
theorem dX11_ends_65 : decode cX11_ends 65 = .ok (.invokevirtual 161, 3) := by decide +kernel
theorem dX11_ends_68 : decode cX11_ends 68 = .ok (.istore 10, 2) := by decide +kernel
theorem dX11_ends_70 : decode cX11_ends 70 = .ok (.iload 10, 2) := by decide +kernel
theorem dX11_ends_72 : decode cX11_ends 72 = .ok (.ifCond .le 89, 3) := by decide +kernel
theorem dX11_ends_75 : decode cX11_ends 75 = .ok (.aload 6, 2) := by decide +kernel
theorem dX11_ends_77 : decode cX11_ends 77 = .ok (.getfield 118, 3) := by decide +kernel
theorem dX11_ends_80 : decode cX11_ends 80 = .ok (.iload 9, 2) := by decide +kernel
theorem dX11_ends_82 : decode cX11_ends 82 = .ok (.iaload, 1) := by decide +kernel
theorem dX11_ends_83 : decode cX11_ends 83 = .ok (.invokestatic 164, 3) := by decide +kernel
theorem dX11_ends_86 : decode cX11_ends 86 = .ok (.istore 11, 2) := by decide +kernel
theorem dX11_ends_88 : decode cX11_ends 88 = .ok (.aload_n 0, 1) := by decide +kernel
theorem dX11_ends_89 : decode cX11_ends 89 = .ok (.getfield 30, 3) := by decide +kernel
theorem dX11_ends_92 : decode cX11_ends 92 = .ok (.aload 6, 2) := by decide +kernel
theorem dX11_ends_94 : decode cX11_ends 94 = .ok (.getfield 115, 3) := by decide +kernel
theorem dX11_ends_97 : decode cX11_ends 97 = .ok (.iload 9, 2) := by decide +kernel
theorem dX11_ends_99 : decode cX11_ends 99 = .ok (.iaload, 1) := by decide +kernel
theorem dX11_ends_100 : decode cX11_ends 100 = .ok (.aload 6, 2) := by decide +kernel
theorem dX11_ends_102 : decode cX11_ends 102 = .ok (.getfield 118, 3) := by decide +kernel
theorem dX11_ends_105 : decode cX11_ends 105 = .ok (.iload 9, 2) := by decide +kernel
theorem dX11_ends_107 : decode cX11_ends 107 = .ok (.iaload, 1) := by decide +kernel
theorem dX11_ends_108 : decode cX11_ends 108 = .ok (.iload 4, 2) := by decide +kernel
theorem dX11_ends_110 : decode cX11_ends 110 = .ok (.invokevirtual 150, 3) := by decide +kernel
theorem dX11_ends_113 : decode cX11_ends 113 = .ok (.istore 12, 2) := by decide +kernel
theorem dX11_ends_115 : decode cX11_ends 115 = .ok (.iload 7, 2) := by decide +kernel
theorem dX11_ends_117 : decode cX11_ends 117 = .ok (.iload 12, 2) := by decide +kernel
theorem dX11_ends_119 : decode cX11_ends 119 = .ok (.iload 11, 2) := by decide +kernel
theorem dX11_ends_121 : decode cX11_ends 121 = .ok (.imul, 1) := by decide +kernel
theorem dX11_ends_122 : decode cX11_ends 122 = .ok (.sipush 255, 3) := by decide +kernel
theorem dX11_ends_125 : decode cX11_ends 125 = .ok (.iload 11, 2) := by decide +kernel
theorem dX11_ends_127 : decode cX11_ends 127 = .ok (.iload 10, 2) := by decide +kernel
theorem dX11_ends_129 : decode cX11_ends 129 = .ok (.isub, 1) := by decide +kernel
theorem dX11_ends_130 : decode cX11_ends 130 = .ok (.imul, 1) := by decide +kernel
theorem dX11_ends_131 : decode cX11_ends 131 = .ok (.isub, 1) := by decide +kernel
theorem dX11_ends_132 : decode cX11_ends 132 = .ok (.iload 10, 2) := by decide +kernel
theorem dX11_ends_134 : decode cX11_ends 134 = .ok (.invokestatic 167, 3) := by decide +kernel
theorem dX11_ends_137 : decode cX11_ends 137 = .ok (.invokestatic 170, 3) := by decide +kernel
theorem dX11_ends_140 : decode cX11_ends 140 = .ok (.istore 7, 2) := by decide +kernel
theorem dX11_ends_142 : decode cX11_ends 142 = .ok (.iload 8, 2) := by decide +kernel
theorem dX11_ends_144 : decode cX11_ends 144 = .ok (.iload 12, 2) := by decide +kernel
theorem dX11_ends_146 : decode cX11_ends 146 = .ok (.iconst 1, 1) := by decide +kernel
theorem dX11_ends_147 : decode cX11_ends 147 = .ok (.iadd, 1) := by decide +kernel
theorem dX11_ends_148 : decode cX11_ends 148 = .ok (.iload 11, 2) := by decide +kernel
theorem dX11_ends_150 : decode cX11_ends 150 = .ok (.imul, 1) := by decide +kernel
theorem dX11_ends_151 : decode cX11_ends 151 = .ok (.iconst 1, 1) := by decide +kernel
theorem dX11_ends_152 : decode cX11_ends 152 = .ok (.isub, 1) := by decide +kernel
theorem dX11_ends_153 : decode cX11_ends 153 = .ok (.iload 10, 2) := by decide +kernel
theorem dX11_ends_155 : decode cX11_ends 155 = .ok (.idiv, 1) := by decide +kernel
theorem dX11_ends_156 : decode cX11_ends 156 = .ok (.invokestatic 175, 3) := by decide +kernel
theorem dX11_ends_159 : decode cX11_ends 159 = .ok (.istore 8, 2) := by decide +kernel
theorem dX11_ends_161 : decode cX11_ends 161 = .ok (.iinc 9 1, 3) := by decide +kernel
theorem dX11_ends_164 : decode cX11_ends 164 = .ok (.goto (-114), 3) := by decide +kernel
theorem dX11_ends_167 : decode cX11_ends 167 = .ok (.iload 5, 2) := by decide +kernel
theorem dX11_ends_169 : decode cX11_ends 169 = .ok (.ifCond .eq 8, 3) := by decide +kernel
theorem dX11_ends_172 : decode cX11_ends 172 = .ok (.iload 8, 2) := by decide +kernel
theorem dX11_ends_174 : decode cX11_ends 174 = .ok (.goto 5, 3) := by decide +kernel
theorem dX11_ends_177 : decode cX11_ends 177 = .ok (.iload 7, 2) := by decide +kernel
theorem dX11_ends_179 : decode cX11_ends 179 = .ok (.ireturn, 1) := by decide +kernel
set_option maxRecDepth 20000 in
theorem ggX11_width_X11_isSide : GoodIn wsX11_width wsX11_isSide := goodIn_r _ [9, 10, 11, 8, 12] (by decide +kernel) (by decide +kernel)
set_option maxRecDepth 20000 in
theorem gX11_width_X11_isSide : GoodIn wsX11_width (va_wsS RX11 107 yX11_isSide wsX11_isSide) := goodIn_app (goodIn_of _ (by decide +kernel)) ggX11_width_X11_isSide
set_option maxRecDepth 20000 in
theorem ggX11_width_X11_isStanding : GoodIn wsX11_width wsX11_isStanding := goodIn_r _ [16, 17, 18, 19, 20, 21, 22, 23, 24, 25, 11, 8, 12, 6, 7, 9, 10, 70, 71, 72, 73, 74, 75, 76, 77, 78, 79, 80, 81, 82, 83, 84, 85, 86, 87, 88, 89, 90, 91, 92, 93] (by decide +kernel) (by decide +kernel)
set_option maxRecDepth 20000 in
theorem gX11_width_X11_isStanding : GoodIn wsX11_width (wsV RX11 147 RX11 yX11_isStanding wsX11_isStanding) := goodIn_app (goodIn_of _ (by decide +kernel)) ggX11_width_X11_isStanding
set_option maxRecDepth 20000 in
theorem ggX11_width_X7_look : GoodIn wsX11_width wsX7_look := goodIn_r _ [30, 31, 32, 33, 34, 35, 36, 37, 38, 39, 40, 41, 42, 43, 44, 45, 22, 46, 47, 48, 49, 50, 24, 25, 51, 52, 53, 54, 94, 95, 96, 97, 98, 85, 86, 87, 88, 89, 90, 91, 92, 93] (by decide +kernel) (by decide +kernel)
set_option maxRecDepth 20000 in
theorem gX11_width_X7_look : GoodIn wsX11_width (wsV RX11 140 RX7 yX7_look wsX7_look) := goodIn_app (goodIn_of _ (by decide +kernel)) ggX11_width_X7_look
set_option maxRecDepth 20000 in
theorem ggX11_width_X7_weigh : GoodIn wsX11_width wsX7_weigh := goodIn_r _ [58, 42, 59, 3, 4, 5, 60, 61, 62, 29, 63, 33, 64, 65, 31, 32, 35, 66, 67, 68, 69, 94, 95, 96, 97, 98, 85, 86, 87, 88, 89, 90, 91, 92, 93] (by decide +kernel) (by decide +kernel)
set_option maxRecDepth 20000 in
theorem gX11_width_X7_weigh : GoodIn wsX11_width (wsV RX11 150 RX7 yX7_weigh wsX7_weigh) := goodIn_app (goodIn_of _ (by decide +kernel)) ggX11_width_X7_weigh
theorem dX11_width_0 : decode cX11_width 0 = .ok (.iload_n 1, 1) := by decide +kernel
theorem dX11_width_1 : decode cX11_width 1 = .ok (.invokestatic 107, 3) := by decide +kernel
theorem dX11_width_4 : decode cX11_width 4 = .ok (.ifCond .eq 22, 3) := by decide +kernel
theorem dX11_width_7 : decode cX11_width 7 = .ok (.iload_n 2, 1) := by decide +kernel
theorem dX11_width_8 : decode cX11_width 8 = .ok (.invokestatic 107, 3) := by decide +kernel
theorem dX11_width_11 : decode cX11_width 11 = .ok (.ifCond .eq 15, 3) := by decide +kernel
theorem dX11_width_14 : decode cX11_width 14 = .ok (.aload_n 0, 1) := by decide +kernel
theorem dX11_width_15 : decode cX11_width 15 = .ok (.iload_n 3, 1) := by decide +kernel
theorem dX11_width_16 : decode cX11_width 16 = .ok (.iload 4, 2) := by decide +kernel
theorem dX11_width_18 : decode cX11_width 18 = .ok (.iload 5, 2) := by decide +kernel
theorem dX11_width_20 : decode cX11_width 20 = .ok (.invokevirtual 147, 3) := by decide +kernel
theorem dX11_width_23 : decode cX11_width 23 = .ok (.ifCond .ne 5, 3) := by decide +kernel
theorem dX11_width_26 : decode cX11_width 26 = .ok (.iconst (-1), 1) := by decide +kernel
theorem dX11_width_27 : decode cX11_width 27 = .ok (.ireturn, 1) := by decide +kernel
theorem dX11_width_28 : decode cX11_width 28 = .ok (.aload_n 0, 1) := by decide +kernel
theorem dX11_width_29 : decode cX11_width 29 = .ok (.getfield 30, 3) := by decide +kernel
theorem dX11_width_32 : decode cX11_width 32 = .ok (.iload_n 3, 1) := by decide +kernel
theorem dX11_width_33 : decode cX11_width 33 = .ok (.iload 4, 2) := by decide +kernel
theorem dX11_width_35 : decode cX11_width 35 = .ok (.iconst 0, 1) := by decide +kernel
theorem dX11_width_36 : decode cX11_width 36 = .ok (.invokevirtual 140, 3) := by decide +kernel
theorem dX11_width_39 : decode cX11_width 39 = .ok (.iconst (-1), 1) := by decide +kernel
theorem dX11_width_40 : decode cX11_width 40 = .ok (.istore 6, 2) := by decide +kernel
theorem dX11_width_42 : decode cX11_width 42 = .ok (.iconst (-1), 1) := by decide +kernel
theorem dX11_width_43 : decode cX11_width 43 = .ok (.istore 7, 2) := by decide +kernel
theorem dX11_width_45 : decode cX11_width 45 = .ok (.iconst 0, 1) := by decide +kernel
theorem dX11_width_46 : decode cX11_width 46 = .ok (.istore 8, 2) := by decide +kernel
theorem dX11_width_48 : decode cX11_width 48 = .ok (.iload 8, 2) := by decide +kernel
theorem dX11_width_50 : decode cX11_width 50 = .ok (.bipush 7, 2) := by decide +kernel
theorem dX11_width_52 : decode cX11_width 52 = .ok (.if_icmp .gt 54, 3) := by decide +kernel
theorem dX11_width_55 : decode cX11_width 55 = .ok (.aload_n 0, 1) := by decide +kernel
theorem dX11_width_56 : decode cX11_width 56 = .ok (.getfield 30, 3) := by decide +kernel
theorem dX11_width_59 : decode cX11_width 59 = .ok (.iload_n 1, 1) := by decide +kernel
theorem dX11_width_60 : decode cX11_width 60 = .ok (.iload 8, 2) := by decide +kernel
theorem dX11_width_62 : decode cX11_width 62 = .ok (.iload 5, 2) := by decide +kernel
theorem dX11_width_64 : decode cX11_width 64 = .ok (.invokevirtual 150, 3) := by decide +kernel
theorem dX11_width_67 : decode cX11_width 67 = .ok (.aload_n 0, 1) := by decide +kernel
theorem dX11_width_68 : decode cX11_width 68 = .ok (.getfield 30, 3) := by decide +kernel
theorem dX11_width_71 : decode cX11_width 71 = .ok (.iload_n 2, 1) := by decide +kernel
theorem dX11_width_72 : decode cX11_width 72 = .ok (.iload 8, 2) := by decide +kernel
theorem dX11_width_74 : decode cX11_width 74 = .ok (.iload 5, 2) := by decide +kernel
theorem dX11_width_76 : decode cX11_width 76 = .ok (.invokevirtual 150, 3) := by decide +kernel
theorem dX11_width_79 : decode cX11_width 79 = .ok (.isub, 1) := by decide +kernel
theorem dX11_width_80 : decode cX11_width 80 = .ok (.invokestatic 178, 3) := by decide +kernel
theorem dX11_width_83 : decode cX11_width 83 = .ok (.istore 9, 2) := by decide +kernel
theorem dX11_width_85 : decode cX11_width 85 = .ok (.iload 9, 2) := by decide +kernel
theorem dX11_width_87 : decode cX11_width 87 = .ok (.iload 7, 2) := by decide +kernel
theorem dX11_width_89 : decode cX11_width 89 = .ok (.if_icmp .le 11, 3) := by decide +kernel
theorem dX11_width_92 : decode cX11_width 92 = .ok (.iload 9, 2) := by decide +kernel
theorem dX11_width_94 : decode cX11_width 94 = .ok (.istore 7, 2) := by decide +kernel
theorem dX11_width_96 : decode cX11_width 96 = .ok (.iload 8, 2) := by decide +kernel
theorem dX11_width_98 : decode cX11_width 98 = .ok (.istore 6, 2) := by decide +kernel
theorem dX11_width_100 : decode cX11_width 100 = .ok (.iinc 8 1, 3) := by decide +kernel
theorem dX11_width_103 : decode cX11_width 103 = .ok (.goto (-55), 3) := by decide +kernel
theorem dX11_width_106 : decode cX11_width 106 = .ok (.iload 6, 2) := by decide +kernel
theorem dX11_width_108 : decode cX11_width 108 = .ok (.ireturn, 1) := by decide +kernel
set_option maxRecDepth 20000 in
theorem ggX11_same_X10_isBody : GoodIn wsX11_same wsX10_isBody := goodIn_r _ [13, 14, 15, 16, 17, 106, 107, 108, 109, 110, 111, 112, 113, 114] (by decide +kernel) (by decide +kernel)
set_option maxRecDepth 20000 in
theorem gX11_same_X10_isBody : GoodIn wsX11_same (wsV RX11 181 RX10 yX10_isBody wsX10_isBody) := goodIn_app (goodIn_of _ (by decide +kernel)) ggX11_same_X10_isBody
set_option maxRecDepth 20000 in
theorem ggX11_same_X11_isStanding : GoodIn wsX11_same wsX11_isStanding := goodIn_r _ [21, 1, 2, 22, 23, 24, 12, 25, 26, 27, 15, 16, 17, 28, 29, 30, 31, 91, 92, 93, 94, 95, 96, 97, 98, 99, 100, 101, 102, 103, 104, 105, 106, 107, 108, 109, 110, 111, 112, 113, 114] (by decide +kernel) (by decide +kernel)
set_option maxRecDepth 20000 in
theorem gX11_same_X11_isStanding : GoodIn wsX11_same (wsV RX11 147 RX11 yX11_isStanding wsX11_isStanding) := goodIn_app (goodIn_of _ (by decide +kernel)) ggX11_same_X11_isStanding
set_option maxRecDepth 20000 in
theorem ggX11_same_X11_isWithin : GoodIn wsX11_same wsX11_isWithin := goodIn_r _ [17] (by decide +kernel) (by decide +kernel)
set_option maxRecDepth 20000 in
theorem gX11_same_X11_isWithin : GoodIn wsX11_same (va_wsS RX11 63 yX11_isWithin wsX11_isWithin) := goodIn_app (goodIn_of _ (by decide +kernel)) ggX11_same_X11_isWithin
set_option maxRecDepth 20000 in
theorem ggX11_same_X7_look : GoodIn wsX11_same wsX7_look := goodIn_r _ [36, 37, 38, 39, 40, 41, 42, 43, 44, 45, 46, 47, 48, 49, 50, 51, 12, 52, 53, 54, 55, 56, 26, 27, 57, 58, 59, 60, 115, 116, 117, 118, 119, 106, 107, 108, 109, 110, 111, 112, 113, 114] (by decide +kernel) (by decide +kernel)
set_option maxRecDepth 20000 in
theorem gX11_same_X7_look : GoodIn wsX11_same (wsV RX11 140 RX7 yX7_look wsX7_look) := goodIn_app (goodIn_of _ (by decide +kernel)) ggX11_same_X7_look
set_option maxRecDepth 20000 in
theorem ggX11_same_X11_fillTakes : GoodIn wsX11_same wsX11_fillTakes := goodIn_r _ [64, 1, 65, 66, 7, 67, 68, 69, 70, 71, 35, 72, 48, 73, 74, 75, 76, 77, 78, 79, 80, 39, 81, 82, 37, 38, 41, 83, 84, 85, 86, 91, 92, 93, 94, 95, 96, 97, 98, 99, 100, 101, 102, 103, 104, 105, 120, 121, 122, 123, 124, 125, 126, 115, 116, 117, 118, 119, 106, 107, 108, 109, 110, 111, 112, 113, 114] (by decide +kernel) (by decide +kernel)
set_option maxRecDepth 20000 in
theorem gX11_same_X11_fillTakes : GoodIn wsX11_same (wsV RX11 187 RX11 yX11_fillTakes wsX11_fillTakes) := goodIn_app (goodIn_of _ (by decide +kernel)) ggX11_same_X11_fillTakes
set_option maxRecDepth 20000 in
theorem ggX11_same_X11_hasTakes : GoodIn wsX11_same wsX11_hasTakes := goodIn_r _ [90, 1, 65, 66, 7, 67, 68, 69, 70, 71, 35, 72, 48, 73, 74, 75, 76, 77, 78, 79, 80, 39, 81, 82, 37, 38, 41, 83, 84, 85, 86, 91, 92, 93, 94, 95, 96, 97, 98, 99, 100, 101, 102, 103, 104, 105, 120, 121, 122, 123, 124, 125, 126, 115, 116, 117, 118, 119, 106, 107, 108, 109, 110, 111, 112, 113, 114] (by decide +kernel) (by decide +kernel)
set_option maxRecDepth 20000 in
theorem gX11_same_X11_hasTakes : GoodIn wsX11_same (wsV RX11 191 RX11 yX11_hasTakes wsX11_hasTakes) := goodIn_app (goodIn_of _ (by decide +kernel)) ggX11_same_X11_hasTakes
theorem dX11_same_0 : decode cX11_same 0 = .ok (.aload_n 0, 1) := by decide +kernel
theorem dX11_same_1 : decode cX11_same 1 = .ok (.getfield 14, 3) := by decide +kernel
theorem dX11_same_4 : decode cX11_same 4 = .ok (.getfield 23, 3) := by decide +kernel
theorem dX11_same_7 : decode cX11_same 7 = .ok (.astore 7, 2) := by decide +kernel
theorem dX11_same_9 : decode cX11_same 9 = .ok (.aload 7, 2) := by decide +kernel
theorem dX11_same_11 : decode cX11_same 11 = .ok (.iload_n 1, 1) := by decide +kernel
theorem dX11_same_12 : decode cX11_same 12 = .ok (.invokevirtual 181, 3) := by decide +kernel
theorem dX11_same_15 : decode cX11_same 15 = .ok (.ifCond .eq 16, 3) := by decide +kernel
theorem dX11_same_18 : decode cX11_same 18 = .ok (.aload_n 0, 1) := by decide +kernel
theorem dX11_same_19 : decode cX11_same 19 = .ok (.iload 4, 2) := by decide +kernel
theorem dX11_same_21 : decode cX11_same 21 = .ok (.iload 5, 2) := by decide +kernel
theorem dX11_same_23 : decode cX11_same 23 = .ok (.iload 6, 2) := by decide +kernel
theorem dX11_same_25 : decode cX11_same 25 = .ok (.invokevirtual 147, 3) := by decide +kernel
theorem dX11_same_28 : decode cX11_same 28 = .ok (.ifCond .ne 5, 3) := by decide +kernel
theorem dX11_same_31 : decode cX11_same 31 = .ok (.iconst (-1), 1) := by decide +kernel
theorem dX11_same_32 : decode cX11_same 32 = .ok (.ireturn, 1) := by decide +kernel
theorem dX11_same_33 : decode cX11_same 33 = .ok (.aload 7, 2) := by decide +kernel
theorem dX11_same_35 : decode cX11_same 35 = .ok (.getfield 81, 3) := by decide +kernel
theorem dX11_same_38 : decode cX11_same 38 = .ok (.iload_n 1, 1) := by decide +kernel
theorem dX11_same_39 : decode cX11_same 39 = .ok (.iaload, 1) := by decide +kernel
theorem dX11_same_40 : decode cX11_same 40 = .ok (.istore 8, 2) := by decide +kernel
theorem dX11_same_42 : decode cX11_same 42 = .ok (.aload 7, 2) := by decide +kernel
theorem dX11_same_44 : decode cX11_same 44 = .ok (.getfield 74, 3) := by decide +kernel
theorem dX11_same_47 : decode cX11_same 47 = .ok (.iload_n 1, 1) := by decide +kernel
theorem dX11_same_48 : decode cX11_same 48 = .ok (.iaload, 1) := by decide +kernel
theorem dX11_same_49 : decode cX11_same 49 = .ok (.istore 9, 2) := by decide +kernel
theorem dX11_same_51 : decode cX11_same 51 = .ok (.iload_n 2, 1) := by decide +kernel
theorem dX11_same_52 : decode cX11_same 52 = .ok (.iload 8, 2) := by decide +kernel
theorem dX11_same_54 : decode cX11_same 54 = .ok (.ineg, 1) := by decide +kernel
theorem dX11_same_55 : decode cX11_same 55 = .ok (.aload 7, 2) := by decide +kernel
theorem dX11_same_57 : decode cX11_same 57 = .ok (.getfield 84, 3) := by decide +kernel
theorem dX11_same_60 : decode cX11_same 60 = .ok (.iconst 1, 1) := by decide +kernel
theorem dX11_same_61 : decode cX11_same 61 = .ok (.isub, 1) := by decide +kernel
theorem dX11_same_62 : decode cX11_same 62 = .ok (.iload 8, 2) := by decide +kernel
theorem dX11_same_64 : decode cX11_same 64 = .ok (.isub, 1) := by decide +kernel
theorem dX11_same_65 : decode cX11_same 65 = .ok (.invokestatic 63, 3) := by decide +kernel
theorem dX11_same_68 : decode cX11_same 68 = .ok (.ifCond .eq 23, 3) := by decide +kernel
theorem dX11_same_71 : decode cX11_same 71 = .ok (.iload_n 3, 1) := by decide +kernel
theorem dX11_same_72 : decode cX11_same 72 = .ok (.iload 9, 2) := by decide +kernel
theorem dX11_same_74 : decode cX11_same 74 = .ok (.ineg, 1) := by decide +kernel
theorem dX11_same_75 : decode cX11_same 75 = .ok (.aload 7, 2) := by decide +kernel
theorem dX11_same_77 : decode cX11_same 77 = .ok (.getfield 184, 3) := by decide +kernel
theorem dX11_same_80 : decode cX11_same 80 = .ok (.iconst 1, 1) := by decide +kernel
theorem dX11_same_81 : decode cX11_same 81 = .ok (.isub, 1) := by decide +kernel
theorem dX11_same_82 : decode cX11_same 82 = .ok (.iload 9, 2) := by decide +kernel
theorem dX11_same_84 : decode cX11_same 84 = .ok (.isub, 1) := by decide +kernel
theorem dX11_same_85 : decode cX11_same 85 = .ok (.invokestatic 63, 3) := by decide +kernel
theorem dX11_same_88 : decode cX11_same 88 = .ok (.ifCond .ne 5, 3) := by decide +kernel
theorem dX11_same_91 : decode cX11_same 91 = .ok (.iconst (-1), 1) := by decide +kernel
theorem dX11_same_92 : decode cX11_same 92 = .ok (.ireturn, 1) := by decide +kernel
theorem dX11_same_93 : decode cX11_same 93 = .ok (.aload_n 0, 1) := by decide +kernel
theorem dX11_same_94 : decode cX11_same 94 = .ok (.getfield 30, 3) := by decide +kernel
theorem dX11_same_97 : decode cX11_same 97 = .ok (.iload 4, 2) := by decide +kernel
theorem dX11_same_99 : decode cX11_same 99 = .ok (.iload 5, 2) := by decide +kernel
theorem dX11_same_101 : decode cX11_same 101 = .ok (.iconst 0, 1) := by decide +kernel
theorem dX11_same_102 : decode cX11_same 102 = .ok (.invokevirtual 140, 3) := by decide +kernel
theorem dX11_same_105 : decode cX11_same 105 = .ok (.aload_n 0, 1) := by decide +kernel
theorem dX11_same_106 : decode cX11_same 106 = .ok (.aload_n 0, 1) := by decide +kernel
theorem dX11_same_107 : decode cX11_same 107 = .ok (.getfield 54, 3) := by decide +kernel
theorem dX11_same_110 : decode cX11_same 110 = .ok (.iload 6, 2) := by decide +kernel
theorem dX11_same_112 : decode cX11_same 112 = .ok (.invokevirtual 187, 3) := by decide +kernel
theorem dX11_same_115 : decode cX11_same 115 = .ok (.aload 7, 2) := by decide +kernel
theorem dX11_same_117 : decode cX11_same 117 = .ok (.getfield 81, 3) := by decide +kernel
theorem dX11_same_120 : decode cX11_same 120 = .ok (.iload_n 1, 1) := by decide +kernel
theorem dX11_same_121 : decode cX11_same 121 = .ok (.iload 8, 2) := by decide +kernel
theorem dX11_same_123 : decode cX11_same 123 = .ok (.iload_n 2, 1) := by decide +kernel
theorem dX11_same_124 : decode cX11_same 124 = .ok (.iadd, 1) := by decide +kernel
theorem dX11_same_125 : decode cX11_same 125 = .ok (.iastore, 1) := by decide +kernel
theorem dX11_same_126 : decode cX11_same 126 = .ok (.aload 7, 2) := by decide +kernel
theorem dX11_same_128 : decode cX11_same 128 = .ok (.getfield 74, 3) := by decide +kernel
theorem dX11_same_131 : decode cX11_same 131 = .ok (.iload_n 1, 1) := by decide +kernel
theorem dX11_same_132 : decode cX11_same 132 = .ok (.iload 9, 2) := by decide +kernel
theorem dX11_same_134 : decode cX11_same 134 = .ok (.iload_n 3, 1) := by decide +kernel
theorem dX11_same_135 : decode cX11_same 135 = .ok (.iadd, 1) := by decide +kernel
theorem dX11_same_136 : decode cX11_same 136 = .ok (.iastore, 1) := by decide +kernel
theorem dX11_same_137 : decode cX11_same 137 = .ok (.aload_n 0, 1) := by decide +kernel
theorem dX11_same_138 : decode cX11_same 138 = .ok (.getfield 30, 3) := by decide +kernel
theorem dX11_same_141 : decode cX11_same 141 = .ok (.iload 4, 2) := by decide +kernel
theorem dX11_same_143 : decode cX11_same 143 = .ok (.iload 5, 2) := by decide +kernel
theorem dX11_same_145 : decode cX11_same 145 = .ok (.iconst 0, 1) := by decide +kernel
theorem dX11_same_146 : decode cX11_same 146 = .ok (.invokevirtual 140, 3) := by decide +kernel
theorem dX11_same_149 : decode cX11_same 149 = .ok (.aload_n 0, 1) := by decide +kernel
theorem dX11_same_150 : decode cX11_same 150 = .ok (.aload_n 0, 1) := by decide +kernel
theorem dX11_same_151 : decode cX11_same 151 = .ok (.getfield 54, 3) := by decide +kernel
theorem dX11_same_154 : decode cX11_same 154 = .ok (.iload 6, 2) := by decide +kernel
theorem dX11_same_156 : decode cX11_same 156 = .ok (.invokevirtual 191, 3) := by decide +kernel
theorem dX11_same_159 : decode cX11_same 159 = .ok (.istore 10, 2) := by decide +kernel
theorem dX11_same_161 : decode cX11_same 161 = .ok (.aload 7, 2) := by decide +kernel
theorem dX11_same_163 : decode cX11_same 163 = .ok (.getfield 81, 3) := by decide +kernel
theorem dX11_same_166 : decode cX11_same 166 = .ok (.iload_n 1, 1) := by decide +kernel
theorem dX11_same_167 : decode cX11_same 167 = .ok (.iload 8, 2) := by decide +kernel
theorem dX11_same_169 : decode cX11_same 169 = .ok (.iastore, 1) := by decide +kernel
theorem dX11_same_170 : decode cX11_same 170 = .ok (.aload 7, 2) := by decide +kernel
theorem dX11_same_172 : decode cX11_same 172 = .ok (.getfield 74, 3) := by decide +kernel
theorem dX11_same_175 : decode cX11_same 175 = .ok (.iload_n 1, 1) := by decide +kernel
theorem dX11_same_176 : decode cX11_same 176 = .ok (.iload 9, 2) := by decide +kernel
theorem dX11_same_178 : decode cX11_same 178 = .ok (.iastore, 1) := by decide +kernel
theorem dX11_same_179 : decode cX11_same 179 = .ok (.iload 10, 2) := by decide +kernel
theorem dX11_same_181 : decode cX11_same 181 = .ok (.ifCond .eq 7, 3) := by decide +kernel
theorem dX11_same_184 : decode cX11_same 184 = .ok (.iconst 1, 1) := by decide +kernel
theorem dX11_same_185 : decode cX11_same 185 = .ok (.goto 4, 3) := by decide +kernel
theorem dX11_same_188 : decode cX11_same 188 = .ok (.iconst 0, 1) := by decide +kernel
theorem dX11_same_189 : decode cX11_same 189 = .ok (.ireturn, 1) := by decide +kernel
set_option maxRecDepth 20000 in
theorem ggX11_feed_X11_putBytes : GoodIn wsX11_feed wsX11_putBytes := goodIn_r _ [6, 1, 7, 8, 9, 10, 11, 12, 13, 14, 15, 16] (by decide +kernel) (by decide +kernel)
set_option maxRecDepth 20000 in
theorem gX11_feed_X11_putBytes : GoodIn wsX11_feed (wsV RX11 198 RX11 yX11_putBytes wsX11_putBytes) := goodIn_app (goodIn_of _ (by decide +kernel)) ggX11_feed_X11_putBytes
theorem dX11_feed_0 : decode cX11_feed 0 = .ok (.aload_n 0, 1) := by decide +kernel
theorem dX11_feed_1 : decode cX11_feed 1 = .ok (.getfield 195, 3) := by decide +kernel
theorem dX11_feed_4 : decode cX11_feed 4 = .ok (.sipush 280, 3) := by decide +kernel
theorem dX11_feed_7 : decode cX11_feed 7 = .ok (.if_icmp .le 5, 3) := by decide +kernel
theorem dX11_feed_10 : decode cX11_feed 10 = .ok (.iconst (-1), 1) := by decide +kernel
theorem dX11_feed_11 : decode cX11_feed 11 = .ok (.ireturn, 1) := by decide +kernel
theorem dX11_feed_12 : decode cX11_feed 12 = .ok (.aload_n 0, 1) := by decide +kernel
theorem dX11_feed_13 : decode cX11_feed 13 = .ok (.iload_n 1, 1) := by decide +kernel
theorem dX11_feed_14 : decode cX11_feed 14 = .ok (.invokevirtual 198, 3) := by decide +kernel
theorem dX11_feed_17 : decode cX11_feed 17 = .ok (.aload_n 0, 1) := by decide +kernel
theorem dX11_feed_18 : decode cX11_feed 18 = .ok (.iload_n 2, 1) := by decide +kernel
theorem dX11_feed_19 : decode cX11_feed 19 = .ok (.invokevirtual 198, 3) := by decide +kernel
theorem dX11_feed_22 : decode cX11_feed 22 = .ok (.aload_n 0, 1) := by decide +kernel
theorem dX11_feed_23 : decode cX11_feed 23 = .ok (.iload_n 3, 1) := by decide +kernel
theorem dX11_feed_24 : decode cX11_feed 24 = .ok (.invokevirtual 198, 3) := by decide +kernel
theorem dX11_feed_27 : decode cX11_feed 27 = .ok (.aload_n 0, 1) := by decide +kernel
theorem dX11_feed_28 : decode cX11_feed 28 = .ok (.iload 4, 2) := by decide +kernel
theorem dX11_feed_30 : decode cX11_feed 30 = .ok (.invokevirtual 198, 3) := by decide +kernel
theorem dX11_feed_33 : decode cX11_feed 33 = .ok (.aload_n 0, 1) := by decide +kernel
theorem dX11_feed_34 : decode cX11_feed 34 = .ok (.iload 5, 2) := by decide +kernel
theorem dX11_feed_36 : decode cX11_feed 36 = .ok (.invokevirtual 198, 3) := by decide +kernel
theorem dX11_feed_39 : decode cX11_feed 39 = .ok (.aload_n 0, 1) := by decide +kernel
theorem dX11_feed_40 : decode cX11_feed 40 = .ok (.getfield 195, 3) := by decide +kernel
theorem dX11_feed_43 : decode cX11_feed 43 = .ok (.ireturn, 1) := by decide +kernel
set_option maxRecDepth 20000 in
theorem ggX11_end_X11_isWithin : GoodIn wsX11_end wsX11_isWithin := goodIn_r _ [5] (by decide +kernel) (by decide +kernel)
set_option maxRecDepth 20000 in
theorem gX11_end_X11_isWithin : GoodIn wsX11_end (va_wsS RX11 63 yX11_isWithin wsX11_isWithin) := goodIn_app (goodIn_of _ (by decide +kernel)) ggX11_end_X11_isWithin
theorem dX11_end_0 : decode cX11_end 0 = .ok (.iload_n 1, 1) := by decide +kernel
theorem dX11_end_1 : decode cX11_end 1 = .ok (.iconst 0, 1) := by decide +kernel
theorem dX11_end_2 : decode cX11_end 2 = .ok (.aload_n 0, 1) := by decide +kernel
theorem dX11_end_3 : decode cX11_end 3 = .ok (.getfield 195, 3) := by decide +kernel
theorem dX11_end_6 : decode cX11_end 6 = .ok (.invokestatic 63, 3) := by decide +kernel
theorem dX11_end_9 : decode cX11_end 9 = .ok (.ifCond .ne 5, 3) := by decide +kernel
theorem dX11_end_12 : decode cX11_end 12 = .ok (.iconst (-1), 1) := by decide +kernel
theorem dX11_end_13 : decode cX11_end 13 = .ok (.ireturn, 1) := by decide +kernel
theorem dX11_end_14 : decode cX11_end 14 = .ok (.aload_n 0, 1) := by decide +kernel
theorem dX11_end_15 : decode cX11_end 15 = .ok (.iload_n 1, 1) := by decide +kernel
theorem dX11_end_16 : decode cX11_end 16 = .ok (.putfield 195, 3) := by decide +kernel
theorem dX11_end_19 : decode cX11_end 19 = .ok (.iload_n 1, 1) := by decide +kernel
theorem dX11_end_20 : decode cX11_end 20 = .ok (.ireturn, 1) := by decide +kernel
set_option maxRecDepth 20000 in
theorem ggX11_rule_X4_parse : GoodIn wsX11_rule wsX4_parse := goodIn_r _ [13, 14, 15, 16, 17, 18, 19, 20, 21, 22, 23, 24, 25, 26, 27, 28, 29, 30, 31, 32, 33, 34, 35, 36, 37, 38, 39, 40, 41, 42, 43, 44, 45, 46, 47, 48, 49, 50, 51, 52, 53, 54, 55, 56, 57, 58, 59, 60, 12, 61, 62, 63, 64, 65, 66, 67, 68, 69, 70, 71, 72, 73, 74, 75, 76, 77, 78, 79, 80, 81, 82, 83, 84, 85, 86, 87, 88, 89, 90, 91, 92, 93, 94, 95, 96, 97, 98, 99, 100, 101, 102, 103, 104, 105, 106, 107, 108, 109, 110, 111, 112, 113, 114, 115, 116, 117, 118, 119, 120, 121, 122, 123, 124, 125, 126, 127, 128, 129, 130, 131, 132, 133, 134, 135, 171, 172, 173, 174, 175, 176, 177, 178, 179, 180, 181, 182, 183, 184, 185, 186] (by decide +kernel) (by decide +kernel)
set_option maxRecDepth 20000 in
theorem gX11_rule_X4_parse : GoodIn wsX11_rule (wsV RX11 205 RX4 yX4_parse wsX4_parse) := goodIn_app (goodIn_of _ (by decide +kernel)) ggX11_rule_X4_parse
set_option maxRecDepth 20000 in
theorem ggX11_rule_X4_copyCode : GoodIn wsX11_rule wsX4_copyCode := goodIn_r _ [139, 90, 15, 140, 141, 142, 143, 144, 145, 146, 147, 148, 149, 150, 151, 47, 48, 49, 152, 153, 154, 155, 171, 172, 173, 174, 175, 176, 177, 178] (by decide +kernel) (by decide +kernel)
set_option maxRecDepth 20000 in
theorem gX11_rule_X4_copyCode : GoodIn wsX11_rule (wsV RX11 219 RX4 yX4_copyCode wsX4_copyCode) := goodIn_app (goodIn_of _ (by decide +kernel)) ggX11_rule_X4_copyCode
theorem dX11_rule_0 : decode cX11_rule 0 = .ok (.aload_n 0, 1) := by decide +kernel
theorem dX11_rule_1 : decode cX11_rule 1 = .ok (.getfield 14, 3) := by decide +kernel
theorem dX11_rule_4 : decode cX11_rule 4 = .ok (.getfield 202, 3) := by decide +kernel
theorem dX11_rule_7 : decode cX11_rule 7 = .ok (.bipush 8, 2) := by decide +kernel
theorem dX11_rule_9 : decode cX11_rule 9 = .ok (.if_icmp .lt 5, 3) := by decide +kernel
theorem dX11_rule_12 : decode cX11_rule 12 = .ok (.iconst (-1), 1) := by decide +kernel
theorem dX11_rule_13 : decode cX11_rule 13 = .ok (.ireturn, 1) := by decide +kernel
theorem dX11_rule_14 : decode cX11_rule 14 = .ok (.aload_n 0, 1) := by decide +kernel
theorem dX11_rule_15 : decode cX11_rule 15 = .ok (.getfield 46, 3) := by decide +kernel
theorem dX11_rule_18 : decode cX11_rule 18 = .ok (.aload_n 0, 1) := by decide +kernel
theorem dX11_rule_19 : decode cX11_rule 19 = .ok (.getfield 50, 3) := by decide +kernel
theorem dX11_rule_22 : decode cX11_rule 22 = .ok (.aload_n 0, 1) := by decide +kernel
theorem dX11_rule_23 : decode cX11_rule 23 = .ok (.getfield 195, 3) := by decide +kernel
theorem dX11_rule_26 : decode cX11_rule 26 = .ok (.invokevirtual 205, 3) := by decide +kernel
theorem dX11_rule_29 : decode cX11_rule 29 = .ok (.aload_n 0, 1) := by decide +kernel
theorem dX11_rule_30 : decode cX11_rule 30 = .ok (.iconst 1, 1) := by decide +kernel
theorem dX11_rule_31 : decode cX11_rule 31 = .ok (.putfield 208, 3) := by decide +kernel
theorem dX11_rule_34 : decode cX11_rule 34 = .ok (.aload_n 0, 1) := by decide +kernel
theorem dX11_rule_35 : decode cX11_rule 35 = .ok (.iconst 0, 1) := by decide +kernel
theorem dX11_rule_36 : decode cX11_rule 36 = .ok (.putfield 195, 3) := by decide +kernel
theorem dX11_rule_39 : decode cX11_rule 39 = .ok (.aload_n 0, 1) := by decide +kernel
theorem dX11_rule_40 : decode cX11_rule 40 = .ok (.getfield 46, 3) := by decide +kernel
theorem dX11_rule_43 : decode cX11_rule 43 = .ok (.getfield 212, 3) := by decide +kernel
theorem dX11_rule_46 : decode cX11_rule 46 = .ok (.ifCond .eq 5, 3) := by decide +kernel
theorem dX11_rule_49 : decode cX11_rule 49 = .ok (.iconst (-1), 1) := by decide +kernel
theorem dX11_rule_50 : decode cX11_rule 50 = .ok (.ireturn, 1) := by decide +kernel
theorem dX11_rule_51 : decode cX11_rule 51 = .ok (.aload_n 0, 1) := by decide +kernel
theorem dX11_rule_52 : decode cX11_rule 52 = .ok (.getfield 14, 3) := by decide +kernel
theorem dX11_rule_55 : decode cX11_rule 55 = .ok (.getfield 202, 3) := by decide +kernel
theorem dX11_rule_58 : decode cX11_rule 58 = .ok (.istore_n 1, 1) := by decide +kernel
theorem dX11_rule_59 : decode cX11_rule 59 = .ok (.aload_n 0, 1) := by decide +kernel
theorem dX11_rule_60 : decode cX11_rule 60 = .ok (.getfield 14, 3) := by decide +kernel
theorem dX11_rule_63 : decode cX11_rule 63 = .ok (.getfield 215, 3) := by decide +kernel
theorem dX11_rule_66 : decode cX11_rule 66 = .ok (.iload_n 1, 1) := by decide +kernel
theorem dX11_rule_67 : decode cX11_rule 67 = .ok (.aload_n 0, 1) := by decide +kernel
theorem dX11_rule_68 : decode cX11_rule 68 = .ok (.getfield 46, 3) := by decide +kernel
theorem dX11_rule_71 : decode cX11_rule 71 = .ok (.invokevirtual 219, 3) := by decide +kernel
theorem dX11_rule_74 : decode cX11_rule 74 = .ok (.aastore, 1) := by decide +kernel
theorem dX11_rule_75 : decode cX11_rule 75 = .ok (.aload_n 0, 1) := by decide +kernel
theorem dX11_rule_76 : decode cX11_rule 76 = .ok (.getfield 14, 3) := by decide +kernel
theorem dX11_rule_79 : decode cX11_rule 79 = .ok (.iload_n 1, 1) := by decide +kernel
theorem dX11_rule_80 : decode cX11_rule 80 = .ok (.iconst 1, 1) := by decide +kernel
theorem dX11_rule_81 : decode cX11_rule 81 = .ok (.iadd, 1) := by decide +kernel
theorem dX11_rule_82 : decode cX11_rule 82 = .ok (.putfield 202, 3) := by decide +kernel
theorem dX11_rule_85 : decode cX11_rule 85 = .ok (.iload_n 1, 1) := by decide +kernel
theorem dX11_rule_86 : decode cX11_rule 86 = .ok (.ireturn, 1) := by decide +kernel
theorem dX11_fault_0 : decode cX11_fault 0 = .ok (.aload_n 0, 1) := by decide +kernel
theorem dX11_fault_1 : decode cX11_fault 1 = .ok (.getfield 208, 3) := by decide +kernel
theorem dX11_fault_4 : decode cX11_fault 4 = .ok (.ifCond .ne 5, 3) := by decide +kernel
theorem dX11_fault_7 : decode cX11_fault 7 = .ok (.iconst (-1), 1) := by decide +kernel
theorem dX11_fault_8 : decode cX11_fault 8 = .ok (.ireturn, 1) := by decide +kernel
theorem dX11_fault_9 : decode cX11_fault 9 = .ok (.iload_n 1, 1) := by decide +kernel
theorem dX11_fault_10 : decode cX11_fault 10 = .ok (.lookupswitch 42 #[(0, 26), (1, 34)], 26) := by decide +kernel
theorem dX11_fault_36 : decode cX11_fault 36 = .ok (.aload_n 0, 1) := by decide +kernel
theorem dX11_fault_37 : decode cX11_fault 37 = .ok (.getfield 46, 3) := by decide +kernel
theorem dX11_fault_40 : decode cX11_fault 40 = .ok (.getfield 212, 3) := by decide +kernel
theorem dX11_fault_43 : decode cX11_fault 43 = .ok (.ireturn, 1) := by decide +kernel
theorem dX11_fault_44 : decode cX11_fault 44 = .ok (.aload_n 0, 1) := by decide +kernel
theorem dX11_fault_45 : decode cX11_fault 45 = .ok (.getfield 46, 3) := by decide +kernel
theorem dX11_fault_48 : decode cX11_fault 48 = .ok (.getfield 223, 3) := by decide +kernel
theorem dX11_fault_51 : decode cX11_fault 51 = .ok (.ireturn, 1) := by decide +kernel
theorem dX11_fault_52 : decode cX11_fault 52 = .ok (.iconst (-1), 1) := by decide +kernel
theorem dX11_fault_53 : decode cX11_fault 53 = .ok (.ireturn, 1) := by decide +kernel
set_option maxRecDepth 20000 in
theorem ggX11_fly_X8_isRule : GoodIn wsX11_fly wsX8_isRule := goodIn_r _ [12, 13, 14, 15, 16, 228, 229, 230, 231, 232, 233] (by decide +kernel) (by decide +kernel)
set_option maxRecDepth 20000 in
theorem gX11_fly_X8_isRule : GoodIn wsX11_fly (wsV RX11 226 RX8 yX8_isRule wsX8_isRule) := goodIn_app (goodIn_of _ (by decide +kernel)) ggX11_fly_X8_isRule
set_option maxRecDepth 20000 in
theorem ggX11_fly_X11_isStanding : GoodIn wsX11_fly wsX11_isStanding := goodIn_r _ [20, 1, 2, 21, 22, 23, 24, 25, 26, 27, 14, 15, 16, 28, 29, 30, 31, 219, 220, 221, 222, 223, 224, 225, 226, 227, 228, 229, 230, 231, 232, 233, 246, 247, 248, 249, 250, 251, 252, 253, 254] (by decide +kernel) (by decide +kernel)
set_option maxRecDepth 20000 in
theorem gX11_fly_X11_isStanding : GoodIn wsX11_fly (wsV RX11 147 RX11 yX11_isStanding wsX11_isStanding) := goodIn_app (goodIn_of _ (by decide +kernel)) ggX11_fly_X11_isStanding
set_option maxRecDepth 20000 in
theorem ggX11_fly_X11_isWithin : GoodIn wsX11_fly wsX11_isWithin := goodIn_r _ [16] (by decide +kernel) (by decide +kernel)
set_option maxRecDepth 20000 in
theorem gX11_fly_X11_isWithin : GoodIn wsX11_fly (va_wsS RX11 63 yX11_isWithin wsX11_isWithin) := goodIn_app (goodIn_of _ (by decide +kernel)) ggX11_fly_X11_isWithin
set_option maxRecDepth 20000 in
theorem ggX11_fly_X10_isFree : GoodIn wsX11_fly wsX10_isFree := goodIn_r _ [35, 26, 36, 22, 23, 24, 25, 27, 14, 15, 16, 37, 38, 39, 40, 41, 42, 43, 44, 45, 46, 47, 48, 49, 50, 51, 52, 53, 54, 55, 246, 247, 248, 249, 250, 251, 252, 253, 254] (by decide +kernel) (by decide +kernel)
set_option maxRecDepth 20000 in
theorem gX11_fly_X10_isFree : GoodIn wsX11_fly (wsV RX11 229 RX10 yX10_isFree wsX10_isFree) := goodIn_app (goodIn_of _ (by decide +kernel)) ggX11_fly_X10_isFree
set_option maxRecDepth 20000 in
theorem ggX11_fly_X3_bindTo : GoodIn wsX11_fly wsX3_bindTo := goodIn_r _ [60, 61, 62, 255, 256, 257, 258, 259, 260, 261, 262, 263, 264, 265, 266, 267] (by decide +kernel) (by decide +kernel)
set_option maxRecDepth 20000 in
theorem gX11_fly_X3_bindTo : GoodIn wsX11_fly (wsV RX11 233 RX3 yX3_bindTo wsX3_bindTo) := goodIn_app (goodIn_of _ (by decide +kernel)) ggX11_fly_X3_bindTo
set_option maxRecDepth 20000 in
theorem ggX11_fly_X3_begin : GoodIn wsX11_fly wsX3_begin := goodIn_r _ [66, 67, 68, 69, 70, 71, 72, 73, 74, 75, 76, 77, 78, 79, 80, 234, 235, 236, 237, 238, 239, 240, 241, 242, 243, 244, 245, 255, 256, 257, 258, 228, 229, 230, 231, 232, 233, 268, 269, 270, 271, 272, 273, 274] (by decide +kernel) (by decide +kernel)
set_option maxRecDepth 20000 in
theorem gX11_fly_X3_begin : GoodIn wsX11_fly (wsV RX11 240 RX3 yX3_begin wsX3_begin) := goodIn_app (goodIn_of _ (by decide +kernel)) ggX11_fly_X3_begin
set_option maxRecDepth 20000 in
theorem ggX11_fly_X3_goOn : GoodIn wsX11_fly wsX3_goOn := goodIn_r _ [84, 68, 69, 85, 86, 87, 59, 88, 70, 61, 71, 89, 90, 91, 92, 74, 72, 73, 75, 93, 94, 95, 96, 97, 76, 98, 77, 99, 100, 101, 102, 103, 104, 105, 106, 107, 108, 109, 110, 111, 112, 113, 114, 115, 116, 117, 118, 119, 45, 46, 24, 47, 48, 49, 50, 51, 26, 27, 120, 121, 122, 123, 124, 125, 126, 127, 128, 129, 130, 131, 132, 133, 134, 135, 136, 137, 138, 139, 140, 141, 142, 143, 144, 145, 146, 147, 148, 149, 150, 151, 152, 153, 154, 155, 156, 157, 158, 14, 15, 16, 159, 160, 161, 162, 163, 164, 165, 166, 167, 168, 169, 170, 171, 172, 173, 174, 175, 176, 177, 178, 179, 180, 181, 182, 183, 184, 185, 186, 187, 188, 189, 190, 191, 192, 193, 194, 195, 196, 197, 198, 199, 200, 201, 202, 203, 204, 205, 206, 207, 208, 209, 210, 211, 212, 213, 214, 215, 216, 217, 218, 33, 34, 35, 36, 22, 23, 25, 37, 38, 39, 40, 41, 42, 43, 44, 52, 53, 54, 55, 234, 235, 236, 237, 238, 239, 240, 241, 242, 243, 244, 245, 255, 256, 257, 258, 259, 260, 261, 262, 263, 264, 265, 266, 267, 228, 229, 230, 231, 232, 233, 268, 269, 270, 271, 272, 273, 274, 275, 276, 277, 278, 279, 246, 247, 248, 249, 250, 251, 252, 253, 254] (by decide +kernel) (by decide +kernel)
set_option maxRecDepth 20000 in
theorem gX11_fly_X3_goOn : GoodIn wsX11_fly (wsV RX11 244 RX3 yX3_goOn wsX3_goOn) := goodIn_app (goodIn_of _ (by decide +kernel)) ggX11_fly_X3_goOn
theorem dX11_fly_0 : decode cX11_fly 0 = .ok (.aload_n 0, 1) := by decide +kernel
theorem dX11_fly_1 : decode cX11_fly 1 = .ok (.getfield 14, 3) := by decide +kernel
theorem dX11_fly_4 : decode cX11_fly 4 = .ok (.iload_n 1, 1) := by decide +kernel
theorem dX11_fly_5 : decode cX11_fly 5 = .ok (.invokevirtual 226, 3) := by decide +kernel
theorem dX11_fly_8 : decode cX11_fly 8 = .ok (.ifCond .eq 25, 3) := by decide +kernel
theorem dX11_fly_11 : decode cX11_fly 11 = .ok (.aload_n 0, 1) := by decide +kernel
theorem dX11_fly_12 : decode cX11_fly 12 = .ok (.iload_n 2, 1) := by decide +kernel
theorem dX11_fly_13 : decode cX11_fly 13 = .ok (.iload_n 3, 1) := by decide +kernel
theorem dX11_fly_14 : decode cX11_fly 14 = .ok (.iload 4, 2) := by decide +kernel
theorem dX11_fly_16 : decode cX11_fly 16 = .ok (.invokevirtual 147, 3) := by decide +kernel
theorem dX11_fly_19 : decode cX11_fly 19 = .ok (.ifCond .eq 14, 3) := by decide +kernel
theorem dX11_fly_22 : decode cX11_fly 22 = .ok (.iload 5, 2) := by decide +kernel
theorem dX11_fly_24 : decode cX11_fly 24 = .ok (.iconst 1, 1) := by decide +kernel
theorem dX11_fly_25 : decode cX11_fly 25 = .ok (.bipush 60, 2) := by decide +kernel
theorem dX11_fly_27 : decode cX11_fly 27 = .ok (.invokestatic 63, 3) := by decide +kernel
theorem dX11_fly_30 : decode cX11_fly 30 = .ok (.ifCond .ne 5, 3) := by decide +kernel
theorem dX11_fly_33 : decode cX11_fly 33 = .ok (.iconst (-1), 1) := by decide +kernel
theorem dX11_fly_34 : decode cX11_fly 34 = .ok (.ireturn, 1) := by decide +kernel
theorem dX11_fly_35 : decode cX11_fly 35 = .ok (.iload 6, 2) := by decide +kernel
theorem dX11_fly_37 : decode cX11_fly 37 = .ok (.ifCond .eq 14, 3) := by decide +kernel
theorem dX11_fly_40 : decode cX11_fly 40 = .ok (.iload 6, 2) := by decide +kernel
theorem dX11_fly_42 : decode cX11_fly 42 = .ok (.iconst 4, 1) := by decide +kernel
theorem dX11_fly_43 : decode cX11_fly 43 = .ok (.bipush 20, 2) := by decide +kernel
theorem dX11_fly_45 : decode cX11_fly 45 = .ok (.invokestatic 63, 3) := by decide +kernel
theorem dX11_fly_48 : decode cX11_fly 48 = .ok (.ifCond .eq 19, 3) := by decide +kernel
theorem dX11_fly_51 : decode cX11_fly 51 = .ok (.aload_n 0, 1) := by decide +kernel
theorem dX11_fly_52 : decode cX11_fly 52 = .ok (.getfield 14, 3) := by decide +kernel
theorem dX11_fly_55 : decode cX11_fly 55 = .ok (.getfield 23, 3) := by decide +kernel
theorem dX11_fly_58 : decode cX11_fly 58 = .ok (.iload_n 2, 1) := by decide +kernel
theorem dX11_fly_59 : decode cX11_fly 59 = .ok (.iload_n 3, 1) := by decide +kernel
theorem dX11_fly_60 : decode cX11_fly 60 = .ok (.iconst 0, 1) := by decide +kernel
theorem dX11_fly_61 : decode cX11_fly 61 = .ok (.invokevirtual 229, 3) := by decide +kernel
theorem dX11_fly_64 : decode cX11_fly 64 = .ok (.ifCond .ne 5, 3) := by decide +kernel
theorem dX11_fly_67 : decode cX11_fly 67 = .ok (.iconst (-1), 1) := by decide +kernel
theorem dX11_fly_68 : decode cX11_fly 68 = .ok (.ireturn, 1) := by decide +kernel
theorem dX11_fly_69 : decode cX11_fly 69 = .ok (.aload_n 0, 1) := by decide +kernel
theorem dX11_fly_70 : decode cX11_fly 70 = .ok (.getfield 39, 3) := by decide +kernel
theorem dX11_fly_73 : decode cX11_fly 73 = .ok (.iload 6, 2) := by decide +kernel
theorem dX11_fly_75 : decode cX11_fly 75 = .ok (.ifCond .ne 8, 3) := by decide +kernel
theorem dX11_fly_78 : decode cX11_fly 78 = .ok (.ldc 232, 2) := by decide +kernel
theorem dX11_fly_80 : decode cX11_fly 80 = .ok (.goto 11, 3) := by decide +kernel
theorem dX11_fly_83 : decode cX11_fly 83 = .ok (.iconst 1, 1) := by decide +kernel
theorem dX11_fly_84 : decode cX11_fly 84 = .ok (.iload 6, 2) := by decide +kernel
theorem dX11_fly_86 : decode cX11_fly 86 = .ok (.iconst 1, 1) := by decide +kernel
theorem dX11_fly_87 : decode cX11_fly 87 = .ok (.isub, 1) := by decide +kernel
theorem dX11_fly_88 : decode cX11_fly 88 = .ok (.ishl, 1) := by decide +kernel
theorem dX11_fly_89 : decode cX11_fly 89 = .ok (.iconst 1, 1) := by decide +kernel
theorem dX11_fly_90 : decode cX11_fly 90 = .ok (.isub, 1) := by decide +kernel
theorem dX11_fly_91 : decode cX11_fly 91 = .ok (.invokevirtual 233, 3) := by decide +kernel
theorem dX11_fly_94 : decode cX11_fly 94 = .ok (.aload_n 0, 1) := by decide +kernel
theorem dX11_fly_95 : decode cX11_fly 95 = .ok (.getfield 39, 3) := by decide +kernel
theorem dX11_fly_98 : decode cX11_fly 98 = .ok (.aload_n 0, 1) := by decide +kernel
theorem dX11_fly_99 : decode cX11_fly 99 = .ok (.getfield 14, 3) := by decide +kernel
theorem dX11_fly_102 : decode cX11_fly 102 = .ok (.getfield 236, 3) := by decide +kernel
theorem dX11_fly_105 : decode cX11_fly 105 = .ok (.iload_n 2, 1) := by decide +kernel
theorem dX11_fly_106 : decode cX11_fly 106 = .ok (.iload_n 3, 1) := by decide +kernel
theorem dX11_fly_107 : decode cX11_fly 107 = .ok (.iload 4, 2) := by decide +kernel
theorem dX11_fly_109 : decode cX11_fly 109 = .ok (.invokevirtual 240, 3) := by decide +kernel
theorem dX11_fly_112 : decode cX11_fly 112 = .ok (.aload_n 0, 1) := by decide +kernel
theorem dX11_fly_113 : decode cX11_fly 113 = .ok (.getfield 39, 3) := by decide +kernel
theorem dX11_fly_116 : decode cX11_fly 116 = .ok (.aload_n 0, 1) := by decide +kernel
theorem dX11_fly_117 : decode cX11_fly 117 = .ok (.getfield 14, 3) := by decide +kernel
theorem dX11_fly_120 : decode cX11_fly 120 = .ok (.getfield 236, 3) := by decide +kernel
theorem dX11_fly_123 : decode cX11_fly 123 = .ok (.aload_n 0, 1) := by decide +kernel
theorem dX11_fly_124 : decode cX11_fly 124 = .ok (.getfield 14, 3) := by decide +kernel
theorem dX11_fly_127 : decode cX11_fly 127 = .ok (.getfield 215, 3) := by decide +kernel
theorem dX11_fly_130 : decode cX11_fly 130 = .ok (.iload_n 1, 1) := by decide +kernel
theorem dX11_fly_131 : decode cX11_fly 131 = .ok (.aaload, 1) := by decide +kernel
theorem dX11_fly_132 : decode cX11_fly 132 = .ok (.iload 5, 2) := by decide +kernel
theorem dX11_fly_134 : decode cX11_fly 134 = .ok (.invokevirtual 244, 3) := by decide +kernel
theorem dX11_fly_137 : decode cX11_fly 137 = .ok (.aload_n 0, 1) := by decide +kernel
theorem dX11_fly_138 : decode cX11_fly 138 = .ok (.getfield 14, 3) := by decide +kernel
theorem dX11_fly_141 : decode cX11_fly 141 = .ok (.getfield 236, 3) := by decide +kernel
theorem dX11_fly_144 : decode cX11_fly 144 = .ok (.getfield 248, 3) := by decide +kernel
theorem dX11_fly_147 : decode cX11_fly 147 = .ok (.ireturn, 1) := by decide +kernel
theorem dX11_flown_0 : decode cX11_flown 0 = .ok (.aload_n 0, 1) := by decide +kernel
theorem dX11_flown_1 : decode cX11_flown 1 = .ok (.getfield 14, 3) := by decide +kernel
theorem dX11_flown_4 : decode cX11_flown 4 = .ok (.getfield 236, 3) := by decide +kernel
theorem dX11_flown_7 : decode cX11_flown 7 = .ok (.astore_n 2, 1) := by decide +kernel
theorem dX11_flown_8 : decode cX11_flown 8 = .ok (.aload_n 2, 1) := by decide +kernel
theorem dX11_flown_9 : decode cX11_flown 9 = .ok (.getfield 253, 3) := by decide +kernel
theorem dX11_flown_12 : decode cX11_flown 12 = .ok (.ifCond .ne 5, 3) := by decide +kernel
theorem dX11_flown_15 : decode cX11_flown 15 = .ok (.iconst (-1), 1) := by decide +kernel
theorem dX11_flown_16 : decode cX11_flown 16 = .ok (.ireturn, 1) := by decide +kernel
theorem dX11_flown_17 : decode cX11_flown 17 = .ok (.iload_n 1, 1) := by decide +kernel
theorem dX11_flown_18 : decode cX11_flown 18 = .ok (.tableswitch 84 0 5 #[38, 43, 48, 53, 66, 79], 38) := by decide +kernel
theorem dX11_flown_56 : decode cX11_flown 56 = .ok (.aload_n 2, 1) := by decide +kernel
theorem dX11_flown_57 : decode cX11_flown 57 = .ok (.getfield 256, 3) := by decide +kernel
theorem dX11_flown_60 : decode cX11_flown 60 = .ok (.ireturn, 1) := by decide +kernel
theorem dX11_flown_61 : decode cX11_flown 61 = .ok (.aload_n 2, 1) := by decide +kernel
theorem dX11_flown_62 : decode cX11_flown 62 = .ok (.getfield 259, 3) := by decide +kernel
theorem dX11_flown_65 : decode cX11_flown 65 = .ok (.ireturn, 1) := by decide +kernel
theorem dX11_flown_66 : decode cX11_flown 66 = .ok (.aload_n 2, 1) := by decide +kernel
theorem dX11_flown_67 : decode cX11_flown 67 = .ok (.getfield 262, 3) := by decide +kernel
theorem dX11_flown_70 : decode cX11_flown 70 = .ok (.ireturn, 1) := by decide +kernel
theorem dX11_flown_71 : decode cX11_flown 71 = .ok (.aload_n 2, 1) := by decide +kernel
theorem dX11_flown_72 : decode cX11_flown 72 = .ok (.getfield 265, 3) := by decide +kernel
theorem dX11_flown_75 : decode cX11_flown 75 = .ok (.ifCond .eq 7, 3) := by decide +kernel
theorem dX11_flown_78 : decode cX11_flown 78 = .ok (.iconst 1, 1) := by decide +kernel
theorem dX11_flown_79 : decode cX11_flown 79 = .ok (.goto 4, 3) := by decide +kernel
theorem dX11_flown_82 : decode cX11_flown 82 = .ok (.iconst 0, 1) := by decide +kernel
theorem dX11_flown_83 : decode cX11_flown 83 = .ok (.ireturn, 1) := by decide +kernel
theorem dX11_flown_84 : decode cX11_flown 84 = .ok (.aload_n 2, 1) := by decide +kernel
theorem dX11_flown_85 : decode cX11_flown 85 = .ok (.getfield 268, 3) := by decide +kernel
theorem dX11_flown_88 : decode cX11_flown 88 = .ok (.ifCond .eq 7, 3) := by decide +kernel
theorem dX11_flown_91 : decode cX11_flown 91 = .ok (.iconst 1, 1) := by decide +kernel
theorem dX11_flown_92 : decode cX11_flown 92 = .ok (.goto 4, 3) := by decide +kernel
theorem dX11_flown_95 : decode cX11_flown 95 = .ok (.iconst 0, 1) := by decide +kernel
theorem dX11_flown_96 : decode cX11_flown 96 = .ok (.ireturn, 1) := by decide +kernel
theorem dX11_flown_97 : decode cX11_flown 97 = .ok (.aload_n 2, 1) := by decide +kernel
theorem dX11_flown_98 : decode cX11_flown 98 = .ok (.getfield 271, 3) := by decide +kernel
theorem dX11_flown_101 : decode cX11_flown 101 = .ok (.ireturn, 1) := by decide +kernel
theorem dX11_flown_102 : decode cX11_flown 102 = .ok (.iconst (-1), 1) := by decide +kernel
theorem dX11_flown_103 : decode cX11_flown 103 = .ok (.ireturn, 1) := by decide +kernel
set_option maxRecDepth 20000 in
theorem ggX11_tick_X11_isWithin : GoodIn wsX11_tick wsX11_isWithin := goodIn_r _ [11] (by decide +kernel) (by decide +kernel)
set_option maxRecDepth 20000 in
theorem gX11_tick_X11_isWithin : GoodIn wsX11_tick (va_wsS RX11 63 yX11_isWithin wsX11_isWithin) := goodIn_app (goodIn_of _ (by decide +kernel)) ggX11_tick_X11_isWithin
set_option maxRecDepth 20000 in
theorem ggX11_tick_X2_noted : GoodIn wsX11_tick wsX2_noted := goodIn_r _ [16, 17, 48, 49, 50, 51, 52, 53, 54, 55, 56, 57, 58, 59] (by decide +kernel) (by decide +kernel)
set_option maxRecDepth 20000 in
theorem gX11_tick_X2_noted : GoodIn wsX11_tick (wsV RX11 275 RX2 yX2_noted wsX2_noted) := goodIn_app (goodIn_of _ (by decide +kernel)) ggX11_tick_X2_noted
set_option maxRecDepth 20000 in
theorem ggX11_tick_X2_takenBy : GoodIn wsX11_tick wsX2_takenBy := goodIn_r _ [21, 22, 23, 48, 49, 50, 51, 52, 53, 54, 55, 56, 57, 58, 59] (by decide +kernel) (by decide +kernel)
set_option maxRecDepth 20000 in
theorem gX11_tick_X2_takenBy : GoodIn wsX11_tick (wsV RX11 279 RX2 yX2_takenBy wsX2_takenBy) := goodIn_app (goodIn_of _ (by decide +kernel)) ggX11_tick_X2_takenBy
set_option maxRecDepth 20000 in
theorem ggX11_tick_X2_comparedBy : GoodIn wsX11_tick wsX2_comparedBy := goodIn_r _ [27, 28, 29, 30, 31, 9, 10, 11, 32, 19, 20, 15, 21, 22, 23, 48, 49, 50, 51, 52, 53, 54, 55, 56, 57, 58, 59, 60, 61, 62, 63, 64, 65, 66] (by decide +kernel) (by decide +kernel)
set_option maxRecDepth 20000 in
theorem gX11_tick_X2_comparedBy : GoodIn wsX11_tick (wsV RX11 283 RX2 yX2_comparedBy wsX2_comparedBy) := goodIn_app (goodIn_of _ (by decide +kernel)) ggX11_tick_X2_comparedBy
theorem dX11_tick_0 : decode cX11_tick 0 = .ok (.aload_n 0, 1) := by decide +kernel
theorem dX11_tick_1 : decode cX11_tick 1 = .ok (.getfield 14, 3) := by decide +kernel
theorem dX11_tick_4 : decode cX11_tick 4 = .ok (.getfield 236, 3) := by decide +kernel
theorem dX11_tick_7 : decode cX11_tick 7 = .ok (.astore_n 3, 1) := by decide +kernel
theorem dX11_tick_8 : decode cX11_tick 8 = .ok (.iload_n 1, 1) := by decide +kernel
theorem dX11_tick_9 : decode cX11_tick 9 = .ok (.iconst 0, 1) := by decide +kernel
theorem dX11_tick_10 : decode cX11_tick 10 = .ok (.aload_n 3, 1) := by decide +kernel
theorem dX11_tick_11 : decode cX11_tick 11 = .ok (.getfield 248, 3) := by decide +kernel
theorem dX11_tick_14 : decode cX11_tick 14 = .ok (.iconst 1, 1) := by decide +kernel
theorem dX11_tick_15 : decode cX11_tick 15 = .ok (.isub, 1) := by decide +kernel
theorem dX11_tick_16 : decode cX11_tick 16 = .ok (.invokestatic 63, 3) := by decide +kernel
theorem dX11_tick_19 : decode cX11_tick 19 = .ok (.ifCond .ne 7, 3) := by decide +kernel
theorem dX11_tick_22 : decode cX11_tick 22 = .ok (.ldc_w 274, 3) := by decide +kernel
theorem dX11_tick_25 : decode cX11_tick 25 = .ok (.ireturn, 1) := by decide +kernel
theorem dX11_tick_26 : decode cX11_tick 26 = .ok (.iload_n 2, 1) := by decide +kernel
theorem dX11_tick_27 : decode cX11_tick 27 = .ok (.iconst 0, 1) := by decide +kernel
theorem dX11_tick_28 : decode cX11_tick 28 = .ok (.iconst 4, 1) := by decide +kernel
theorem dX11_tick_29 : decode cX11_tick 29 = .ok (.invokestatic 63, 3) := by decide +kernel
theorem dX11_tick_32 : decode cX11_tick 32 = .ok (.ifCond .eq 10, 3) := by decide +kernel
theorem dX11_tick_35 : decode cX11_tick 35 = .ok (.aload_n 3, 1) := by decide +kernel
theorem dX11_tick_36 : decode cX11_tick 36 = .ok (.iload_n 1, 1) := by decide +kernel
theorem dX11_tick_37 : decode cX11_tick 37 = .ok (.iload_n 2, 1) := by decide +kernel
theorem dX11_tick_38 : decode cX11_tick 38 = .ok (.invokevirtual 275, 3) := by decide +kernel
theorem dX11_tick_41 : decode cX11_tick 41 = .ok (.ireturn, 1) := by decide +kernel
theorem dX11_tick_42 : decode cX11_tick 42 = .ok (.iload_n 2, 1) := by decide +kernel
theorem dX11_tick_43 : decode cX11_tick 43 = .ok (.bipush 100, 2) := by decide +kernel
theorem dX11_tick_45 : decode cX11_tick 45 = .ok (.bipush 100, 2) := by decide +kernel
theorem dX11_tick_47 : decode cX11_tick 47 = .ok (.aload_n 3, 1) := by decide +kernel
theorem dX11_tick_48 : decode cX11_tick 48 = .ok (.getfield 278, 3) := by decide +kernel
theorem dX11_tick_51 : decode cX11_tick 51 = .ok (.iadd, 1) := by decide +kernel
theorem dX11_tick_52 : decode cX11_tick 52 = .ok (.iconst 1, 1) := by decide +kernel
theorem dX11_tick_53 : decode cX11_tick 53 = .ok (.isub, 1) := by decide +kernel
theorem dX11_tick_54 : decode cX11_tick 54 = .ok (.invokestatic 63, 3) := by decide +kernel
theorem dX11_tick_57 : decode cX11_tick 57 = .ok (.ifCond .eq 13, 3) := by decide +kernel
theorem dX11_tick_60 : decode cX11_tick 60 = .ok (.aload_n 3, 1) := by decide +kernel
theorem dX11_tick_61 : decode cX11_tick 61 = .ok (.iload_n 2, 1) := by decide +kernel
theorem dX11_tick_62 : decode cX11_tick 62 = .ok (.bipush 100, 2) := by decide +kernel
theorem dX11_tick_64 : decode cX11_tick 64 = .ok (.isub, 1) := by decide +kernel
theorem dX11_tick_65 : decode cX11_tick 65 = .ok (.iload_n 1, 1) := by decide +kernel
theorem dX11_tick_66 : decode cX11_tick 66 = .ok (.invokevirtual 279, 3) := by decide +kernel
theorem dX11_tick_69 : decode cX11_tick 69 = .ok (.ireturn, 1) := by decide +kernel
theorem dX11_tick_70 : decode cX11_tick 70 = .ok (.iload_n 2, 1) := by decide +kernel
theorem dX11_tick_71 : decode cX11_tick 71 = .ok (.sipush 200, 3) := by decide +kernel
theorem dX11_tick_74 : decode cX11_tick 74 = .ok (.sipush 200, 3) := by decide +kernel
theorem dX11_tick_77 : decode cX11_tick 77 = .ok (.aload_n 3, 1) := by decide +kernel
theorem dX11_tick_78 : decode cX11_tick 78 = .ok (.getfield 282, 3) := by decide +kernel
theorem dX11_tick_81 : decode cX11_tick 81 = .ok (.iadd, 1) := by decide +kernel
theorem dX11_tick_82 : decode cX11_tick 82 = .ok (.iconst 1, 1) := by decide +kernel
theorem dX11_tick_83 : decode cX11_tick 83 = .ok (.isub, 1) := by decide +kernel
theorem dX11_tick_84 : decode cX11_tick 84 = .ok (.invokestatic 63, 3) := by decide +kernel
theorem dX11_tick_87 : decode cX11_tick 87 = .ok (.ifCond .eq 21, 3) := by decide +kernel
theorem dX11_tick_90 : decode cX11_tick 90 = .ok (.aload_n 3, 1) := by decide +kernel
theorem dX11_tick_91 : decode cX11_tick 91 = .ok (.aload_n 0, 1) := by decide +kernel
theorem dX11_tick_92 : decode cX11_tick 92 = .ok (.getfield 14, 3) := by decide +kernel
theorem dX11_tick_95 : decode cX11_tick 95 = .ok (.getfield 103, 3) := by decide +kernel
theorem dX11_tick_98 : decode cX11_tick 98 = .ok (.iload_n 2, 1) := by decide +kernel
theorem dX11_tick_99 : decode cX11_tick 99 = .ok (.sipush 200, 3) := by decide +kernel
theorem dX11_tick_102 : decode cX11_tick 102 = .ok (.isub, 1) := by decide +kernel
theorem dX11_tick_103 : decode cX11_tick 103 = .ok (.iload_n 1, 1) := by decide +kernel
theorem dX11_tick_104 : decode cX11_tick 104 = .ok (.invokevirtual 283, 3) := by decide +kernel
theorem dX11_tick_107 : decode cX11_tick 107 = .ok (.ireturn, 1) := by decide +kernel
theorem dX11_tick_108 : decode cX11_tick 108 = .ok (.ldc_w 274, 3) := by decide +kernel
theorem dX11_tick_111 : decode cX11_tick 111 = .ok (.ireturn, 1) := by decide +kernel
set_option maxRecDepth 20000 in
theorem ggX11_safe_X8_isRule : GoodIn wsX11_safe wsX8_isRule := goodIn_r _ [9, 10, 11, 12, 13, 232, 233, 234, 235, 236, 237] (by decide +kernel) (by decide +kernel)
set_option maxRecDepth 20000 in
theorem gX11_safe_X8_isRule : GoodIn wsX11_safe (wsV RX11 226 RX8 yX8_isRule wsX8_isRule) := goodIn_app (goodIn_of _ (by decide +kernel)) ggX11_safe_X8_isRule
set_option maxRecDepth 20000 in
theorem ggX11_safe_X11_isWithin : GoodIn wsX11_safe wsX11_isWithin := goodIn_r _ [13] (by decide +kernel) (by decide +kernel)
set_option maxRecDepth 20000 in
theorem gX11_safe_X11_isWithin : GoodIn wsX11_safe (va_wsS RX11 63 yX11_isWithin wsX11_isWithin) := goodIn_app (goodIn_of _ (by decide +kernel)) ggX11_safe_X11_isWithin
set_option maxRecDepth 20000 in
theorem ggX11_safe_X11_isStanding : GoodIn wsX11_safe wsX11_isStanding := goodIn_r _ [18, 1, 4, 19, 20, 21, 22, 23, 24, 25, 11, 12, 13, 26, 27, 28, 14, 223, 224, 225, 226, 227, 228, 229, 230, 231, 232, 233, 234, 235, 236, 237, 238, 239, 240, 241, 242, 243, 244, 245, 246] (by decide +kernel) (by decide +kernel)
set_option maxRecDepth 20000 in
theorem gX11_safe_X11_isStanding : GoodIn wsX11_safe (wsV RX11 147 RX11 yX11_isStanding wsX11_isStanding) := goodIn_app (goodIn_of _ (by decide +kernel)) ggX11_safe_X11_isStanding
set_option maxRecDepth 20000 in
theorem ggX11_safe_X3_bindTo : GoodIn wsX11_safe wsX3_bindTo := goodIn_r _ [33, 34, 35, 247, 248, 249, 250, 251, 252, 253, 254, 255, 256, 257, 258, 259] (by decide +kernel) (by decide +kernel)
set_option maxRecDepth 20000 in
theorem gX11_safe_X3_bindTo : GoodIn wsX11_safe (wsV RX11 233 RX3 yX3_bindTo wsX3_bindTo) := goodIn_app (goodIn_of _ (by decide +kernel)) ggX11_safe_X3_bindTo
set_option maxRecDepth 20000 in
theorem ggX11_safe_X10_isFree : GoodIn wsX11_safe wsX10_isFree := goodIn_r _ [39, 24, 40, 20, 21, 22, 23, 25, 11, 12, 13, 41, 42, 43, 44, 45, 46, 47, 48, 49, 50, 51, 52, 53, 54, 55, 56, 57, 58, 59, 238, 239, 240, 241, 242, 243, 244, 245, 246] (by decide +kernel) (by decide +kernel)
set_option maxRecDepth 20000 in
theorem gX11_safe_X10_isFree : GoodIn wsX11_safe (wsV RX11 229 RX10 yX10_isFree wsX10_isFree) := goodIn_app (goodIn_of _ (by decide +kernel)) ggX11_safe_X10_isFree
set_option maxRecDepth 20000 in
theorem ggX11_safe_X3_hitsFrom : GoodIn wsX11_safe wsX3_hitsFrom := goodIn_r _ [63, 64, 65, 66, 67, 68, 6, 7, 8, 9, 10, 11, 12, 13, 69, 70, 71, 32, 72, 73, 74, 75, 76, 77, 78, 79, 80, 81, 82, 83, 84, 85, 86, 87, 88, 89, 90, 91, 92, 34, 93, 94, 95, 96, 97, 98, 99, 100, 101, 102, 103, 104, 105, 106, 107, 108, 109, 110, 111, 112, 113, 114, 115, 116, 117, 118, 119, 120, 121, 122, 123, 49, 50, 22, 51, 52, 53, 54, 55, 24, 25, 124, 125, 126, 127, 128, 129, 130, 131, 132, 133, 134, 135, 136, 137, 138, 139, 140, 141, 142, 143, 144, 145, 146, 147, 148, 149, 150, 151, 152, 153, 154, 155, 156, 157, 158, 159, 160, 161, 162, 163, 164, 165, 166, 167, 168, 169, 170, 171, 172, 173, 174, 175, 176, 177, 178, 179, 180, 181, 182, 183, 184, 185, 186, 187, 188, 189, 190, 191, 192, 193, 194, 195, 196, 197, 198, 199, 200, 201, 202, 203, 204, 205, 206, 207, 208, 209, 210, 211, 212, 213, 214, 215, 216, 217, 218, 219, 220, 221, 222, 37, 38, 39, 40, 20, 21, 23, 41, 42, 43, 44, 45, 46, 47, 48, 56, 57, 58, 59, 247, 248, 249, 250, 232, 233, 234, 235, 236, 237, 260, 261, 262, 263, 264, 265, 266, 267, 268, 269, 270, 271, 272, 273, 274, 275, 276, 277, 278, 251, 252, 253, 254, 255, 256, 257, 258, 259, 279, 280, 281, 282, 283, 238, 239, 240, 241, 242, 243, 244, 245, 246] (by decide +kernel) (by decide +kernel)
set_option maxRecDepth 20000 in
theorem gX11_safe_X3_hitsFrom : GoodIn wsX11_safe (wsV RX11 287 RX3 yX3_hitsFrom wsX3_hitsFrom) := goodIn_app (goodIn_of _ (by decide +kernel)) ggX11_safe_X3_hitsFrom
theorem dX11_safe_0 : decode cX11_safe 0 = .ok (.aload_n 0, 1) := by decide +kernel
theorem dX11_safe_1 : decode cX11_safe 1 = .ok (.getfield 14, 3) := by decide +kernel
theorem dX11_safe_4 : decode cX11_safe 4 = .ok (.iload_n 1, 1) := by decide +kernel
theorem dX11_safe_5 : decode cX11_safe 5 = .ok (.invokevirtual 226, 3) := by decide +kernel
theorem dX11_safe_8 : decode cX11_safe 8 = .ok (.ifCond .eq 24, 3) := by decide +kernel
theorem dX11_safe_11 : decode cX11_safe 11 = .ok (.iload 7, 2) := by decide +kernel
theorem dX11_safe_13 : decode cX11_safe 13 = .ok (.iconst 1, 1) := by decide +kernel
theorem dX11_safe_14 : decode cX11_safe 14 = .ok (.bipush 60, 2) := by decide +kernel
theorem dX11_safe_16 : decode cX11_safe 16 = .ok (.invokestatic 63, 3) := by decide +kernel
theorem dX11_safe_19 : decode cX11_safe 19 = .ok (.ifCond .eq 13, 3) := by decide +kernel
theorem dX11_safe_22 : decode cX11_safe 22 = .ok (.iload 8, 2) := by decide +kernel
theorem dX11_safe_24 : decode cX11_safe 24 = .ok (.iconst 0, 1) := by decide +kernel
theorem dX11_safe_25 : decode cX11_safe 25 = .ok (.iconst 1, 1) := by decide +kernel
theorem dX11_safe_26 : decode cX11_safe 26 = .ok (.invokestatic 63, 3) := by decide +kernel
theorem dX11_safe_29 : decode cX11_safe 29 = .ok (.ifCond .ne 5, 3) := by decide +kernel
theorem dX11_safe_32 : decode cX11_safe 32 = .ok (.iconst (-1), 1) := by decide +kernel
theorem dX11_safe_33 : decode cX11_safe 33 = .ok (.ireturn, 1) := by decide +kernel
theorem dX11_safe_34 : decode cX11_safe 34 = .ok (.aload_n 0, 1) := by decide +kernel
theorem dX11_safe_35 : decode cX11_safe 35 = .ok (.iload_n 2, 1) := by decide +kernel
theorem dX11_safe_36 : decode cX11_safe 36 = .ok (.iload 4, 2) := by decide +kernel
theorem dX11_safe_38 : decode cX11_safe 38 = .ok (.iload 5, 2) := by decide +kernel
theorem dX11_safe_40 : decode cX11_safe 40 = .ok (.invokevirtual 147, 3) := by decide +kernel
theorem dX11_safe_43 : decode cX11_safe 43 = .ok (.ifCond .eq 27, 3) := by decide +kernel
theorem dX11_safe_46 : decode cX11_safe 46 = .ok (.aload_n 0, 1) := by decide +kernel
theorem dX11_safe_47 : decode cX11_safe 47 = .ok (.iload_n 3, 1) := by decide +kernel
theorem dX11_safe_48 : decode cX11_safe 48 = .ok (.iload 4, 2) := by decide +kernel
theorem dX11_safe_50 : decode cX11_safe 50 = .ok (.iload 6, 2) := by decide +kernel
theorem dX11_safe_52 : decode cX11_safe 52 = .ok (.invokevirtual 147, 3) := by decide +kernel
theorem dX11_safe_55 : decode cX11_safe 55 = .ok (.ifCond .eq 15, 3) := by decide +kernel
theorem dX11_safe_58 : decode cX11_safe 58 = .ok (.iload_n 2, 1) := by decide +kernel
theorem dX11_safe_59 : decode cX11_safe 59 = .ok (.iload_n 3, 1) := by decide +kernel
theorem dX11_safe_60 : decode cX11_safe 60 = .ok (.if_icmp .gt 10, 3) := by decide +kernel
theorem dX11_safe_63 : decode cX11_safe 63 = .ok (.iload 5, 2) := by decide +kernel
theorem dX11_safe_65 : decode cX11_safe 65 = .ok (.iload 6, 2) := by decide +kernel
theorem dX11_safe_67 : decode cX11_safe 67 = .ok (.if_icmp .le 5, 3) := by decide +kernel
theorem dX11_safe_70 : decode cX11_safe 70 = .ok (.iconst (-1), 1) := by decide +kernel
theorem dX11_safe_71 : decode cX11_safe 71 = .ok (.ireturn, 1) := by decide +kernel
theorem dX11_safe_72 : decode cX11_safe 72 = .ok (.iload 6, 2) := by decide +kernel
theorem dX11_safe_74 : decode cX11_safe 74 = .ok (.iload 5, 2) := by decide +kernel
theorem dX11_safe_76 : decode cX11_safe 76 = .ok (.isub, 1) := by decide +kernel
theorem dX11_safe_77 : decode cX11_safe 77 = .ok (.iconst 1, 1) := by decide +kernel
theorem dX11_safe_78 : decode cX11_safe 78 = .ok (.iadd, 1) := by decide +kernel
theorem dX11_safe_79 : decode cX11_safe 79 = .ok (.istore 9, 2) := by decide +kernel
theorem dX11_safe_81 : decode cX11_safe 81 = .ok (.iload_n 3, 1) := by decide +kernel
theorem dX11_safe_82 : decode cX11_safe 82 = .ok (.iload_n 2, 1) := by decide +kernel
theorem dX11_safe_83 : decode cX11_safe 83 = .ok (.isub, 1) := by decide +kernel
theorem dX11_safe_84 : decode cX11_safe 84 = .ok (.bipush 16, 2) := by decide +kernel
theorem dX11_safe_86 : decode cX11_safe 86 = .ok (.idiv, 1) := by decide +kernel
theorem dX11_safe_87 : decode cX11_safe 87 = .ok (.iconst 1, 1) := by decide +kernel
theorem dX11_safe_88 : decode cX11_safe 88 = .ok (.iadd, 1) := by decide +kernel
theorem dX11_safe_89 : decode cX11_safe 89 = .ok (.iload 9, 2) := by decide +kernel
theorem dX11_safe_91 : decode cX11_safe 91 = .ok (.imul, 1) := by decide +kernel
theorem dX11_safe_92 : decode cX11_safe 92 = .ok (.istore 10, 2) := by decide +kernel
theorem dX11_safe_94 : decode cX11_safe 94 = .ok (.iload 10, 2) := by decide +kernel
theorem dX11_safe_96 : decode cX11_safe 96 = .ok (.bipush 64, 2) := by decide +kernel
theorem dX11_safe_98 : decode cX11_safe 98 = .ok (.if_icmp .le 5, 3) := by decide +kernel
theorem dX11_safe_101 : decode cX11_safe 101 = .ok (.iconst (-1), 1) := by decide +kernel
theorem dX11_safe_102 : decode cX11_safe 102 = .ok (.ireturn, 1) := by decide +kernel
theorem dX11_safe_103 : decode cX11_safe 103 = .ok (.aload_n 0, 1) := by decide +kernel
theorem dX11_safe_104 : decode cX11_safe 104 = .ok (.getfield 39, 3) := by decide +kernel
theorem dX11_safe_107 : decode cX11_safe 107 = .ok (.ldc 232, 2) := by decide +kernel
theorem dX11_safe_109 : decode cX11_safe 109 = .ok (.invokevirtual 233, 3) := by decide +kernel
theorem dX11_safe_112 : decode cX11_safe 112 = .ok (.iload_n 2, 1) := by decide +kernel
theorem dX11_safe_113 : decode cX11_safe 113 = .ok (.istore 11, 2) := by decide +kernel
theorem dX11_safe_115 : decode cX11_safe 115 = .ok (.iload 11, 2) := by decide +kernel
theorem dX11_safe_117 : decode cX11_safe 117 = .ok (.iload_n 3, 1) := by decide +kernel
theorem dX11_safe_118 : decode cX11_safe 118 = .ok (.if_icmp .gt 76, 3) := by decide +kernel
theorem dX11_safe_121 : decode cX11_safe 121 = .ok (.iload 5, 2) := by decide +kernel
theorem dX11_safe_123 : decode cX11_safe 123 = .ok (.istore 12, 2) := by decide +kernel
theorem dX11_safe_125 : decode cX11_safe 125 = .ok (.iload 12, 2) := by decide +kernel
theorem dX11_safe_127 : decode cX11_safe 127 = .ok (.iload 6, 2) := by decide +kernel
theorem dX11_safe_129 : decode cX11_safe 129 = .ok (.if_icmp .gt 59, 3) := by decide +kernel
theorem dX11_safe_132 : decode cX11_safe 132 = .ok (.aload_n 0, 1) := by decide +kernel
theorem dX11_safe_133 : decode cX11_safe 133 = .ok (.getfield 14, 3) := by decide +kernel
theorem dX11_safe_136 : decode cX11_safe 136 = .ok (.getfield 23, 3) := by decide +kernel
theorem dX11_safe_139 : decode cX11_safe 139 = .ok (.iload 11, 2) := by decide +kernel
theorem dX11_safe_141 : decode cX11_safe 141 = .ok (.iload 4, 2) := by decide +kernel
theorem dX11_safe_143 : decode cX11_safe 143 = .ok (.iconst 0, 1) := by decide +kernel
theorem dX11_safe_144 : decode cX11_safe 144 = .ok (.invokevirtual 229, 3) := by decide +kernel
theorem dX11_safe_147 : decode cX11_safe 147 = .ok (.ifCond .eq 35, 3) := by decide +kernel
theorem dX11_safe_150 : decode cX11_safe 150 = .ok (.aload_n 0, 1) := by decide +kernel
theorem dX11_safe_151 : decode cX11_safe 151 = .ok (.getfield 39, 3) := by decide +kernel
theorem dX11_safe_154 : decode cX11_safe 154 = .ok (.iload_n 1, 1) := by decide +kernel
theorem dX11_safe_155 : decode cX11_safe 155 = .ok (.iload 11, 2) := by decide +kernel
theorem dX11_safe_157 : decode cX11_safe 157 = .ok (.iload 4, 2) := by decide +kernel
