theorem dX12_behindOne_188 : decode cX12_behindOne 188 = .ok (.bipush 43, 2) := by decide +kernel
theorem dX12_behindOne_190 : decode cX12_behindOne 190 = .ok (.if_icmp .ne 8, 3) := by decide +kernel
theorem dX12_behindOne_193 : decode cX12_behindOne 193 = .ok (.bipush 7, 2) := by decide +kernel
theorem dX12_behindOne_195 : decode cX12_behindOne 195 = .ok (.goto 5, 3) := by decide +kernel
theorem dX12_behindOne_198 : decode cX12_behindOne 198 = .ok (.bipush 8, 2) := by decide +kernel
theorem dX12_behindOne_200 : decode cX12_behindOne 200 = .ok (.iconst 0, 1) := by decide +kernel
theorem dX12_behindOne_201 : decode cX12_behindOne 201 = .ok (.invokevirtual 192, 3) := by decide +kernel
theorem dX12_behindOne_204 : decode cX12_behindOne 204 = .ok (.aload_n 0, 1) := by decide +kernel
theorem dX12_behindOne_205 : decode cX12_behindOne 205 = .ok (.invokevirtual 203, 3) := by decide +kernel
theorem dX12_behindOne_208 : decode cX12_behindOne 208 = .ok (.aload_n 0, 1) := by decide +kernel
theorem dX12_behindOne_209 : decode cX12_behindOne 209 = .ok (.invokevirtual 200, 3) := by decide +kernel
theorem dX12_behindOne_212 : decode cX12_behindOne 212 = .ok (.iconst 0, 1) := by decide +kernel
theorem dX12_behindOne_213 : decode cX12_behindOne 213 = .ok (.ireturn, 1) := by decide +kernel
set_option maxRecDepth 20000 in
theorem ggX12_summed_X12_goesOn : GoodIn wsX12_summed wsX12_goesOn := goodIn_r _ [7, 8, 9, 10, 11, 6, 12, 1, 13, 87, 88, 89, 90, 91, 92, 93, 94, 95, 96, 97, 98, 99, 100, 101, 102, 103, 104, 105, 106, 107, 108, 109, 110, 111, 112, 113, 114, 115, 116, 117, 118, 119, 120, 121, 122, 123, 124, 125, 126, 127, 128, 129] (by decide +kernel) (by decide +kernel)
set_option maxRecDepth 20000 in
theorem gX12_summed_X12_goesOn : GoodIn wsX12_summed (wsV RX12 234 RX12 yX12_goesOn wsX12_goesOn) := goodIn_app (goodIn_of _ (by decide +kernel)) ggX12_summed_X12_goesOn
set_option maxRecDepth 20000 in
theorem ggX12_summed_X12_behindOne : GoodIn wsX12_summed wsX12_behindOne := goodIn_r _ [17, 8, 2, 13, 1, 18, 19, 20, 21, 6, 22, 23, 24, 25, 26, 27, 28, 29, 30, 31, 32, 33, 34, 35, 36, 37, 38, 39, 40, 41, 42, 43, 44, 45, 46, 47, 48, 49, 50, 51, 52, 53, 54, 55, 56, 57, 58, 59, 60, 61, 87, 88, 89, 90, 91, 92, 93, 94, 95, 96, 97, 98, 99, 100, 101, 102, 103, 104, 105, 106, 107, 108, 109, 110, 111, 112, 113, 114, 115, 116, 117, 118, 119, 120, 121, 122, 123, 124, 125, 126, 127, 128, 129] (by decide +kernel) (by decide +kernel)
set_option maxRecDepth 20000 in
theorem gX12_summed_X12_behindOne : GoodIn wsX12_summed (wsV RX12 237 RX12 yX12_behindOne wsX12_behindOne) := goodIn_app (goodIn_of _ (by decide +kernel)) ggX12_summed_X12_behindOne
set_option maxRecDepth 20000 in
theorem ggX12_summed_X12_beginOne : GoodIn wsX12_summed wsX12_beginOne := goodIn_r _ [65, 8, 44, 66, 18, 23, 24, 25, 6, 26, 27, 28, 29, 38, 39, 40, 41, 42, 43, 45, 46, 47, 48, 49, 50, 51, 52, 53, 54, 55, 56, 57, 58, 59, 60, 61, 34, 35, 36, 37, 2, 1, 13, 67, 68, 69, 70, 71, 72, 73, 74, 75, 76, 77, 78, 79, 80, 81, 82, 83, 84, 85, 86, 30, 31, 32, 33, 87, 88, 89, 90, 91, 92, 93, 94, 95, 96, 97, 98, 99, 100, 101, 102, 103, 104, 105, 106, 107, 108, 109, 110, 111, 112, 113, 114, 115, 116, 117, 118, 119, 120, 121, 122, 123, 124, 125, 126, 127, 128, 129] (by decide +kernel) (by decide +kernel)
set_option maxRecDepth 20000 in
theorem gX12_summed_X12_beginOne : GoodIn wsX12_summed (wsV RX12 240 RX12 yX12_beginOne wsX12_beginOne) := goodIn_app (goodIn_of _ (by decide +kernel)) ggX12_summed_X12_beginOne
set_option maxRecDepth 20000 in
theorem ggX12_summed_X12_settle : GoodIn wsX12_summed wsX12_settle := goodIn_r _ [22, 1, 13, 23, 24, 25, 6, 26, 27, 28, 29, 87, 88, 89, 90, 91, 92, 93, 94, 95, 96, 97, 98, 99, 100, 101, 102, 103, 104, 105, 106, 107, 108, 109, 110, 111, 112, 113, 114, 115, 116, 117, 118, 119, 120, 121, 122, 123, 124, 125, 126, 127, 128, 129] (by decide +kernel) (by decide +kernel)
set_option maxRecDepth 20000 in
theorem gX12_summed_X12_settle : GoodIn wsX12_summed (wsV RX12 231 RX12 yX12_settle wsX12_settle) := goodIn_app (goodIn_of _ (by decide +kernel)) ggX12_summed_X12_settle
theorem dX12_summed_0 : decode cX12_summed 0 = .ok (.aload_n 0, 1) := by decide +kernel
theorem dX12_summed_1 : decode cX12_summed 1 = .ok (.iconst 0, 1) := by decide +kernel
theorem dX12_summed_2 : decode cX12_summed 2 = .ok (.putfield 182, 3) := by decide +kernel
theorem dX12_summed_5 : decode cX12_summed 5 = .ok (.aload_n 0, 1) := by decide +kernel
theorem dX12_summed_6 : decode cX12_summed 6 = .ok (.iconst 0, 1) := by decide +kernel
theorem dX12_summed_7 : decode cX12_summed 7 = .ok (.putfield 185, 3) := by decide +kernel
theorem dX12_summed_10 : decode cX12_summed 10 = .ok (.aload_n 0, 1) := by decide +kernel
theorem dX12_summed_11 : decode cX12_summed 11 = .ok (.getfield 185, 3) := by decide +kernel
theorem dX12_summed_14 : decode cX12_summed 14 = .ok (.ifCond .eq 10, 3) := by decide +kernel
theorem dX12_summed_17 : decode cX12_summed 17 = .ok (.aload_n 0, 1) := by decide +kernel
theorem dX12_summed_18 : decode cX12_summed 18 = .ok (.invokevirtual 234, 3) := by decide +kernel
theorem dX12_summed_21 : decode cX12_summed 21 = .ok (.ifCond .eq 31, 3) := by decide +kernel
theorem dX12_summed_24 : decode cX12_summed 24 = .ok (.aload_n 0, 1) := by decide +kernel
theorem dX12_summed_25 : decode cX12_summed 25 = .ok (.getfield 185, 3) := by decide +kernel
theorem dX12_summed_28 : decode cX12_summed 28 = .ok (.ifCond .eq 10, 3) := by decide +kernel
theorem dX12_summed_31 : decode cX12_summed 31 = .ok (.aload_n 0, 1) := by decide +kernel
theorem dX12_summed_32 : decode cX12_summed 32 = .ok (.invokevirtual 237, 3) := by decide +kernel
theorem dX12_summed_35 : decode cX12_summed 35 = .ok (.goto 7, 3) := by decide +kernel
theorem dX12_summed_38 : decode cX12_summed 38 = .ok (.aload_n 0, 1) := by decide +kernel
theorem dX12_summed_39 : decode cX12_summed 39 = .ok (.invokevirtual 240, 3) := by decide +kernel
theorem dX12_summed_42 : decode cX12_summed 42 = .ok (.istore_n 1, 1) := by decide +kernel
theorem dX12_summed_43 : decode cX12_summed 43 = .ok (.iload_n 1, 1) := by decide +kernel
theorem dX12_summed_44 : decode cX12_summed 44 = .ok (.ifCond .eq 5, 3) := by decide +kernel
theorem dX12_summed_47 : decode cX12_summed 47 = .ok (.iload_n 1, 1) := by decide +kernel
theorem dX12_summed_48 : decode cX12_summed 48 = .ok (.ireturn, 1) := by decide +kernel
theorem dX12_summed_49 : decode cX12_summed 49 = .ok (.goto (-39), 3) := by decide +kernel
theorem dX12_summed_52 : decode cX12_summed 52 = .ok (.aload_n 0, 1) := by decide +kernel
theorem dX12_summed_53 : decode cX12_summed 53 = .ok (.iconst 3, 1) := by decide +kernel
theorem dX12_summed_54 : decode cX12_summed 54 = .ok (.invokevirtual 231, 3) := by decide +kernel
theorem dX12_summed_57 : decode cX12_summed 57 = .ok (.aload_n 0, 1) := by decide +kernel
theorem dX12_summed_58 : decode cX12_summed 58 = .ok (.getfield 182, 3) := by decide +kernel
theorem dX12_summed_61 : decode cX12_summed 61 = .ok (.ifCond .le 7, 3) := by decide +kernel
theorem dX12_summed_64 : decode cX12_summed 64 = .ok (.iconst 1, 1) := by decide +kernel
theorem dX12_summed_65 : decode cX12_summed 65 = .ok (.goto 4, 3) := by decide +kernel
theorem dX12_summed_68 : decode cX12_summed 68 = .ok (.iconst 0, 1) := by decide +kernel
theorem dX12_summed_69 : decode cX12_summed 69 = .ok (.ireturn, 1) := by decide +kernel
theorem dX12_compareOf_0 : decode cX12_compareOf 0 = .ok (.aload_n 0, 1) := by decide +kernel
theorem dX12_compareOf_1 : decode cX12_compareOf 1 = .ok (.getfield 151, 3) := by decide +kernel
theorem dX12_compareOf_4 : decode cX12_compareOf 4 = .ok (.bipush 60, 2) := by decide +kernel
theorem dX12_compareOf_6 : decode cX12_compareOf 6 = .ok (.if_icmp .ne 8, 3) := by decide +kernel
theorem dX12_compareOf_9 : decode cX12_compareOf 9 = .ok (.bipush 10, 2) := by decide +kernel
theorem dX12_compareOf_11 : decode cX12_compareOf 11 = .ok (.goto 72, 3) := by decide +kernel
theorem dX12_compareOf_14 : decode cX12_compareOf 14 = .ok (.aload_n 0, 1) := by decide +kernel
theorem dX12_compareOf_15 : decode cX12_compareOf 15 = .ok (.getfield 151, 3) := by decide +kernel
theorem dX12_compareOf_18 : decode cX12_compareOf 18 = .ok (.iconst 4, 1) := by decide +kernel
theorem dX12_compareOf_19 : decode cX12_compareOf 19 = .ok (.if_icmp .ne 8, 3) := by decide +kernel
theorem dX12_compareOf_22 : decode cX12_compareOf 22 = .ok (.bipush 11, 2) := by decide +kernel
theorem dX12_compareOf_24 : decode cX12_compareOf 24 = .ok (.goto 59, 3) := by decide +kernel
theorem dX12_compareOf_27 : decode cX12_compareOf 27 = .ok (.aload_n 0, 1) := by decide +kernel
theorem dX12_compareOf_28 : decode cX12_compareOf 28 = .ok (.getfield 151, 3) := by decide +kernel
theorem dX12_compareOf_31 : decode cX12_compareOf 31 = .ok (.bipush 62, 2) := by decide +kernel
theorem dX12_compareOf_33 : decode cX12_compareOf 33 = .ok (.if_icmp .ne 8, 3) := by decide +kernel
theorem dX12_compareOf_36 : decode cX12_compareOf 36 = .ok (.bipush 12, 2) := by decide +kernel
theorem dX12_compareOf_38 : decode cX12_compareOf 38 = .ok (.goto 45, 3) := by decide +kernel
theorem dX12_compareOf_41 : decode cX12_compareOf 41 = .ok (.aload_n 0, 1) := by decide +kernel
theorem dX12_compareOf_42 : decode cX12_compareOf 42 = .ok (.getfield 151, 3) := by decide +kernel
theorem dX12_compareOf_45 : decode cX12_compareOf 45 = .ok (.iconst 5, 1) := by decide +kernel
theorem dX12_compareOf_46 : decode cX12_compareOf 46 = .ok (.if_icmp .ne 8, 3) := by decide +kernel
theorem dX12_compareOf_49 : decode cX12_compareOf 49 = .ok (.bipush 13, 2) := by decide +kernel
theorem dX12_compareOf_51 : decode cX12_compareOf 51 = .ok (.goto 32, 3) := by decide +kernel
theorem dX12_compareOf_54 : decode cX12_compareOf 54 = .ok (.aload_n 0, 1) := by decide +kernel
theorem dX12_compareOf_55 : decode cX12_compareOf 55 = .ok (.getfield 151, 3) := by decide +kernel
theorem dX12_compareOf_58 : decode cX12_compareOf 58 = .ok (.bipush 61, 2) := by decide +kernel
theorem dX12_compareOf_60 : decode cX12_compareOf 60 = .ok (.if_icmp .ne 8, 3) := by decide +kernel
theorem dX12_compareOf_63 : decode cX12_compareOf 63 = .ok (.bipush 14, 2) := by decide +kernel
theorem dX12_compareOf_65 : decode cX12_compareOf 65 = .ok (.goto 18, 3) := by decide +kernel
theorem dX12_compareOf_68 : decode cX12_compareOf 68 = .ok (.aload_n 0, 1) := by decide +kernel
theorem dX12_compareOf_69 : decode cX12_compareOf 69 = .ok (.getfield 151, 3) := by decide +kernel
theorem dX12_compareOf_72 : decode cX12_compareOf 72 = .ok (.bipush 35, 2) := by decide +kernel
theorem dX12_compareOf_74 : decode cX12_compareOf 74 = .ok (.if_icmp .ne 8, 3) := by decide +kernel
theorem dX12_compareOf_77 : decode cX12_compareOf 77 = .ok (.bipush 15, 2) := by decide +kernel
theorem dX12_compareOf_79 : decode cX12_compareOf 79 = .ok (.goto 4, 3) := by decide +kernel
theorem dX12_compareOf_82 : decode cX12_compareOf 82 = .ok (.iconst (-1), 1) := by decide +kernel
theorem dX12_compareOf_83 : decode cX12_compareOf 83 = .ok (.ireturn, 1) := by decide +kernel
set_option maxRecDepth 20000 in
theorem ggX12_ask_X12_w3 : GoodIn wsX12_ask wsX12_w3 := goodIn_r _ [5] (by decide +kernel) (by decide +kernel)
set_option maxRecDepth 20000 in
theorem gX12_ask_X12_w3 : GoodIn wsX12_ask (va_wsS RX12 168 yX12_w3 wsX12_w3) := goodIn_app (goodIn_of _ (by decide +kernel)) ggX12_ask_X12_w3
set_option maxRecDepth 20000 in
theorem ggX12_ask_X12_isWord : GoodIn wsX12_ask wsX12_isWord := goodIn_r _ [9, 10, 11, 95, 96, 97, 98, 99, 100, 101, 102, 103, 104, 105, 106, 107, 108, 109, 110, 111, 112, 113, 114, 115, 116, 117, 118, 119, 120, 121, 122, 123, 124, 125, 126, 127, 128, 129, 130, 131, 132, 133, 134, 135, 136, 137] (by decide +kernel) (by decide +kernel)
set_option maxRecDepth 20000 in
theorem gX12_ask_X12_isWord : GoodIn wsX12_ask (wsV RX12 217 RX12 yX12_isWord wsX12_isWord) := goodIn_app (goodIn_of _ (by decide +kernel)) ggX12_ask_X12_isWord
set_option maxRecDepth 20000 in
theorem ggX12_ask_X12_nextToken : GoodIn wsX12_ask wsX12_nextToken := goodIn_r _ [15, 16, 17, 10, 18, 19, 11, 20, 21, 22, 4, 23, 24, 25, 26, 27, 28, 29, 30, 31, 32, 33, 34, 95, 96, 97, 98, 99, 100, 101, 102, 103, 104, 105, 106, 107, 108, 109, 110, 111, 112, 113, 114, 115, 116, 117, 118, 119, 120, 121, 122, 123, 124, 125, 126, 127, 128, 129, 130, 131, 132, 133, 134, 135, 136, 137] (by decide +kernel) (by decide +kernel)
set_option maxRecDepth 20000 in
theorem gX12_ask_X12_nextToken : GoodIn wsX12_ask (wsV RX12 200 RX12 yX12_nextToken wsX12_nextToken) := goodIn_app (goodIn_of _ (by decide +kernel)) ggX12_ask_X12_nextToken
set_option maxRecDepth 20000 in
theorem ggX12_ask_X12_summed : GoodIn wsX12_ask wsX12_summed := goodIn_r _ [38, 39, 40, 41, 42, 43, 4, 44, 10, 45, 46, 47, 48, 49, 50, 51, 52, 53, 1, 54, 55, 56, 57, 58, 59, 60, 61, 62, 63, 64, 65, 66, 67, 68, 69, 70, 71, 72, 12, 13, 14, 15, 16, 17, 18, 19, 11, 20, 21, 22, 23, 24, 25, 26, 27, 28, 29, 30, 31, 32, 33, 34, 73, 74, 75, 76, 77, 78, 79, 80, 81, 82, 83, 84, 85, 86, 2, 3, 5, 6, 7, 8, 9, 87, 88, 89, 90, 95, 96, 97, 98, 99, 100, 101, 102, 103, 104, 105, 106, 107, 108, 109, 110, 111, 112, 113, 114, 115, 116, 117, 118, 119, 120, 121, 122, 123, 124, 125, 126, 127, 128, 129, 130, 131, 132, 133, 134, 135, 136, 137] (by decide +kernel) (by decide +kernel)
set_option maxRecDepth 20000 in
theorem gX12_ask_X12_summed : GoodIn wsX12_ask (wsV RX12 243 RX12 yX12_summed wsX12_summed) := goodIn_app (goodIn_of _ (by decide +kernel)) ggX12_ask_X12_summed
set_option maxRecDepth 20000 in
theorem ggX12_ask_X12_compareOf : GoodIn wsX12_ask wsX12_compareOf := goodIn_r _ [94, 10, 95, 96, 97, 98, 99, 100, 101, 102, 103, 104, 105, 106, 107, 108, 109, 110, 111, 112, 113, 114, 115, 116, 117, 118, 119, 120, 121, 122, 123, 124, 125, 126, 127, 128, 129, 130, 131, 132, 133, 134, 135, 136, 137] (by decide +kernel) (by decide +kernel)
set_option maxRecDepth 20000 in
theorem gX12_ask_X12_compareOf : GoodIn wsX12_ask (wsV RX12 246 RX12 yX12_compareOf wsX12_compareOf) := goodIn_app (goodIn_of _ (by decide +kernel)) ggX12_ask_X12_compareOf
set_option maxRecDepth 20000 in
theorem ggX12_ask_X12_emit : GoodIn wsX12_ask wsX12_emit := goodIn_r _ [61, 62, 63, 64, 95, 96, 97, 98, 99, 100, 101, 102, 103, 104, 105, 106, 107, 108, 109, 110, 111, 112, 113, 114, 115, 116, 117, 118, 119, 120, 121, 122, 123, 124, 125, 126, 127, 128, 129, 130, 131, 132, 133, 134, 135, 136, 137] (by decide +kernel) (by decide +kernel)
set_option maxRecDepth 20000 in
theorem gX12_ask_X12_emit : GoodIn wsX12_ask (wsV RX12 192 RX12 yX12_emit wsX12_emit) := goodIn_app (goodIn_of _ (by decide +kernel)) ggX12_ask_X12_emit
theorem dX12_ask_0 : decode cX12_ask 0 = .ok (.iconst 0, 1) := by decide +kernel
theorem dX12_ask_1 : decode cX12_ask 1 = .ok (.istore_n 1, 1) := by decide +kernel
theorem dX12_ask_2 : decode cX12_ask 2 = .ok (.aload_n 0, 1) := by decide +kernel
theorem dX12_ask_3 : decode cX12_ask 3 = .ok (.bipush 110, 2) := by decide +kernel
theorem dX12_ask_5 : decode cX12_ask 5 = .ok (.bipush 111, 2) := by decide +kernel
theorem dX12_ask_7 : decode cX12_ask 7 = .ok (.bipush 116, 2) := by decide +kernel
theorem dX12_ask_9 : decode cX12_ask 9 = .ok (.invokestatic 168, 3) := by decide +kernel
theorem dX12_ask_12 : decode cX12_ask 12 = .ok (.invokevirtual 217, 3) := by decide +kernel
theorem dX12_ask_15 : decode cX12_ask 15 = .ok (.ifCond .eq 34, 3) := by decide +kernel
theorem dX12_ask_18 : decode cX12_ask 18 = .ok (.aload_n 0, 1) := by decide +kernel
theorem dX12_ask_19 : decode cX12_ask 19 = .ok (.getfield 189, 3) := by decide +kernel
theorem dX12_ask_22 : decode cX12_ask 22 = .ok (.bipush 8, 2) := by decide +kernel
theorem dX12_ask_24 : decode cX12_ask 24 = .ok (.if_icmp .ne 5, 3) := by decide +kernel
theorem dX12_ask_27 : decode cX12_ask 27 = .ok (.iconst 3, 1) := by decide +kernel
theorem dX12_ask_28 : decode cX12_ask 28 = .ok (.ireturn, 1) := by decide +kernel
theorem dX12_ask_29 : decode cX12_ask 29 = .ok (.aload_n 0, 1) := by decide +kernel
theorem dX12_ask_30 : decode cX12_ask 30 = .ok (.dup, 1) := by decide +kernel
theorem dX12_ask_31 : decode cX12_ask 31 = .ok (.getfield 189, 3) := by decide +kernel
theorem dX12_ask_34 : decode cX12_ask 34 = .ok (.iconst 1, 1) := by decide +kernel
theorem dX12_ask_35 : decode cX12_ask 35 = .ok (.iadd, 1) := by decide +kernel
theorem dX12_ask_36 : decode cX12_ask 36 = .ok (.putfield 189, 3) := by decide +kernel
theorem dX12_ask_39 : decode cX12_ask 39 = .ok (.iinc 1 1, 3) := by decide +kernel
theorem dX12_ask_42 : decode cX12_ask 42 = .ok (.aload_n 0, 1) := by decide +kernel
theorem dX12_ask_43 : decode cX12_ask 43 = .ok (.invokevirtual 200, 3) := by decide +kernel
theorem dX12_ask_46 : decode cX12_ask 46 = .ok (.goto (-44), 3) := by decide +kernel
theorem dX12_ask_49 : decode cX12_ask 49 = .ok (.aload_n 0, 1) := by decide +kernel
theorem dX12_ask_50 : decode cX12_ask 50 = .ok (.invokevirtual 243, 3) := by decide +kernel
theorem dX12_ask_53 : decode cX12_ask 53 = .ok (.istore_n 2, 1) := by decide +kernel
theorem dX12_ask_54 : decode cX12_ask 54 = .ok (.iload_n 2, 1) := by decide +kernel
theorem dX12_ask_55 : decode cX12_ask 55 = .ok (.ifCond .eq 5, 3) := by decide +kernel
theorem dX12_ask_58 : decode cX12_ask 58 = .ok (.iload_n 2, 1) := by decide +kernel
theorem dX12_ask_59 : decode cX12_ask 59 = .ok (.ireturn, 1) := by decide +kernel
theorem dX12_ask_60 : decode cX12_ask 60 = .ok (.aload_n 0, 1) := by decide +kernel
theorem dX12_ask_61 : decode cX12_ask 61 = .ok (.invokevirtual 246, 3) := by decide +kernel
theorem dX12_ask_64 : decode cX12_ask 64 = .ok (.istore_n 3, 1) := by decide +kernel
theorem dX12_ask_65 : decode cX12_ask 65 = .ok (.iload_n 3, 1) := by decide +kernel
theorem dX12_ask_66 : decode cX12_ask 66 = .ok (.ifCond .ge 5, 3) := by decide +kernel
theorem dX12_ask_69 : decode cX12_ask 69 = .ok (.iconst 1, 1) := by decide +kernel
theorem dX12_ask_70 : decode cX12_ask 70 = .ok (.ireturn, 1) := by decide +kernel
theorem dX12_ask_71 : decode cX12_ask 71 = .ok (.aload_n 0, 1) := by decide +kernel
theorem dX12_ask_72 : decode cX12_ask 72 = .ok (.invokevirtual 200, 3) := by decide +kernel
theorem dX12_ask_75 : decode cX12_ask 75 = .ok (.aload_n 0, 1) := by decide +kernel
theorem dX12_ask_76 : decode cX12_ask 76 = .ok (.invokevirtual 243, 3) := by decide +kernel
theorem dX12_ask_79 : decode cX12_ask 79 = .ok (.istore_n 2, 1) := by decide +kernel
theorem dX12_ask_80 : decode cX12_ask 80 = .ok (.iload_n 2, 1) := by decide +kernel
theorem dX12_ask_81 : decode cX12_ask 81 = .ok (.ifCond .eq 5, 3) := by decide +kernel
theorem dX12_ask_84 : decode cX12_ask 84 = .ok (.iload_n 2, 1) := by decide +kernel
theorem dX12_ask_85 : decode cX12_ask 85 = .ok (.ireturn, 1) := by decide +kernel
theorem dX12_ask_86 : decode cX12_ask 86 = .ok (.aload_n 0, 1) := by decide +kernel
theorem dX12_ask_87 : decode cX12_ask 87 = .ok (.iload_n 3, 1) := by decide +kernel
theorem dX12_ask_88 : decode cX12_ask 88 = .ok (.iconst 0, 1) := by decide +kernel
theorem dX12_ask_89 : decode cX12_ask 89 = .ok (.invokevirtual 192, 3) := by decide +kernel
theorem dX12_ask_92 : decode cX12_ask 92 = .ok (.aload_n 0, 1) := by decide +kernel
theorem dX12_ask_93 : decode cX12_ask 93 = .ok (.dup, 1) := by decide +kernel
theorem dX12_ask_94 : decode cX12_ask 94 = .ok (.getfield 189, 3) := by decide +kernel
theorem dX12_ask_97 : decode cX12_ask 97 = .ok (.iload_n 1, 1) := by decide +kernel
theorem dX12_ask_98 : decode cX12_ask 98 = .ok (.isub, 1) := by decide +kernel
theorem dX12_ask_99 : decode cX12_ask 99 = .ok (.putfield 189, 3) := by decide +kernel
theorem dX12_ask_102 : decode cX12_ask 102 = .ok (.iconst 0, 1) := by decide +kernel
theorem dX12_ask_103 : decode cX12_ask 103 = .ok (.istore 4, 2) := by decide +kernel
theorem dX12_ask_105 : decode cX12_ask 105 = .ok (.iload 4, 2) := by decide +kernel
theorem dX12_ask_107 : decode cX12_ask 107 = .ok (.iload_n 1, 1) := by decide +kernel
theorem dX12_ask_108 : decode cX12_ask 108 = .ok (.if_icmp .ge 16, 3) := by decide +kernel
theorem dX12_ask_111 : decode cX12_ask 111 = .ok (.aload_n 0, 1) := by decide +kernel
theorem dX12_ask_112 : decode cX12_ask 112 = .ok (.bipush 20, 2) := by decide +kernel
theorem dX12_ask_114 : decode cX12_ask 114 = .ok (.iconst 0, 1) := by decide +kernel
theorem dX12_ask_115 : decode cX12_ask 115 = .ok (.invokevirtual 192, 3) := by decide +kernel
theorem dX12_ask_118 : decode cX12_ask 118 = .ok (.iinc 4 1, 3) := by decide +kernel
theorem dX12_ask_121 : decode cX12_ask 121 = .ok (.goto (-16), 3) := by decide +kernel
theorem dX12_ask_124 : decode cX12_ask 124 = .ok (.iconst 0, 1) := by decide +kernel
theorem dX12_ask_125 : decode cX12_ask 125 = .ok (.ireturn, 1) := by decide +kernel
set_option maxRecDepth 20000 in
theorem ggX12_either_X12_ask : GoodIn wsX12_either wsX12_ask := goodIn_r _ [8, 9, 10, 11, 7, 12, 13, 14, 15, 16, 1, 2, 17, 18, 19, 20, 21, 22, 23, 24, 25, 26, 27, 28, 29, 30, 31, 32, 33, 34, 35, 36, 37, 38, 39, 40, 41, 42, 43, 44, 45, 46, 47, 48, 49, 50, 51, 52, 53, 54, 55, 56, 57, 58, 59, 60, 61, 62, 63, 64, 65, 66, 67, 68, 69, 70, 71, 72, 73, 74, 75, 76, 77, 78, 79, 80, 81, 82, 83, 84, 85, 86, 87, 88, 89, 90, 91, 92, 93, 94, 95, 96, 97, 98, 99, 100, 101, 102, 103, 104, 105, 106, 107, 108, 109, 110, 111, 112, 113, 114, 115, 116, 117, 118, 119, 120, 121, 122, 123, 124, 125, 126, 127, 128, 129, 130, 131, 132, 133, 134, 135, 136, 137, 138, 139, 140, 141, 142] (by decide +kernel) (by decide +kernel)
set_option maxRecDepth 20000 in
theorem gX12_either_X12_ask : GoodIn wsX12_either (wsV RX12 249 RX12 yX12_ask wsX12_ask) := goodIn_app (goodIn_of _ (by decide +kernel)) ggX12_either_X12_ask
set_option maxRecDepth 20000 in
theorem ggX12_either_X12_emit : GoodIn wsX12_either wsX12_emit := goodIn_r _ [66, 67, 68, 69, 100, 101, 102, 103, 104, 105, 106, 107, 108, 109, 110, 111, 112, 113, 114, 115, 116, 117, 118, 119, 120, 121, 122, 123, 124, 125, 126, 127, 128, 129, 130, 131, 132, 133, 134, 135, 136, 137, 138, 139, 140, 141, 142] (by decide +kernel) (by decide +kernel)
set_option maxRecDepth 20000 in
theorem gX12_either_X12_emit : GoodIn wsX12_either (wsV RX12 192 RX12 yX12_emit wsX12_emit) := goodIn_app (goodIn_of _ (by decide +kernel)) ggX12_either_X12_emit
set_option maxRecDepth 20000 in
theorem ggX12_either_X12_w3 : GoodIn wsX12_either wsX12_w3 := goodIn_r _ [12] (by decide +kernel) (by decide +kernel)
set_option maxRecDepth 20000 in
theorem gX12_either_X12_w3 : GoodIn wsX12_either (va_wsS RX12 168 yX12_w3 wsX12_w3) := goodIn_app (goodIn_of _ (by decide +kernel)) ggX12_either_X12_w3
set_option maxRecDepth 20000 in
theorem ggX12_either_X12_isWord : GoodIn wsX12_either wsX12_isWord := goodIn_r _ [16, 1, 2, 100, 101, 102, 103, 104, 105, 106, 107, 108, 109, 110, 111, 112, 113, 114, 115, 116, 117, 118, 119, 120, 121, 122, 123, 124, 125, 126, 127, 128, 129, 130, 131, 132, 133, 134, 135, 136, 137, 138, 139, 140, 141, 142] (by decide +kernel) (by decide +kernel)
set_option maxRecDepth 20000 in
theorem gX12_either_X12_isWord : GoodIn wsX12_either (wsV RX12 217 RX12 yX12_isWord wsX12_isWord) := goodIn_app (goodIn_of _ (by decide +kernel)) ggX12_either_X12_isWord
set_option maxRecDepth 20000 in
theorem ggX12_either_X12_nextToken : GoodIn wsX12_either wsX12_nextToken := goodIn_r _ [20, 21, 22, 1, 23, 24, 2, 25, 26, 27, 7, 28, 29, 30, 31, 32, 33, 34, 35, 36, 37, 38, 39, 100, 101, 102, 103, 104, 105, 106, 107, 108, 109, 110, 111, 112, 113, 114, 115, 116, 117, 118, 119, 120, 121, 122, 123, 124, 125, 126, 127, 128, 129, 130, 131, 132, 133, 134, 135, 136, 137, 138, 139, 140, 141, 142] (by decide +kernel) (by decide +kernel)
set_option maxRecDepth 20000 in
theorem gX12_either_X12_nextToken : GoodIn wsX12_either (wsV RX12 200 RX12 yX12_nextToken wsX12_nextToken) := goodIn_app (goodIn_of _ (by decide +kernel)) ggX12_either_X12_nextToken
theorem dX12_either_0 : decode cX12_either 0 = .ok (.iconst 0, 1) := by decide +kernel
theorem dX12_either_1 : decode cX12_either 1 = .ok (.istore_n 1, 1) := by decide +kernel
theorem dX12_either_2 : decode cX12_either 2 = .ok (.iconst 0, 1) := by decide +kernel
theorem dX12_either_3 : decode cX12_either 3 = .ok (.istore_n 2, 1) := by decide +kernel
theorem dX12_either_4 : decode cX12_either 4 = .ok (.iconst 1, 1) := by decide +kernel
theorem dX12_either_5 : decode cX12_either 5 = .ok (.istore_n 3, 1) := by decide +kernel
theorem dX12_either_6 : decode cX12_either 6 = .ok (.iload_n 3, 1) := by decide +kernel
theorem dX12_either_7 : decode cX12_either 7 = .ok (.ifCond .eq 112, 3) := by decide +kernel
theorem dX12_either_10 : decode cX12_either 10 = .ok (.aload_n 0, 1) := by decide +kernel
theorem dX12_either_11 : decode cX12_either 11 = .ok (.invokevirtual 249, 3) := by decide +kernel
theorem dX12_either_14 : decode cX12_either 14 = .ok (.istore 4, 2) := by decide +kernel
theorem dX12_either_16 : decode cX12_either 16 = .ok (.iload 4, 2) := by decide +kernel
theorem dX12_either_18 : decode cX12_either 18 = .ok (.ifCond .eq 6, 3) := by decide +kernel
theorem dX12_either_21 : decode cX12_either 21 = .ok (.iload 4, 2) := by decide +kernel
theorem dX12_either_23 : decode cX12_either 23 = .ok (.ireturn, 1) := by decide +kernel
theorem dX12_either_24 : decode cX12_either 24 = .ok (.iload_n 1, 1) := by decide +kernel
theorem dX12_either_25 : decode cX12_either 25 = .ok (.ifCond .eq 10, 3) := by decide +kernel
theorem dX12_either_28 : decode cX12_either 28 = .ok (.aload_n 0, 1) := by decide +kernel
theorem dX12_either_29 : decode cX12_either 29 = .ok (.bipush 21, 2) := by decide +kernel
theorem dX12_either_31 : decode cX12_either 31 = .ok (.iconst 0, 1) := by decide +kernel
theorem dX12_either_32 : decode cX12_either 32 = .ok (.invokevirtual 192, 3) := by decide +kernel
theorem dX12_either_35 : decode cX12_either 35 = .ok (.aload_n 0, 1) := by decide +kernel
theorem dX12_either_36 : decode cX12_either 36 = .ok (.bipush 97, 2) := by decide +kernel
theorem dX12_either_38 : decode cX12_either 38 = .ok (.bipush 110, 2) := by decide +kernel
theorem dX12_either_40 : decode cX12_either 40 = .ok (.bipush 100, 2) := by decide +kernel
theorem dX12_either_42 : decode cX12_either 42 = .ok (.invokestatic 168, 3) := by decide +kernel
theorem dX12_either_45 : decode cX12_either 45 = .ok (.invokevirtual 217, 3) := by decide +kernel
theorem dX12_either_48 : decode cX12_either 48 = .ok (.istore_n 1, 1) := by decide +kernel
theorem dX12_either_49 : decode cX12_either 49 = .ok (.aload_n 0, 1) := by decide +kernel
theorem dX12_either_50 : decode cX12_either 50 = .ok (.getfield 151, 3) := by decide +kernel
theorem dX12_either_53 : decode cX12_either 53 = .ok (.iconst 2, 1) := by decide +kernel
theorem dX12_either_54 : decode cX12_either 54 = .ok (.if_icmp .ne 18, 3) := by decide +kernel
theorem dX12_either_57 : decode cX12_either 57 = .ok (.aload_n 0, 1) := by decide +kernel
theorem dX12_either_58 : decode cX12_either 58 = .ok (.getfield 164, 3) := by decide +kernel
theorem dX12_either_61 : decode cX12_either 61 = .ok (.ldc2_w 252, 3) := by decide +kernel
theorem dX12_either_64 : decode cX12_either 64 = .ok (.lcmp, 1) := by decide +kernel
theorem dX12_either_65 : decode cX12_either 65 = .ok (.ifCond .ne 7, 3) := by decide +kernel
theorem dX12_either_68 : decode cX12_either 68 = .ok (.iconst 1, 1) := by decide +kernel
theorem dX12_either_69 : decode cX12_either 69 = .ok (.goto 4, 3) := by decide +kernel
theorem dX12_either_72 : decode cX12_either 72 = .ok (.iconst 0, 1) := by decide +kernel
theorem dX12_either_73 : decode cX12_either 73 = .ok (.istore 5, 2) := by decide +kernel
theorem dX12_either_75 : decode cX12_either 75 = .ok (.iload_n 1, 1) := by decide +kernel
theorem dX12_either_76 : decode cX12_either 76 = .ok (.ifCond .ne 17, 3) := by decide +kernel
theorem dX12_either_79 : decode cX12_either 79 = .ok (.iload_n 2, 1) := by decide +kernel
theorem dX12_either_80 : decode cX12_either 80 = .ok (.ifCond .eq 10, 3) := by decide +kernel
theorem dX12_either_83 : decode cX12_either 83 = .ok (.aload_n 0, 1) := by decide +kernel
theorem dX12_either_84 : decode cX12_either 84 = .ok (.bipush 22, 2) := by decide +kernel
theorem dX12_either_86 : decode cX12_either 86 = .ok (.iconst 0, 1) := by decide +kernel
theorem dX12_either_87 : decode cX12_either 87 = .ok (.invokevirtual 192, 3) := by decide +kernel
theorem dX12_either_90 : decode cX12_either 90 = .ok (.iload 5, 2) := by decide +kernel
theorem dX12_either_92 : decode cX12_either 92 = .ok (.istore_n 2, 1) := by decide +kernel
theorem dX12_either_93 : decode cX12_either 93 = .ok (.iload_n 1, 1) := by decide +kernel
theorem dX12_either_94 : decode cX12_either 94 = .ok (.ifCond .ne 8, 3) := by decide +kernel
theorem dX12_either_97 : decode cX12_either 97 = .ok (.iload 5, 2) := by decide +kernel
theorem dX12_either_99 : decode cX12_either 99 = .ok (.ifCond .eq 7, 3) := by decide +kernel
theorem dX12_either_102 : decode cX12_either 102 = .ok (.iconst 1, 1) := by decide +kernel
theorem dX12_either_103 : decode cX12_either 103 = .ok (.goto 4, 3) := by decide +kernel
theorem dX12_either_106 : decode cX12_either 106 = .ok (.iconst 0, 1) := by decide +kernel
theorem dX12_either_107 : decode cX12_either 107 = .ok (.istore_n 3, 1) := by decide +kernel
theorem dX12_either_108 : decode cX12_either 108 = .ok (.iload_n 3, 1) := by decide +kernel
theorem dX12_either_109 : decode cX12_either 109 = .ok (.ifCond .eq 7, 3) := by decide +kernel
theorem dX12_either_112 : decode cX12_either 112 = .ok (.aload_n 0, 1) := by decide +kernel
theorem dX12_either_113 : decode cX12_either 113 = .ok (.invokevirtual 200, 3) := by decide +kernel
theorem dX12_either_116 : decode cX12_either 116 = .ok (.goto (-110), 3) := by decide +kernel
theorem dX12_either_119 : decode cX12_either 119 = .ok (.iconst 0, 1) := by decide +kernel
theorem dX12_either_120 : decode cX12_either 120 = .ok (.ireturn, 1) := by decide +kernel
set_option maxRecDepth 20000 in
theorem ggX12_sortOf_X12_w3 : GoodIn wsX12_sortOf wsX12_w3 := goodIn_r _ [7] (by decide +kernel) (by decide +kernel)
set_option maxRecDepth 20000 in
theorem gX12_sortOf_X12_w3 : GoodIn wsX12_sortOf (va_wsS RX12 168 yX12_w3 wsX12_w3) := goodIn_app (goodIn_of _ (by decide +kernel)) ggX12_sortOf_X12_w3
set_option maxRecDepth 20000 in
theorem ggX12_sortOf_X12_w4 : GoodIn wsX12_sortOf wsX12_w4 := goodIn_r _ [10, 4, 5, 6, 7] (by decide +kernel) (by decide +kernel)
set_option maxRecDepth 20000 in
theorem gX12_sortOf_X12_w4 : GoodIn wsX12_sortOf (va_wsS RX12 213 yX12_w4 wsX12_w4) := goodIn_app (goodIn_of _ (by decide +kernel)) ggX12_sortOf_X12_w4
theorem dX12_sortOf_0 : decode cX12_sortOf 0 = .ok (.aload_n 0, 1) := by decide +kernel
theorem dX12_sortOf_1 : decode cX12_sortOf 1 = .ok (.getfield 151, 3) := by decide +kernel
theorem dX12_sortOf_4 : decode cX12_sortOf 4 = .ok (.iconst 2, 1) := by decide +kernel
theorem dX12_sortOf_5 : decode cX12_sortOf 5 = .ok (.if_icmp .eq 5, 3) := by decide +kernel
theorem dX12_sortOf_8 : decode cX12_sortOf 8 = .ok (.iconst 0, 1) := by decide +kernel
theorem dX12_sortOf_9 : decode cX12_sortOf 9 = .ok (.ireturn, 1) := by decide +kernel
theorem dX12_sortOf_10 : decode cX12_sortOf 10 = .ok (.aload_n 0, 1) := by decide +kernel
theorem dX12_sortOf_11 : decode cX12_sortOf 11 = .ok (.getfield 164, 3) := by decide +kernel
theorem dX12_sortOf_14 : decode cX12_sortOf 14 = .ok (.bipush 108, 2) := by decide +kernel
theorem dX12_sortOf_16 : decode cX12_sortOf 16 = .ok (.bipush 101, 2) := by decide +kernel
theorem dX12_sortOf_18 : decode cX12_sortOf 18 = .ok (.bipush 116, 2) := by decide +kernel
theorem dX12_sortOf_20 : decode cX12_sortOf 20 = .ok (.invokestatic 168, 3) := by decide +kernel
theorem dX12_sortOf_23 : decode cX12_sortOf 23 = .ok (.lcmp, 1) := by decide +kernel
theorem dX12_sortOf_24 : decode cX12_sortOf 24 = .ok (.ifCond .ne 5, 3) := by decide +kernel
theorem dX12_sortOf_27 : decode cX12_sortOf 27 = .ok (.iconst 1, 1) := by decide +kernel
theorem dX12_sortOf_28 : decode cX12_sortOf 28 = .ok (.ireturn, 1) := by decide +kernel
theorem dX12_sortOf_29 : decode cX12_sortOf 29 = .ok (.aload_n 0, 1) := by decide +kernel
theorem dX12_sortOf_30 : decode cX12_sortOf 30 = .ok (.getfield 164, 3) := by decide +kernel
theorem dX12_sortOf_33 : decode cX12_sortOf 33 = .ok (.bipush 116, 2) := by decide +kernel
theorem dX12_sortOf_35 : decode cX12_sortOf 35 = .ok (.bipush 117, 2) := by decide +kernel
theorem dX12_sortOf_37 : decode cX12_sortOf 37 = .ok (.bipush 114, 2) := by decide +kernel
theorem dX12_sortOf_39 : decode cX12_sortOf 39 = .ok (.bipush 110, 2) := by decide +kernel
theorem dX12_sortOf_41 : decode cX12_sortOf 41 = .ok (.invokestatic 213, 3) := by decide +kernel
theorem dX12_sortOf_44 : decode cX12_sortOf 44 = .ok (.lcmp, 1) := by decide +kernel
theorem dX12_sortOf_45 : decode cX12_sortOf 45 = .ok (.ifCond .ne 5, 3) := by decide +kernel
theorem dX12_sortOf_48 : decode cX12_sortOf 48 = .ok (.iconst 2, 1) := by decide +kernel
theorem dX12_sortOf_49 : decode cX12_sortOf 49 = .ok (.ireturn, 1) := by decide +kernel
theorem dX12_sortOf_50 : decode cX12_sortOf 50 = .ok (.aload_n 0, 1) := by decide +kernel
theorem dX12_sortOf_51 : decode cX12_sortOf 51 = .ok (.getfield 164, 3) := by decide +kernel
theorem dX12_sortOf_54 : decode cX12_sortOf 54 = .ok (.ldc2_w 254, 3) := by decide +kernel
theorem dX12_sortOf_57 : decode cX12_sortOf 57 = .ok (.lcmp, 1) := by decide +kernel
theorem dX12_sortOf_58 : decode cX12_sortOf 58 = .ok (.ifCond .ne 7, 3) := by decide +kernel
theorem dX12_sortOf_61 : decode cX12_sortOf 61 = .ok (.iconst 3, 1) := by decide +kernel
theorem dX12_sortOf_62 : decode cX12_sortOf 62 = .ok (.goto 27, 3) := by decide +kernel
theorem dX12_sortOf_65 : decode cX12_sortOf 65 = .ok (.aload_n 0, 1) := by decide +kernel
theorem dX12_sortOf_66 : decode cX12_sortOf 66 = .ok (.getfield 164, 3) := by decide +kernel
theorem dX12_sortOf_69 : decode cX12_sortOf 69 = .ok (.bipush 114, 2) := by decide +kernel
theorem dX12_sortOf_71 : decode cX12_sortOf 71 = .ok (.bipush 101, 2) := by decide +kernel
theorem dX12_sortOf_73 : decode cX12_sortOf 73 = .ok (.bipush 115, 2) := by decide +kernel
theorem dX12_sortOf_75 : decode cX12_sortOf 75 = .ok (.bipush 116, 2) := by decide +kernel
theorem dX12_sortOf_77 : decode cX12_sortOf 77 = .ok (.invokestatic 213, 3) := by decide +kernel
theorem dX12_sortOf_80 : decode cX12_sortOf 80 = .ok (.lcmp, 1) := by decide +kernel
theorem dX12_sortOf_81 : decode cX12_sortOf 81 = .ok (.ifCond .ne 7, 3) := by decide +kernel
theorem dX12_sortOf_84 : decode cX12_sortOf 84 = .ok (.iconst 4, 1) := by decide +kernel
theorem dX12_sortOf_85 : decode cX12_sortOf 85 = .ok (.goto 4, 3) := by decide +kernel
theorem dX12_sortOf_88 : decode cX12_sortOf 88 = .ok (.iconst 0, 1) := by decide +kernel
theorem dX12_sortOf_89 : decode cX12_sortOf 89 = .ok (.ireturn, 1) := by decide +kernel
set_option maxRecDepth 20000 in
theorem ggX12_clause_X12_sortOf : GoodIn wsX12_clause wsX12_sortOf := goodIn_r _ [12, 7, 13, 14, 15, 16, 11, 17, 18, 19, 20, 111, 112, 113, 114, 115, 116, 117, 118, 119, 120, 121, 122, 123, 124, 125, 126, 127, 128, 129, 130, 131, 132, 133, 134, 135, 136, 137, 138, 139, 140, 141, 142, 143, 144, 145, 146, 147, 148, 149, 150, 151, 152, 153] (by decide +kernel) (by decide +kernel)
set_option maxRecDepth 20000 in
theorem gX12_clause_X12_sortOf : GoodIn wsX12_clause (wsV RX12 256 RX12 yX12_sortOf wsX12_sortOf) := goodIn_app (goodIn_of _ (by decide +kernel)) ggX12_clause_X12_sortOf
set_option maxRecDepth 20000 in
theorem ggX12_clause_X12_nextToken : GoodIn wsX12_clause wsX12_nextToken := goodIn_r _ [24, 25, 26, 7, 27, 28, 13, 29, 30, 31, 11, 32, 33, 34, 35, 36, 37, 38, 39, 40, 41, 42, 43, 111, 112, 113, 114, 115, 116, 117, 118, 119, 120, 121, 122, 123, 124, 125, 126, 127, 128, 129, 130, 131, 132, 133, 134, 135, 136, 137, 138, 139, 140, 141, 142, 143, 144, 145, 146, 147, 148, 149, 150, 151, 152, 153] (by decide +kernel) (by decide +kernel)
set_option maxRecDepth 20000 in
theorem gX12_clause_X12_nextToken : GoodIn wsX12_clause (wsV RX12 200 RX12 yX12_nextToken wsX12_nextToken) := goodIn_app (goodIn_of _ (by decide +kernel)) ggX12_clause_X12_nextToken
set_option maxRecDepth 20000 in
theorem ggX12_clause_X12_letterOf : GoodIn wsX12_clause wsX12_letterOf := goodIn_r _ [47, 7, 13, 48, 49, 111, 112, 113, 114, 115, 116, 117, 118, 119, 120, 121, 122, 123, 124, 125, 126, 127, 128, 129, 130, 131, 132, 133, 134, 135, 136, 137, 138, 139, 140, 141, 142, 143, 144, 145, 146, 147, 148, 149, 150, 151, 152, 153] (by decide +kernel) (by decide +kernel)
set_option maxRecDepth 20000 in
theorem gX12_clause_X12_letterOf : GoodIn wsX12_clause (wsV RX12 206 RX12 yX12_letterOf wsX12_letterOf) := goodIn_app (goodIn_of _ (by decide +kernel)) ggX12_clause_X12_letterOf
set_option maxRecDepth 20000 in
theorem ggX12_clause_X12_either : GoodIn wsX12_clause wsX12_either := goodIn_r _ [53, 7, 13, 54, 55, 56, 57, 11, 58, 59, 15, 16, 17, 60, 61, 62, 63, 21, 22, 23, 24, 25, 26, 27, 28, 29, 30, 31, 32, 33, 34, 35, 36, 37, 38, 39, 40, 41, 42, 43, 64, 65, 66, 67, 68, 69, 70, 71, 72, 73, 74, 75, 76, 77, 78, 79, 80, 81, 82, 83, 84, 85, 86, 87, 88, 89, 90, 4, 3, 5, 91, 92, 93, 94, 95, 96, 97, 98, 99, 100, 101, 102, 6, 44, 45, 46, 47, 48, 49, 18, 19, 20, 103, 104, 105, 106, 107, 108, 109, 110, 111, 112, 113, 114, 115, 116, 117, 118, 119, 120, 121, 122, 123, 124, 125, 126, 127, 128, 129, 130, 131, 132, 133, 134, 135, 136, 137, 138, 139, 140, 141, 142, 143, 144, 145, 146, 147, 148, 149, 150, 151, 152, 153] (by decide +kernel) (by decide +kernel)
set_option maxRecDepth 20000 in
theorem gX12_clause_X12_either : GoodIn wsX12_clause (wsV RX12 265 RX12 yX12_either wsX12_either) := goodIn_app (goodIn_of _ (by decide +kernel)) ggX12_clause_X12_either
set_option maxRecDepth 20000 in
theorem ggX12_clause_X12_summed : GoodIn wsX12_clause wsX12_summed := goodIn_r _ [67, 68, 69, 70, 71, 72, 11, 73, 7, 74, 75, 76, 77, 78, 79, 80, 81, 82, 59, 83, 84, 85, 86, 87, 88, 89, 90, 4, 3, 5, 91, 92, 93, 94, 95, 96, 97, 98, 21, 22, 23, 24, 25, 26, 27, 28, 13, 29, 30, 31, 32, 33, 34, 35, 36, 37, 38, 39, 40, 41, 42, 43, 99, 100, 101, 102, 6, 44, 45, 46, 47, 48, 49, 18, 19, 20, 15, 16, 17, 60, 61, 62, 63, 103, 104, 105, 106, 111, 112, 113, 114, 115, 116, 117, 118, 119, 120, 121, 122, 123, 124, 125, 126, 127, 128, 129, 130, 131, 132, 133, 134, 135, 136, 137, 138, 139, 140, 141, 142, 143, 144, 145, 146, 147, 148, 149, 150, 151, 152, 153] (by decide +kernel) (by decide +kernel)
set_option maxRecDepth 20000 in
theorem gX12_clause_X12_summed : GoodIn wsX12_clause (wsV RX12 243 RX12 yX12_summed wsX12_summed) := goodIn_app (goodIn_of _ (by decide +kernel)) ggX12_clause_X12_summed
theorem dX12_clause_0 : decode cX12_clause 0 = .ok (.aload_n 0, 1) := by decide +kernel
theorem dX12_clause_1 : decode cX12_clause 1 = .ok (.invokevirtual 256, 3) := by decide +kernel
theorem dX12_clause_4 : decode cX12_clause 4 = .ok (.istore_n 1, 1) := by decide +kernel
theorem dX12_clause_5 : decode cX12_clause 5 = .ok (.iload_n 1, 1) := by decide +kernel
theorem dX12_clause_6 : decode cX12_clause 6 = .ok (.ifCond .ne 5, 3) := by decide +kernel
theorem dX12_clause_9 : decode cX12_clause 9 = .ok (.iconst 1, 1) := by decide +kernel
theorem dX12_clause_10 : decode cX12_clause 10 = .ok (.ireturn, 1) := by decide +kernel
theorem dX12_clause_11 : decode cX12_clause 11 = .ok (.iload_n 1, 1) := by decide +kernel
theorem dX12_clause_12 : decode cX12_clause 12 = .ok (.iconst 1, 1) := by decide +kernel
theorem dX12_clause_13 : decode cX12_clause 13 = .ok (.if_icmp .eq 17, 3) := by decide +kernel
theorem dX12_clause_16 : decode cX12_clause 16 = .ok (.aload_n 0, 1) := by decide +kernel
theorem dX12_clause_17 : decode cX12_clause 17 = .ok (.getfield 259, 3) := by decide +kernel
theorem dX12_clause_20 : decode cX12_clause 20 = .ok (.iload_n 1, 1) := by decide +kernel
theorem dX12_clause_21 : decode cX12_clause 21 = .ok (.ishr, 1) := by decide +kernel
theorem dX12_clause_22 : decode cX12_clause 22 = .ok (.iconst 1, 1) := by decide +kernel
theorem dX12_clause_23 : decode cX12_clause 23 = .ok (.iand, 1) := by decide +kernel
theorem dX12_clause_24 : decode cX12_clause 24 = .ok (.iconst 1, 1) := by decide +kernel
theorem dX12_clause_25 : decode cX12_clause 25 = .ok (.if_icmp .ne 5, 3) := by decide +kernel
theorem dX12_clause_28 : decode cX12_clause 28 = .ok (.iconst 4, 1) := by decide +kernel
theorem dX12_clause_29 : decode cX12_clause 29 = .ok (.ireturn, 1) := by decide +kernel
theorem dX12_clause_30 : decode cX12_clause 30 = .ok (.aload_n 0, 1) := by decide +kernel
theorem dX12_clause_31 : decode cX12_clause 31 = .ok (.getfield 262, 3) := by decide +kernel
theorem dX12_clause_34 : decode cX12_clause 34 = .ok (.bipush 10, 2) := by decide +kernel
theorem dX12_clause_36 : decode cX12_clause 36 = .ok (.if_icmp .ne 6, 3) := by decide +kernel
theorem dX12_clause_39 : decode cX12_clause 39 = .ok (.bipush 6, 2) := by decide +kernel
theorem dX12_clause_41 : decode cX12_clause 41 = .ok (.ireturn, 1) := by decide +kernel
theorem dX12_clause_42 : decode cX12_clause 42 = .ok (.aload_n 0, 1) := by decide +kernel
theorem dX12_clause_43 : decode cX12_clause 43 = .ok (.dup, 1) := by decide +kernel
theorem dX12_clause_44 : decode cX12_clause 44 = .ok (.getfield 259, 3) := by decide +kernel
theorem dX12_clause_47 : decode cX12_clause 47 = .ok (.iconst 1, 1) := by decide +kernel
theorem dX12_clause_48 : decode cX12_clause 48 = .ok (.iload_n 1, 1) := by decide +kernel
theorem dX12_clause_49 : decode cX12_clause 49 = .ok (.ishl, 1) := by decide +kernel
theorem dX12_clause_50 : decode cX12_clause 50 = .ok (.ior, 1) := by decide +kernel
theorem dX12_clause_51 : decode cX12_clause 51 = .ok (.putfield 259, 3) := by decide +kernel
theorem dX12_clause_54 : decode cX12_clause 54 = .ok (.aload_n 0, 1) := by decide +kernel
theorem dX12_clause_55 : decode cX12_clause 55 = .ok (.getfield 176, 3) := by decide +kernel
theorem dX12_clause_58 : decode cX12_clause 58 = .ok (.iconst 1, 1) := by decide +kernel
theorem dX12_clause_59 : decode cX12_clause 59 = .ok (.iadd, 1) := by decide +kernel
theorem dX12_clause_60 : decode cX12_clause 60 = .ok (.iconst 4, 1) := by decide +kernel
theorem dX12_clause_61 : decode cX12_clause 61 = .ok (.aload_n 0, 1) := by decide +kernel
theorem dX12_clause_62 : decode cX12_clause 62 = .ok (.getfield 262, 3) := by decide +kernel
theorem dX12_clause_65 : decode cX12_clause 65 = .ok (.imul, 1) := by decide +kernel
theorem dX12_clause_66 : decode cX12_clause 66 = .ok (.iadd, 1) := by decide +kernel
theorem dX12_clause_67 : decode cX12_clause 67 = .ok (.istore_n 2, 1) := by decide +kernel
theorem dX12_clause_68 : decode cX12_clause 68 = .ok (.aload_n 0, 1) := by decide +kernel
theorem dX12_clause_69 : decode cX12_clause 69 = .ok (.getfield 16, 3) := by decide +kernel
theorem dX12_clause_72 : decode cX12_clause 72 = .ok (.iload_n 2, 1) := by decide +kernel
theorem dX12_clause_73 : decode cX12_clause 73 = .ok (.iload_n 1, 1) := by decide +kernel
theorem dX12_clause_74 : decode cX12_clause 74 = .ok (.iastore, 1) := by decide +kernel
theorem dX12_clause_75 : decode cX12_clause 75 = .ok (.aload_n 0, 1) := by decide +kernel
theorem dX12_clause_76 : decode cX12_clause 76 = .ok (.getfield 16, 3) := by decide +kernel
theorem dX12_clause_79 : decode cX12_clause 79 = .ok (.iload_n 2, 1) := by decide +kernel
theorem dX12_clause_80 : decode cX12_clause 80 = .ok (.iconst 2, 1) := by decide +kernel
theorem dX12_clause_81 : decode cX12_clause 81 = .ok (.iadd, 1) := by decide +kernel
theorem dX12_clause_82 : decode cX12_clause 82 = .ok (.aload_n 0, 1) := by decide +kernel
theorem dX12_clause_83 : decode cX12_clause 83 = .ok (.getfield 179, 3) := by decide +kernel
theorem dX12_clause_86 : decode cX12_clause 86 = .ok (.iastore, 1) := by decide +kernel
theorem dX12_clause_87 : decode cX12_clause 87 = .ok (.aload_n 0, 1) := by decide +kernel
theorem dX12_clause_88 : decode cX12_clause 88 = .ok (.invokevirtual 200, 3) := by decide +kernel
theorem dX12_clause_91 : decode cX12_clause 91 = .ok (.iconst 0, 1) := by decide +kernel
theorem dX12_clause_92 : decode cX12_clause 92 = .ok (.istore_n 3, 1) := by decide +kernel
theorem dX12_clause_93 : decode cX12_clause 93 = .ok (.iload_n 1, 1) := by decide +kernel
theorem dX12_clause_94 : decode cX12_clause 94 = .ok (.iconst 1, 1) := by decide +kernel
theorem dX12_clause_95 : decode cX12_clause 95 = .ok (.if_icmp .ne 50, 3) := by decide +kernel
theorem dX12_clause_98 : decode cX12_clause 98 = .ok (.aload_n 0, 1) := by decide +kernel
theorem dX12_clause_99 : decode cX12_clause 99 = .ok (.invokevirtual 206, 3) := by decide +kernel
theorem dX12_clause_102 : decode cX12_clause 102 = .ok (.istore 4, 2) := by decide +kernel
theorem dX12_clause_104 : decode cX12_clause 104 = .ok (.iload 4, 2) := by decide +kernel
theorem dX12_clause_106 : decode cX12_clause 106 = .ok (.ifCond .ge 5, 3) := by decide +kernel
theorem dX12_clause_109 : decode cX12_clause 109 = .ok (.iconst 1, 1) := by decide +kernel
theorem dX12_clause_110 : decode cX12_clause 110 = .ok (.ireturn, 1) := by decide +kernel
theorem dX12_clause_111 : decode cX12_clause 111 = .ok (.aload_n 0, 1) := by decide +kernel
theorem dX12_clause_112 : decode cX12_clause 112 = .ok (.getfield 210, 3) := by decide +kernel
theorem dX12_clause_115 : decode cX12_clause 115 = .ok (.iload 4, 2) := by decide +kernel
theorem dX12_clause_117 : decode cX12_clause 117 = .ok (.ishr, 1) := by decide +kernel
theorem dX12_clause_118 : decode cX12_clause 118 = .ok (.iconst 1, 1) := by decide +kernel
theorem dX12_clause_119 : decode cX12_clause 119 = .ok (.iand, 1) := by decide +kernel
theorem dX12_clause_120 : decode cX12_clause 120 = .ok (.iconst 1, 1) := by decide +kernel
theorem dX12_clause_121 : decode cX12_clause 121 = .ok (.if_icmp .ne 5, 3) := by decide +kernel
theorem dX12_clause_124 : decode cX12_clause 124 = .ok (.iconst 4, 1) := by decide +kernel
theorem dX12_clause_125 : decode cX12_clause 125 = .ok (.ireturn, 1) := by decide +kernel
theorem dX12_clause_126 : decode cX12_clause 126 = .ok (.aload_n 0, 1) := by decide +kernel
theorem dX12_clause_127 : decode cX12_clause 127 = .ok (.getfield 16, 3) := by decide +kernel
theorem dX12_clause_130 : decode cX12_clause 130 = .ok (.iload_n 2, 1) := by decide +kernel
theorem dX12_clause_131 : decode cX12_clause 131 = .ok (.iconst 1, 1) := by decide +kernel
theorem dX12_clause_132 : decode cX12_clause 132 = .ok (.iadd, 1) := by decide +kernel
theorem dX12_clause_133 : decode cX12_clause 133 = .ok (.iload 4, 2) := by decide +kernel
theorem dX12_clause_135 : decode cX12_clause 135 = .ok (.iastore, 1) := by decide +kernel
theorem dX12_clause_136 : decode cX12_clause 136 = .ok (.iconst 1, 1) := by decide +kernel
theorem dX12_clause_137 : decode cX12_clause 137 = .ok (.iload 4, 2) := by decide +kernel
theorem dX12_clause_139 : decode cX12_clause 139 = .ok (.ishl, 1) := by decide +kernel
theorem dX12_clause_140 : decode cX12_clause 140 = .ok (.istore_n 3, 1) := by decide +kernel
theorem dX12_clause_141 : decode cX12_clause 141 = .ok (.aload_n 0, 1) := by decide +kernel
theorem dX12_clause_142 : decode cX12_clause 142 = .ok (.invokevirtual 200, 3) := by decide +kernel
theorem dX12_clause_145 : decode cX12_clause 145 = .ok (.iload_n 1, 1) := by decide +kernel
theorem dX12_clause_146 : decode cX12_clause 146 = .ok (.iconst 4, 1) := by decide +kernel
theorem dX12_clause_147 : decode cX12_clause 147 = .ok (.if_icmp .ne 10, 3) := by decide +kernel
theorem dX12_clause_150 : decode cX12_clause 150 = .ok (.aload_n 0, 1) := by decide +kernel
theorem dX12_clause_151 : decode cX12_clause 151 = .ok (.invokevirtual 265, 3) := by decide +kernel
theorem dX12_clause_154 : decode cX12_clause 154 = .ok (.goto 7, 3) := by decide +kernel
theorem dX12_clause_157 : decode cX12_clause 157 = .ok (.aload_n 0, 1) := by decide +kernel
theorem dX12_clause_158 : decode cX12_clause 158 = .ok (.invokevirtual 243, 3) := by decide +kernel
theorem dX12_clause_161 : decode cX12_clause 161 = .ok (.istore 4, 2) := by decide +kernel
theorem dX12_clause_163 : decode cX12_clause 163 = .ok (.iload 4, 2) := by decide +kernel
theorem dX12_clause_165 : decode cX12_clause 165 = .ok (.ifCond .eq 6, 3) := by decide +kernel
theorem dX12_clause_168 : decode cX12_clause 168 = .ok (.iload 4, 2) := by decide +kernel
theorem dX12_clause_170 : decode cX12_clause 170 = .ok (.ireturn, 1) := by decide +kernel
theorem dX12_clause_171 : decode cX12_clause 171 = .ok (.aload_n 0, 1) := by decide +kernel
theorem dX12_clause_172 : decode cX12_clause 172 = .ok (.getfield 16, 3) := by decide +kernel
theorem dX12_clause_175 : decode cX12_clause 175 = .ok (.iload_n 2, 1) := by decide +kernel
theorem dX12_clause_176 : decode cX12_clause 176 = .ok (.iconst 3, 1) := by decide +kernel
theorem dX12_clause_177 : decode cX12_clause 177 = .ok (.iadd, 1) := by decide +kernel
theorem dX12_clause_178 : decode cX12_clause 178 = .ok (.aload_n 0, 1) := by decide +kernel
theorem dX12_clause_179 : decode cX12_clause 179 = .ok (.getfield 179, 3) := by decide +kernel
theorem dX12_clause_182 : decode cX12_clause 182 = .ok (.iastore, 1) := by decide +kernel
theorem dX12_clause_183 : decode cX12_clause 183 = .ok (.aload_n 0, 1) := by decide +kernel
theorem dX12_clause_184 : decode cX12_clause 184 = .ok (.getfield 151, 3) := by decide +kernel
theorem dX12_clause_187 : decode cX12_clause 187 = .ok (.bipush 59, 2) := by decide +kernel
theorem dX12_clause_189 : decode cX12_clause 189 = .ok (.if_icmp .eq 5, 3) := by decide +kernel
theorem dX12_clause_192 : decode cX12_clause 192 = .ok (.iconst 1, 1) := by decide +kernel
theorem dX12_clause_193 : decode cX12_clause 193 = .ok (.ireturn, 1) := by decide +kernel
theorem dX12_clause_194 : decode cX12_clause 194 = .ok (.aload_n 0, 1) := by decide +kernel
theorem dX12_clause_195 : decode cX12_clause 195 = .ok (.dup, 1) := by decide +kernel
theorem dX12_clause_196 : decode cX12_clause 196 = .ok (.getfield 210, 3) := by decide +kernel
theorem dX12_clause_199 : decode cX12_clause 199 = .ok (.iload_n 3, 1) := by decide +kernel
theorem dX12_clause_200 : decode cX12_clause 200 = .ok (.ior, 1) := by decide +kernel
theorem dX12_clause_201 : decode cX12_clause 201 = .ok (.putfield 210, 3) := by decide +kernel
theorem dX12_clause_204 : decode cX12_clause 204 = .ok (.aload_n 0, 1) := by decide +kernel
theorem dX12_clause_205 : decode cX12_clause 205 = .ok (.dup, 1) := by decide +kernel
theorem dX12_clause_206 : decode cX12_clause 206 = .ok (.getfield 262, 3) := by decide +kernel
theorem dX12_clause_209 : decode cX12_clause 209 = .ok (.iconst 1, 1) := by decide +kernel
theorem dX12_clause_210 : decode cX12_clause 210 = .ok (.iadd, 1) := by decide +kernel
theorem dX12_clause_211 : decode cX12_clause 211 = .ok (.putfield 262, 3) := by decide +kernel
theorem dX12_clause_214 : decode cX12_clause 214 = .ok (.aload_n 0, 1) := by decide +kernel
theorem dX12_clause_215 : decode cX12_clause 215 = .ok (.invokevirtual 200, 3) := by decide +kernel
theorem dX12_clause_218 : decode cX12_clause 218 = .ok (.iconst 0, 1) := by decide +kernel
theorem dX12_clause_219 : decode cX12_clause 219 = .ok (.ireturn, 1) := by decide +kernel
set_option maxRecDepth 20000 in
theorem ggX12_readText_X12_nextToken : GoodIn wsX12_readText wsX12_nextToken := goodIn_r _ [14, 8, 15, 9, 16, 17, 18, 19, 20, 21, 13, 22, 23, 24, 25, 26, 27, 28, 29, 30, 31, 32, 33, 116, 117, 118, 119, 120, 121, 122, 123, 124, 125, 126, 127, 128, 129, 130, 131, 132, 133, 134, 135, 136, 137, 138, 139, 140, 141, 142, 143, 144, 145, 146, 147, 148, 149, 150, 151, 152, 153, 154, 155, 156, 157, 158] (by decide +kernel) (by decide +kernel)
set_option maxRecDepth 20000 in
theorem gX12_readText_X12_nextToken : GoodIn wsX12_readText (wsV RX12 200 RX12 yX12_nextToken wsX12_nextToken) := goodIn_app (goodIn_of _ (by decide +kernel)) ggX12_readText_X12_nextToken
set_option maxRecDepth 20000 in
theorem ggX12_readText_X12_clause : GoodIn wsX12_readText wsX12_clause := goodIn_r _ [37, 6, 3, 2, 38, 4, 7, 9, 39, 40, 41, 13, 42, 18, 43, 44, 45, 46, 47, 48, 49, 10, 11, 12, 14, 8, 15, 16, 17, 19, 20, 21, 22, 23, 24, 25, 26, 27, 28, 29, 30, 31, 32, 33, 50, 51, 52, 53, 54, 55, 56, 57, 58, 59, 60, 61, 62, 63, 64, 5, 65, 66, 67, 68, 69, 70, 71, 72, 73, 74, 75, 76, 77, 78, 79, 80, 81, 82, 83, 84, 85, 86, 87, 88, 89, 90, 91, 92, 93, 94, 95, 96, 97, 98, 99, 100, 101, 102, 103, 104, 105, 106, 107, 108, 109, 110, 111, 112, 113, 114, 115, 116, 117, 118, 119, 120, 121, 122, 123, 124, 125, 126, 127, 128, 129, 130, 131, 132, 133, 134, 135, 136, 137, 138, 139, 140, 141, 142, 143, 144, 145, 146, 147, 148, 149, 150, 151, 152, 153, 154, 155, 156, 157, 158] (by decide +kernel) (by decide +kernel)
set_option maxRecDepth 20000 in
theorem gX12_readText_X12_clause : GoodIn wsX12_readText (wsV RX12 268 RX12 yX12_clause wsX12_clause) := goodIn_app (goodIn_of _ (by decide +kernel)) ggX12_readText_X12_clause
theorem dX12_readText_0 : decode cX12_readText 0 = .ok (.aload_n 0, 1) := by decide +kernel
theorem dX12_readText_1 : decode cX12_readText 1 = .ok (.sipush 800, 3) := by decide +kernel
theorem dX12_readText_4 : decode cX12_readText 4 = .ok (.aload_n 0, 1) := by decide +kernel
theorem dX12_readText_5 : decode cX12_readText 5 = .ok (.getfield 7, 3) := by decide +kernel
theorem dX12_readText_8 : decode cX12_readText 8 = .ok (.iconst 3, 1) := by decide +kernel
theorem dX12_readText_9 : decode cX12_readText 9 = .ok (.iaload, 1) := by decide +kernel
theorem dX12_readText_10 : decode cX12_readText 10 = .ok (.imul, 1) := by decide +kernel
theorem dX12_readText_11 : decode cX12_readText 11 = .ok (.putfield 176, 3) := by decide +kernel
theorem dX12_readText_14 : decode cX12_readText 14 = .ok (.aload_n 0, 1) := by decide +kernel
theorem dX12_readText_15 : decode cX12_readText 15 = .ok (.iconst 0, 1) := by decide +kernel
theorem dX12_readText_16 : decode cX12_readText 16 = .ok (.putfield 262, 3) := by decide +kernel
theorem dX12_readText_19 : decode cX12_readText 19 = .ok (.aload_n 0, 1) := by decide +kernel
theorem dX12_readText_20 : decode cX12_readText 20 = .ok (.iconst 0, 1) := by decide +kernel
theorem dX12_readText_21 : decode cX12_readText 21 = .ok (.putfield 179, 3) := by decide +kernel
theorem dX12_readText_24 : decode cX12_readText 24 = .ok (.aload_n 0, 1) := by decide +kernel
theorem dX12_readText_25 : decode cX12_readText 25 = .ok (.iconst 0, 1) := by decide +kernel
theorem dX12_readText_26 : decode cX12_readText 26 = .ok (.putfield 189, 3) := by decide +kernel
theorem dX12_readText_29 : decode cX12_readText 29 = .ok (.aload_n 0, 1) := by decide +kernel
theorem dX12_readText_30 : decode cX12_readText 30 = .ok (.iconst 0, 1) := by decide +kernel
theorem dX12_readText_31 : decode cX12_readText 31 = .ok (.putfield 259, 3) := by decide +kernel
theorem dX12_readText_34 : decode cX12_readText 34 = .ok (.aload_n 0, 1) := by decide +kernel
theorem dX12_readText_35 : decode cX12_readText 35 = .ok (.iconst 0, 1) := by decide +kernel
theorem dX12_readText_36 : decode cX12_readText 36 = .ok (.putfield 210, 3) := by decide +kernel
theorem dX12_readText_39 : decode cX12_readText 39 = .ok (.aload_n 0, 1) := by decide +kernel
theorem dX12_readText_40 : decode cX12_readText 40 = .ok (.iconst 0, 1) := by decide +kernel
theorem dX12_readText_41 : decode cX12_readText 41 = .ok (.putfield 142, 3) := by decide +kernel
theorem dX12_readText_44 : decode cX12_readText 44 = .ok (.aload_n 0, 1) := by decide +kernel
theorem dX12_readText_45 : decode cX12_readText 45 = .ok (.invokevirtual 200, 3) := by decide +kernel
theorem dX12_readText_48 : decode cX12_readText 48 = .ok (.aload_n 0, 1) := by decide +kernel
theorem dX12_readText_49 : decode cX12_readText 49 = .ok (.getfield 151, 3) := by decide +kernel
theorem dX12_readText_52 : decode cX12_readText 52 = .ok (.ifCond .eq 17, 3) := by decide +kernel
theorem dX12_readText_55 : decode cX12_readText 55 = .ok (.aload_n 0, 1) := by decide +kernel
theorem dX12_readText_56 : decode cX12_readText 56 = .ok (.invokevirtual 268, 3) := by decide +kernel
theorem dX12_readText_59 : decode cX12_readText 59 = .ok (.istore_n 1, 1) := by decide +kernel
theorem dX12_readText_60 : decode cX12_readText 60 = .ok (.iload_n 1, 1) := by decide +kernel
theorem dX12_readText_61 : decode cX12_readText 61 = .ok (.ifCond .eq 5, 3) := by decide +kernel
theorem dX12_readText_64 : decode cX12_readText 64 = .ok (.iload_n 1, 1) := by decide +kernel
theorem dX12_readText_65 : decode cX12_readText 65 = .ok (.ireturn, 1) := by decide +kernel
theorem dX12_readText_66 : decode cX12_readText 66 = .ok (.goto (-18), 3) := by decide +kernel
theorem dX12_readText_69 : decode cX12_readText 69 = .ok (.iconst 0, 1) := by decide +kernel
theorem dX12_readText_70 : decode cX12_readText 70 = .ok (.ireturn, 1) := by decide +kernel
set_option maxRecDepth 20000 in
theorem ggX12_rule_X12_readText : GoodIn wsX12_rule wsX12_readText := goodIn_r _ [13, 1, 7, 8, 14, 15, 16, 17, 18, 19, 20, 21, 22, 12, 23, 3, 24, 25, 26, 27, 28, 29, 30, 5, 31, 32, 33, 34, 35, 36, 37, 38, 39, 40, 41, 42, 43, 44, 6, 45, 46, 47, 48, 49, 50, 51, 52, 53, 54, 55, 56, 57, 58, 59, 60, 61, 62, 63, 64, 65, 66, 67, 68, 69, 70, 71, 72, 73, 74, 75, 76, 77, 78, 79, 80, 81, 82, 83, 84, 85, 86, 87, 88, 89, 90, 91, 92, 93, 94, 95, 96, 97, 98, 99, 100, 101, 102, 103, 104, 105, 106, 107, 108, 109, 110, 111, 112, 113, 114, 115, 116, 117, 118, 119, 120, 121, 122, 123, 124, 125, 126, 127, 128, 129, 130, 131, 132, 133, 134, 135, 136, 137, 138, 139, 140, 141, 142, 143, 144, 145, 146, 147, 148, 149, 150, 151, 152, 153, 154, 155, 156, 157, 158, 159, 160, 161, 162, 163, 164] (by decide +kernel) (by decide +kernel)
set_option maxRecDepth 20000 in
theorem gX12_rule_X12_readText : GoodIn wsX12_rule (wsV RX12 271 RX12 yX12_readText wsX12_readText) := goodIn_app (goodIn_of _ (by decide +kernel)) ggX12_rule_X12_readText
theorem dX12_rule_0 : decode cX12_rule 0 = .ok (.aload_n 0, 1) := by decide +kernel
theorem dX12_rule_1 : decode cX12_rule 1 = .ok (.getfield 7, 3) := by decide +kernel
theorem dX12_rule_4 : decode cX12_rule 4 = .ok (.iconst 3, 1) := by decide +kernel
theorem dX12_rule_5 : decode cX12_rule 5 = .ok (.iaload, 1) := by decide +kernel
theorem dX12_rule_6 : decode cX12_rule 6 = .ok (.bipush 8, 2) := by decide +kernel
theorem dX12_rule_8 : decode cX12_rule 8 = .ok (.if_icmp .ne 5, 3) := by decide +kernel
theorem dX12_rule_11 : decode cX12_rule 11 = .ok (.iconst (-1), 1) := by decide +kernel
theorem dX12_rule_12 : decode cX12_rule 12 = .ok (.ireturn, 1) := by decide +kernel
theorem dX12_rule_13 : decode cX12_rule 13 = .ok (.aload_n 0, 1) := by decide +kernel
theorem dX12_rule_14 : decode cX12_rule 14 = .ok (.aload_n 0, 1) := by decide +kernel
theorem dX12_rule_15 : decode cX12_rule 15 = .ok (.invokevirtual 271, 3) := by decide +kernel
theorem dX12_rule_18 : decode cX12_rule 18 = .ok (.putfield 34, 3) := by decide +kernel
theorem dX12_rule_21 : decode cX12_rule 21 = .ok (.aload_n 0, 1) := by decide +kernel
theorem dX12_rule_22 : decode cX12_rule 22 = .ok (.aload_n 0, 1) := by decide +kernel
theorem dX12_rule_23 : decode cX12_rule 23 = .ok (.getfield 34, 3) := by decide +kernel
theorem dX12_rule_26 : decode cX12_rule 26 = .ok (.ifCond .ne 7, 3) := by decide +kernel
theorem dX12_rule_29 : decode cX12_rule 29 = .ok (.iconst (-1), 1) := by decide +kernel
theorem dX12_rule_30 : decode cX12_rule 30 = .ok (.goto 7, 3) := by decide +kernel
theorem dX12_rule_33 : decode cX12_rule 33 = .ok (.aload_n 0, 1) := by decide +kernel
theorem dX12_rule_34 : decode cX12_rule 34 = .ok (.getfield 148, 3) := by decide +kernel
theorem dX12_rule_37 : decode cX12_rule 37 = .ok (.putfield 38, 3) := by decide +kernel
theorem dX12_rule_40 : decode cX12_rule 40 = .ok (.aload_n 0, 1) := by decide +kernel
theorem dX12_rule_41 : decode cX12_rule 41 = .ok (.iconst 0, 1) := by decide +kernel
theorem dX12_rule_42 : decode cX12_rule 42 = .ok (.putfield 136, 3) := by decide +kernel
theorem dX12_rule_45 : decode cX12_rule 45 = .ok (.aload_n 0, 1) := by decide +kernel
theorem dX12_rule_46 : decode cX12_rule 46 = .ok (.getfield 34, 3) := by decide +kernel
theorem dX12_rule_49 : decode cX12_rule 49 = .ok (.ifCond .eq 5, 3) := by decide +kernel
theorem dX12_rule_52 : decode cX12_rule 52 = .ok (.iconst (-1), 1) := by decide +kernel
theorem dX12_rule_53 : decode cX12_rule 53 = .ok (.ireturn, 1) := by decide +kernel
theorem dX12_rule_54 : decode cX12_rule 54 = .ok (.aload_n 0, 1) := by decide +kernel
theorem dX12_rule_55 : decode cX12_rule 55 = .ok (.getfield 16, 3) := by decide +kernel
theorem dX12_rule_58 : decode cX12_rule 58 = .ok (.aload_n 0, 1) := by decide +kernel
theorem dX12_rule_59 : decode cX12_rule 59 = .ok (.getfield 176, 3) := by decide +kernel
theorem dX12_rule_62 : decode cX12_rule 62 = .ok (.aload_n 0, 1) := by decide +kernel
theorem dX12_rule_63 : decode cX12_rule 63 = .ok (.getfield 262, 3) := by decide +kernel
theorem dX12_rule_66 : decode cX12_rule 66 = .ok (.iastore, 1) := by decide +kernel
theorem dX12_rule_67 : decode cX12_rule 67 = .ok (.aload_n 0, 1) := by decide +kernel
theorem dX12_rule_68 : decode cX12_rule 68 = .ok (.getfield 7, 3) := by decide +kernel
theorem dX12_rule_71 : decode cX12_rule 71 = .ok (.iconst 3, 1) := by decide +kernel
theorem dX12_rule_72 : decode cX12_rule 72 = .ok (.dup2, 1) := by decide +kernel
theorem dX12_rule_73 : decode cX12_rule 73 = .ok (.iaload, 1) := by decide +kernel
theorem dX12_rule_74 : decode cX12_rule 74 = .ok (.iconst 1, 1) := by decide +kernel
theorem dX12_rule_75 : decode cX12_rule 75 = .ok (.iadd, 1) := by decide +kernel
theorem dX12_rule_76 : decode cX12_rule 76 = .ok (.iastore, 1) := by decide +kernel
theorem dX12_rule_77 : decode cX12_rule 77 = .ok (.aload_n 0, 1) := by decide +kernel
theorem dX12_rule_78 : decode cX12_rule 78 = .ok (.getfield 7, 3) := by decide +kernel
theorem dX12_rule_81 : decode cX12_rule 81 = .ok (.iconst 3, 1) := by decide +kernel
theorem dX12_rule_82 : decode cX12_rule 82 = .ok (.iaload, 1) := by decide +kernel
theorem dX12_rule_83 : decode cX12_rule 83 = .ok (.iconst 1, 1) := by decide +kernel
theorem dX12_rule_84 : decode cX12_rule 84 = .ok (.isub, 1) := by decide +kernel
theorem dX12_rule_85 : decode cX12_rule 85 = .ok (.ireturn, 1) := by decide +kernel
theorem dX12_fault_0 : decode cX12_fault 0 = .ok (.iload_n 1, 1) := by decide +kernel
theorem dX12_fault_1 : decode cX12_fault 1 = .ok (.ifCond .ne 10, 3) := by decide +kernel
theorem dX12_fault_4 : decode cX12_fault 4 = .ok (.aload_n 0, 1) := by decide +kernel
theorem dX12_fault_5 : decode cX12_fault 5 = .ok (.getfield 34, 3) := by decide +kernel
theorem dX12_fault_8 : decode cX12_fault 8 = .ok (.goto 16, 3) := by decide +kernel
theorem dX12_fault_11 : decode cX12_fault 11 = .ok (.iload_n 1, 1) := by decide +kernel
theorem dX12_fault_12 : decode cX12_fault 12 = .ok (.iconst 1, 1) := by decide +kernel
theorem dX12_fault_13 : decode cX12_fault 13 = .ok (.if_icmp .ne 10, 3) := by decide +kernel
theorem dX12_fault_16 : decode cX12_fault 16 = .ok (.aload_n 0, 1) := by decide +kernel
theorem dX12_fault_17 : decode cX12_fault 17 = .ok (.getfield 38, 3) := by decide +kernel
theorem dX12_fault_20 : decode cX12_fault 20 = .ok (.goto 4, 3) := by decide +kernel
theorem dX12_fault_23 : decode cX12_fault 23 = .ok (.iconst (-1), 1) := by decide +kernel
theorem dX12_fault_24 : decode cX12_fault 24 = .ok (.ireturn, 1) := by decide +kernel
theorem dX12_bring_0 : decode cX12_bring 0 = .ok (.lload_n 1, 1) := by decide +kernel
theorem dX12_bring_1 : decode cX12_bring 1 = .ok (.aload_n 0, 1) := by decide +kernel
theorem dX12_bring_2 : decode cX12_bring 2 = .ok (.getfield 274, 3) := by decide +kernel
theorem dX12_bring_5 : decode cX12_bring 5 = .ok (.lcmp, 1) := by decide +kernel
theorem dX12_bring_6 : decode cX12_bring 6 = .ok (.ifCond .gt 13, 3) := by decide +kernel
theorem dX12_bring_9 : decode cX12_bring 9 = .ok (.lload_n 1, 1) := by decide +kernel
theorem dX12_bring_10 : decode cX12_bring 10 = .ok (.aload_n 0, 1) := by decide +kernel
theorem dX12_bring_11 : decode cX12_bring 11 = .ok (.getfield 274, 3) := by decide +kernel
theorem dX12_bring_14 : decode cX12_bring 14 = .ok (.lneg, 1) := by decide +kernel
theorem dX12_bring_15 : decode cX12_bring 15 = .ok (.lcmp, 1) := by decide +kernel
theorem dX12_bring_16 : decode cX12_bring 16 = .ok (.ifCond .ge 13, 3) := by decide +kernel
theorem dX12_bring_19 : decode cX12_bring 19 = .ok (.aload_n 0, 1) := by decide +kernel
theorem dX12_bring_20 : decode cX12_bring 20 = .ok (.dup, 1) := by decide +kernel
theorem dX12_bring_21 : decode cX12_bring 21 = .ok (.getfield 277, 3) := by decide +kernel
theorem dX12_bring_24 : decode cX12_bring 24 = .ok (.iconst 1, 1) := by decide +kernel
theorem dX12_bring_25 : decode cX12_bring 25 = .ok (.iadd, 1) := by decide +kernel
theorem dX12_bring_26 : decode cX12_bring 26 = .ok (.putfield 277, 3) := by decide +kernel
theorem dX12_bring_29 : decode cX12_bring 29 = .ok (.lload_n 1, 1) := by decide +kernel
theorem dX12_bring_30 : decode cX12_bring 30 = .ok (.aload_n 0, 1) := by decide +kernel
theorem dX12_bring_31 : decode cX12_bring 31 = .ok (.getfield 274, 3) := by decide +kernel
theorem dX12_bring_34 : decode cX12_bring 34 = .ok (.lcmp, 1) := by decide +kernel
theorem dX12_bring_35 : decode cX12_bring 35 = .ok (.ifCond .le 10, 3) := by decide +kernel
theorem dX12_bring_38 : decode cX12_bring 38 = .ok (.aload_n 0, 1) := by decide +kernel
theorem dX12_bring_39 : decode cX12_bring 39 = .ok (.getfield 274, 3) := by decide +kernel
theorem dX12_bring_42 : decode cX12_bring 42 = .ok (.goto 22, 3) := by decide +kernel
theorem dX12_bring_45 : decode cX12_bring 45 = .ok (.lload_n 1, 1) := by decide +kernel
theorem dX12_bring_46 : decode cX12_bring 46 = .ok (.aload_n 0, 1) := by decide +kernel
theorem dX12_bring_47 : decode cX12_bring 47 = .ok (.getfield 274, 3) := by decide +kernel
theorem dX12_bring_50 : decode cX12_bring 50 = .ok (.lneg, 1) := by decide +kernel
theorem dX12_bring_51 : decode cX12_bring 51 = .ok (.lcmp, 1) := by decide +kernel
theorem dX12_bring_52 : decode cX12_bring 52 = .ok (.ifCond .ge 11, 3) := by decide +kernel
theorem dX12_bring_55 : decode cX12_bring 55 = .ok (.aload_n 0, 1) := by decide +kernel
theorem dX12_bring_56 : decode cX12_bring 56 = .ok (.getfield 274, 3) := by decide +kernel
theorem dX12_bring_59 : decode cX12_bring 59 = .ok (.lneg, 1) := by decide +kernel
theorem dX12_bring_60 : decode cX12_bring 60 = .ok (.goto 4, 3) := by decide +kernel
theorem dX12_bring_63 : decode cX12_bring 63 = .ok (.lload_n 1, 1) := by decide +kernel
theorem dX12_bring_64 : decode cX12_bring 64 = .ok (.lreturn, 1) := by decide +kernel
set_option maxRecDepth 20000 in
theorem ggX12_two_X12_bring : GoodIn wsX12_two wsX12_bring := goodIn_r _ [5, 6, 7, 8, 9, 10, 11, 12, 13, 14, 15, 16, 17, 18, 19, 20, 21, 22, 23, 24, 25, 26, 27, 28, 29, 30, 31, 32, 33, 34, 35, 36, 37, 38, 39, 40, 41, 42, 43, 44, 45, 46, 47, 48, 49, 50] (by decide +kernel) (by decide +kernel)
set_option maxRecDepth 20000 in
theorem gX12_two_X12_bring : GoodIn wsX12_two (wsV RX12 280 RX12 yX12_bring wsX12_bring) := goodIn_app (goodIn_of _ (by decide +kernel)) ggX12_two_X12_bring
theorem dX12_two_0 : decode cX12_two 0 = .ok (.iload_n 1, 1) := by decide +kernel
theorem dX12_two_1 : decode cX12_two 1 = .ok (.tableswitch 96 3 7 #[35, 44, 53, 62, 82], 35) := by decide +kernel
theorem dX12_two_36 : decode cX12_two 36 = .ok (.aload_n 0, 1) := by decide +kernel
theorem dX12_two_37 : decode cX12_two 37 = .ok (.lload_n 2, 1) := by decide +kernel
theorem dX12_two_38 : decode cX12_two 38 = .ok (.lload 4, 2) := by decide +kernel
theorem dX12_two_40 : decode cX12_two 40 = .ok (.ladd, 1) := by decide +kernel
theorem dX12_two_41 : decode cX12_two 41 = .ok (.invokevirtual 280, 3) := by decide +kernel
theorem dX12_two_44 : decode cX12_two 44 = .ok (.lreturn, 1) := by decide +kernel
theorem dX12_two_45 : decode cX12_two 45 = .ok (.aload_n 0, 1) := by decide +kernel
theorem dX12_two_46 : decode cX12_two 46 = .ok (.lload_n 2, 1) := by decide +kernel
theorem dX12_two_47 : decode cX12_two 47 = .ok (.lload 4, 2) := by decide +kernel
theorem dX12_two_49 : decode cX12_two 49 = .ok (.lsub, 1) := by decide +kernel
theorem dX12_two_50 : decode cX12_two 50 = .ok (.invokevirtual 280, 3) := by decide +kernel
theorem dX12_two_53 : decode cX12_two 53 = .ok (.lreturn, 1) := by decide +kernel
theorem dX12_two_54 : decode cX12_two 54 = .ok (.aload_n 0, 1) := by decide +kernel
theorem dX12_two_55 : decode cX12_two 55 = .ok (.lload_n 2, 1) := by decide +kernel
theorem dX12_two_56 : decode cX12_two 56 = .ok (.lload 4, 2) := by decide +kernel
theorem dX12_two_58 : decode cX12_two 58 = .ok (.lmul, 1) := by decide +kernel
theorem dX12_two_59 : decode cX12_two 59 = .ok (.invokevirtual 280, 3) := by decide +kernel
theorem dX12_two_62 : decode cX12_two 62 = .ok (.lreturn, 1) := by decide +kernel
theorem dX12_two_63 : decode cX12_two 63 = .ok (.lload 4, 2) := by decide +kernel
theorem dX12_two_65 : decode cX12_two 65 = .ok (.lconst 0, 1) := by decide +kernel
theorem dX12_two_66 : decode cX12_two 66 = .ok (.lcmp, 1) := by decide +kernel
theorem dX12_two_67 : decode cX12_two 67 = .ok (.ifCond .ne 7, 3) := by decide +kernel
theorem dX12_two_70 : decode cX12_two 70 = .ok (.lconst 0, 1) := by decide +kernel
theorem dX12_two_71 : decode cX12_two 71 = .ok (.goto 11, 3) := by decide +kernel
theorem dX12_two_74 : decode cX12_two 74 = .ok (.aload_n 0, 1) := by decide +kernel
theorem dX12_two_75 : decode cX12_two 75 = .ok (.lload_n 2, 1) := by decide +kernel
theorem dX12_two_76 : decode cX12_two 76 = .ok (.lload 4, 2) := by decide +kernel
theorem dX12_two_78 : decode cX12_two 78 = .ok (.ldiv, 1) := by decide +kernel
theorem dX12_two_79 : decode cX12_two 79 = .ok (.invokevirtual 280, 3) := by decide +kernel
theorem dX12_two_82 : decode cX12_two 82 = .ok (.lreturn, 1) := by decide +kernel
theorem dX12_two_83 : decode cX12_two 83 = .ok (.lload_n 2, 1) := by decide +kernel
theorem dX12_two_84 : decode cX12_two 84 = .ok (.lload 4, 2) := by decide +kernel
theorem dX12_two_86 : decode cX12_two 86 = .ok (.lcmp, 1) := by decide +kernel
theorem dX12_two_87 : decode cX12_two 87 = .ok (.ifCond .ge 7, 3) := by decide +kernel
theorem dX12_two_90 : decode cX12_two 90 = .ok (.lload_n 2, 1) := by decide +kernel
theorem dX12_two_91 : decode cX12_two 91 = .ok (.goto 5, 3) := by decide +kernel
theorem dX12_two_94 : decode cX12_two 94 = .ok (.lload 4, 2) := by decide +kernel
theorem dX12_two_96 : decode cX12_two 96 = .ok (.lreturn, 1) := by decide +kernel
theorem dX12_two_97 : decode cX12_two 97 = .ok (.lload_n 2, 1) := by decide +kernel
theorem dX12_two_98 : decode cX12_two 98 = .ok (.lload 4, 2) := by decide +kernel
theorem dX12_two_100 : decode cX12_two 100 = .ok (.lcmp, 1) := by decide +kernel
theorem dX12_two_101 : decode cX12_two 101 = .ok (.ifCond .le 7, 3) := by decide +kernel
theorem dX12_two_104 : decode cX12_two 104 = .ok (.lload_n 2, 1) := by decide +kernel
theorem dX12_two_105 : decode cX12_two 105 = .ok (.goto 5, 3) := by decide +kernel
theorem dX12_two_108 : decode cX12_two 108 = .ok (.lload 4, 2) := by decide +kernel
theorem dX12_two_110 : decode cX12_two 110 = .ok (.lreturn, 1) := by decide +kernel
theorem dX12_isAsked_0 : decode cX12_isAsked 0 = .ok (.iload_n 0, 1) := by decide +kernel
theorem dX12_isAsked_1 : decode cX12_isAsked 1 = .ok (.bipush 10, 2) := by decide +kernel
theorem dX12_isAsked_3 : decode cX12_isAsked 3 = .ok (.if_icmp .ne 17, 3) := by decide +kernel
theorem dX12_isAsked_6 : decode cX12_isAsked 6 = .ok (.lload_n 1, 1) := by decide +kernel
theorem dX12_isAsked_7 : decode cX12_isAsked 7 = .ok (.lload_n 3, 1) := by decide +kernel
theorem dX12_isAsked_8 : decode cX12_isAsked 8 = .ok (.lcmp, 1) := by decide +kernel
theorem dX12_isAsked_9 : decode cX12_isAsked 9 = .ok (.ifCond .ge 7, 3) := by decide +kernel
theorem dX12_isAsked_12 : decode cX12_isAsked 12 = .ok (.iconst 1, 1) := by decide +kernel
theorem dX12_isAsked_13 : decode cX12_isAsked 13 = .ok (.goto 98, 3) := by decide +kernel
theorem dX12_isAsked_16 : decode cX12_isAsked 16 = .ok (.iconst 0, 1) := by decide +kernel
theorem dX12_isAsked_17 : decode cX12_isAsked 17 = .ok (.goto 94, 3) := by decide +kernel
theorem dX12_isAsked_20 : decode cX12_isAsked 20 = .ok (.iload_n 0, 1) := by decide +kernel
theorem dX12_isAsked_21 : decode cX12_isAsked 21 = .ok (.bipush 11, 2) := by decide +kernel
theorem dX12_isAsked_23 : decode cX12_isAsked 23 = .ok (.if_icmp .ne 17, 3) := by decide +kernel
theorem dX12_isAsked_26 : decode cX12_isAsked 26 = .ok (.lload_n 1, 1) := by decide +kernel
theorem dX12_isAsked_27 : decode cX12_isAsked 27 = .ok (.lload_n 3, 1) := by decide +kernel
theorem dX12_isAsked_28 : decode cX12_isAsked 28 = .ok (.lcmp, 1) := by decide +kernel
theorem dX12_isAsked_29 : decode cX12_isAsked 29 = .ok (.ifCond .gt 7, 3) := by decide +kernel
theorem dX12_isAsked_32 : decode cX12_isAsked 32 = .ok (.iconst 1, 1) := by decide +kernel
theorem dX12_isAsked_33 : decode cX12_isAsked 33 = .ok (.goto 78, 3) := by decide +kernel
theorem dX12_isAsked_36 : decode cX12_isAsked 36 = .ok (.iconst 0, 1) := by decide +kernel
theorem dX12_isAsked_37 : decode cX12_isAsked 37 = .ok (.goto 74, 3) := by decide +kernel
theorem dX12_isAsked_40 : decode cX12_isAsked 40 = .ok (.iload_n 0, 1) := by decide +kernel
theorem dX12_isAsked_41 : decode cX12_isAsked 41 = .ok (.bipush 12, 2) := by decide +kernel
theorem dX12_isAsked_43 : decode cX12_isAsked 43 = .ok (.if_icmp .ne 17, 3) := by decide +kernel
theorem dX12_isAsked_46 : decode cX12_isAsked 46 = .ok (.lload_n 1, 1) := by decide +kernel
theorem dX12_isAsked_47 : decode cX12_isAsked 47 = .ok (.lload_n 3, 1) := by decide +kernel
theorem dX12_isAsked_48 : decode cX12_isAsked 48 = .ok (.lcmp, 1) := by decide +kernel
theorem dX12_isAsked_49 : decode cX12_isAsked 49 = .ok (.ifCond .le 7, 3) := by decide +kernel
theorem dX12_isAsked_52 : decode cX12_isAsked 52 = .ok (.iconst 1, 1) := by decide +kernel
theorem dX12_isAsked_53 : decode cX12_isAsked 53 = .ok (.goto 58, 3) := by decide +kernel
theorem dX12_isAsked_56 : decode cX12_isAsked 56 = .ok (.iconst 0, 1) := by decide +kernel
theorem dX12_isAsked_57 : decode cX12_isAsked 57 = .ok (.goto 54, 3) := by decide +kernel
theorem dX12_isAsked_60 : decode cX12_isAsked 60 = .ok (.iload_n 0, 1) := by decide +kernel
theorem dX12_isAsked_61 : decode cX12_isAsked 61 = .ok (.bipush 13, 2) := by decide +kernel
theorem dX12_isAsked_63 : decode cX12_isAsked 63 = .ok (.if_icmp .ne 17, 3) := by decide +kernel
theorem dX12_isAsked_66 : decode cX12_isAsked 66 = .ok (.lload_n 1, 1) := by decide +kernel
theorem dX12_isAsked_67 : decode cX12_isAsked 67 = .ok (.lload_n 3, 1) := by decide +kernel
theorem dX12_isAsked_68 : decode cX12_isAsked 68 = .ok (.lcmp, 1) := by decide +kernel
theorem dX12_isAsked_69 : decode cX12_isAsked 69 = .ok (.ifCond .lt 7, 3) := by decide +kernel
theorem dX12_isAsked_72 : decode cX12_isAsked 72 = .ok (.iconst 1, 1) := by decide +kernel
theorem dX12_isAsked_73 : decode cX12_isAsked 73 = .ok (.goto 38, 3) := by decide +kernel
theorem dX12_isAsked_76 : decode cX12_isAsked 76 = .ok (.iconst 0, 1) := by decide +kernel
theorem dX12_isAsked_77 : decode cX12_isAsked 77 = .ok (.goto 34, 3) := by decide +kernel
theorem dX12_isAsked_80 : decode cX12_isAsked 80 = .ok (.iload_n 0, 1) := by decide +kernel
theorem dX12_isAsked_81 : decode cX12_isAsked 81 = .ok (.bipush 14, 2) := by decide +kernel
theorem dX12_isAsked_83 : decode cX12_isAsked 83 = .ok (.if_icmp .ne 17, 3) := by decide +kernel
theorem dX12_isAsked_86 : decode cX12_isAsked 86 = .ok (.lload_n 1, 1) := by decide +kernel
theorem dX12_isAsked_87 : decode cX12_isAsked 87 = .ok (.lload_n 3, 1) := by decide +kernel
theorem dX12_isAsked_88 : decode cX12_isAsked 88 = .ok (.lcmp, 1) := by decide +kernel
theorem dX12_isAsked_89 : decode cX12_isAsked 89 = .ok (.ifCond .ne 7, 3) := by decide +kernel
theorem dX12_isAsked_92 : decode cX12_isAsked 92 = .ok (.iconst 1, 1) := by decide +kernel
theorem dX12_isAsked_93 : decode cX12_isAsked 93 = .ok (.goto 18, 3) := by decide +kernel
theorem dX12_isAsked_96 : decode cX12_isAsked 96 = .ok (.iconst 0, 1) := by decide +kernel
theorem dX12_isAsked_97 : decode cX12_isAsked 97 = .ok (.goto 14, 3) := by decide +kernel
theorem dX12_isAsked_100 : decode cX12_isAsked 100 = .ok (.lload_n 1, 1) := by decide +kernel
theorem dX12_isAsked_101 : decode cX12_isAsked 101 = .ok (.lload_n 3, 1) := by decide +kernel
theorem dX12_isAsked_102 : decode cX12_isAsked 102 = .ok (.lcmp, 1) := by decide +kernel
theorem dX12_isAsked_103 : decode cX12_isAsked 103 = .ok (.ifCond .eq 7, 3) := by decide +kernel
theorem dX12_isAsked_106 : decode cX12_isAsked 106 = .ok (.iconst 1, 1) := by decide +kernel
theorem dX12_isAsked_107 : decode cX12_isAsked 107 = .ok (.goto 4, 3) := by decide +kernel
theorem dX12_isAsked_110 : decode cX12_isAsked 110 = .ok (.iconst 0, 1) := by decide +kernel
theorem dX12_isAsked_111 : decode cX12_isAsked 111 = .ok (.ireturn, 1) := by decide +kernel
theorem dX12_valueOf_0 : decode cX12_valueOf 0 = .ok (.iload_n 1, 1) := by decide +kernel
theorem dX12_valueOf_1 : decode cX12_valueOf 1 = .ok (.lookupswitch 92 #[(0, 43), (1, 46), (30, 54), (31, 60)], 43) := by decide +kernel
theorem dX12_valueOf_44 : decode cX12_valueOf 44 = .ok (.iload_n 2, 1) := by decide +kernel
theorem dX12_valueOf_45 : decode cX12_valueOf 45 = .ok (.i2l, 1) := by decide +kernel
theorem dX12_valueOf_46 : decode cX12_valueOf 46 = .ok (.lreturn, 1) := by decide +kernel
theorem dX12_valueOf_47 : decode cX12_valueOf 47 = .ok (.aload_n 0, 1) := by decide +kernel
theorem dX12_valueOf_48 : decode cX12_valueOf 48 = .ok (.getfield 47, 3) := by decide +kernel
theorem dX12_valueOf_51 : decode cX12_valueOf 51 = .ok (.iload_n 2, 1) := by decide +kernel
theorem dX12_valueOf_52 : decode cX12_valueOf 52 = .ok (.iaload, 1) := by decide +kernel
theorem dX12_valueOf_53 : decode cX12_valueOf 53 = .ok (.i2l, 1) := by decide +kernel
theorem dX12_valueOf_54 : decode cX12_valueOf 54 = .ok (.lreturn, 1) := by decide +kernel
theorem dX12_valueOf_55 : decode cX12_valueOf 55 = .ok (.aload_n 0, 1) := by decide +kernel
theorem dX12_valueOf_56 : decode cX12_valueOf 56 = .ok (.getfield 284, 3) := by decide +kernel
theorem dX12_valueOf_59 : decode cX12_valueOf 59 = .ok (.i2l, 1) := by decide +kernel
theorem dX12_valueOf_60 : decode cX12_valueOf 60 = .ok (.lreturn, 1) := by decide +kernel
theorem dX12_valueOf_61 : decode cX12_valueOf 61 = .ok (.iload_n 2, 1) := by decide +kernel
theorem dX12_valueOf_62 : decode cX12_valueOf 62 = .ok (.aload_n 0, 1) := by decide +kernel
theorem dX12_valueOf_63 : decode cX12_valueOf 63 = .ok (.getfield 7, 3) := by decide +kernel
theorem dX12_valueOf_66 : decode cX12_valueOf 66 = .ok (.iconst 1, 1) := by decide +kernel
theorem dX12_valueOf_67 : decode cX12_valueOf 67 = .ok (.iaload, 1) := by decide +kernel
theorem dX12_valueOf_68 : decode cX12_valueOf 68 = .ok (.if_icmp .ge 23, 3) := by decide +kernel
theorem dX12_valueOf_71 : decode cX12_valueOf 71 = .ok (.aload_n 0, 1) := by decide +kernel
theorem dX12_valueOf_72 : decode cX12_valueOf 72 = .ok (.getfield 44, 3) := by decide +kernel
theorem dX12_valueOf_75 : decode cX12_valueOf 75 = .ok (.bipush 38, 2) := by decide +kernel
theorem dX12_valueOf_77 : decode cX12_valueOf 77 = .ok (.aload_n 0, 1) := by decide +kernel
theorem dX12_valueOf_78 : decode cX12_valueOf 78 = .ok (.getfield 284, 3) := by decide +kernel
theorem dX12_valueOf_81 : decode cX12_valueOf 81 = .ok (.imul, 1) := by decide +kernel
theorem dX12_valueOf_82 : decode cX12_valueOf 82 = .ok (.iconst 5, 1) := by decide +kernel
theorem dX12_valueOf_83 : decode cX12_valueOf 83 = .ok (.iadd, 1) := by decide +kernel
theorem dX12_valueOf_84 : decode cX12_valueOf 84 = .ok (.iload_n 2, 1) := by decide +kernel
theorem dX12_valueOf_85 : decode cX12_valueOf 85 = .ok (.iadd, 1) := by decide +kernel
theorem dX12_valueOf_86 : decode cX12_valueOf 86 = .ok (.iaload, 1) := by decide +kernel
theorem dX12_valueOf_87 : decode cX12_valueOf 87 = .ok (.i2l, 1) := by decide +kernel
theorem dX12_valueOf_88 : decode cX12_valueOf 88 = .ok (.goto 4, 3) := by decide +kernel
theorem dX12_valueOf_91 : decode cX12_valueOf 91 = .ok (.lconst 0, 1) := by decide +kernel
theorem dX12_valueOf_92 : decode cX12_valueOf 92 = .ok (.lreturn, 1) := by decide +kernel
theorem dX12_valueOf_93 : decode cX12_valueOf 93 = .ok (.iload_n 2, 1) := by decide +kernel
theorem dX12_valueOf_94 : decode cX12_valueOf 94 = .ok (.aload_n 0, 1) := by decide +kernel
theorem dX12_valueOf_95 : decode cX12_valueOf 95 = .ok (.getfield 7, 3) := by decide +kernel
theorem dX12_valueOf_98 : decode cX12_valueOf 98 = .ok (.iconst 2, 1) := by decide +kernel
theorem dX12_valueOf_99 : decode cX12_valueOf 99 = .ok (.iaload, 1) := by decide +kernel
theorem dX12_valueOf_100 : decode cX12_valueOf 100 = .ok (.if_icmp .ge 24, 3) := by decide +kernel
theorem dX12_valueOf_103 : decode cX12_valueOf 103 = .ok (.aload_n 0, 1) := by decide +kernel
theorem dX12_valueOf_104 : decode cX12_valueOf 104 = .ok (.getfield 44, 3) := by decide +kernel
theorem dX12_valueOf_107 : decode cX12_valueOf 107 = .ok (.bipush 38, 2) := by decide +kernel
theorem dX12_valueOf_109 : decode cX12_valueOf 109 = .ok (.aload_n 0, 1) := by decide +kernel
theorem dX12_valueOf_110 : decode cX12_valueOf 110 = .ok (.getfield 284, 3) := by decide +kernel
theorem dX12_valueOf_113 : decode cX12_valueOf 113 = .ok (.imul, 1) := by decide +kernel
theorem dX12_valueOf_114 : decode cX12_valueOf 114 = .ok (.bipush 21, 2) := by decide +kernel
theorem dX12_valueOf_116 : decode cX12_valueOf 116 = .ok (.iadd, 1) := by decide +kernel
theorem dX12_valueOf_117 : decode cX12_valueOf 117 = .ok (.iload_n 2, 1) := by decide +kernel
theorem dX12_valueOf_118 : decode cX12_valueOf 118 = .ok (.iadd, 1) := by decide +kernel
theorem dX12_valueOf_119 : decode cX12_valueOf 119 = .ok (.iaload, 1) := by decide +kernel
theorem dX12_valueOf_120 : decode cX12_valueOf 120 = .ok (.i2l, 1) := by decide +kernel
theorem dX12_valueOf_121 : decode cX12_valueOf 121 = .ok (.goto 4, 3) := by decide +kernel
theorem dX12_valueOf_124 : decode cX12_valueOf 124 = .ok (.lconst 0, 1) := by decide +kernel
theorem dX12_valueOf_125 : decode cX12_valueOf 125 = .ok (.lreturn, 1) := by decide +kernel
set_option maxRecDepth 20000 in
theorem ggX12_work_X12_valueOf : GoodIn wsX12_work wsX12_valueOf := goodIn_r _ [8, 9, 10, 11, 12, 26, 27, 28, 29, 30, 31, 32, 33, 34, 35, 36, 37, 38, 39, 40, 41, 42, 43, 44, 45, 46, 47, 48, 49, 50, 51, 52, 53, 54, 55, 56, 57, 58, 59, 60, 61, 62, 63, 64, 65, 66, 67, 68] (by decide +kernel) (by decide +kernel)
set_option maxRecDepth 20000 in
theorem gX12_work_X12_valueOf : GoodIn wsX12_work (wsV RX12 287 RX12 yX12_valueOf wsX12_valueOf) := goodIn_app (goodIn_of _ (by decide +kernel)) ggX12_work_X12_valueOf
set_option maxRecDepth 20000 in
theorem ggX12_work_X12_bring : GoodIn wsX12_work wsX12_bring := goodIn_r _ [16, 17, 18, 26, 27, 28, 29, 30, 31, 32, 33, 34, 35, 36, 37, 38, 39, 40, 41, 42, 43, 44, 45, 46, 47, 48, 49, 50, 51, 52, 53, 54, 55, 56, 57, 58, 59, 60, 61, 62, 63, 64, 65, 66, 67, 68] (by decide +kernel) (by decide +kernel)
set_option maxRecDepth 20000 in
theorem gX12_work_X12_bring : GoodIn wsX12_work (wsV RX12 280 RX12 yX12_bring wsX12_bring) := goodIn_app (goodIn_of _ (by decide +kernel)) ggX12_work_X12_bring
set_option maxRecDepth 20000 in
theorem ggX12_work_X12_two : GoodIn wsX12_work wsX12_two := goodIn_r _ [22, 13, 14, 15, 7, 16, 17, 18, 26, 27, 28, 29, 30, 31, 32, 33, 34, 35, 36, 37, 38, 39, 40, 41, 42, 43, 44, 45, 46, 47, 48, 49, 50, 51, 52, 53, 54, 55, 56, 57, 58, 59, 60, 61, 62, 63, 64, 65, 66, 67, 68] (by decide +kernel) (by decide +kernel)
set_option maxRecDepth 20000 in
theorem gX12_work_X12_two : GoodIn wsX12_work (wsV RX12 291 RX12 yX12_two wsX12_two) := goodIn_app (goodIn_of _ (by decide +kernel)) ggX12_work_X12_two
set_option maxRecDepth 20000 in
theorem ggX12_work_X12_isAsked : GoodIn wsX12_work wsX12_isAsked := goodIn_r _ [25] (by decide +kernel) (by decide +kernel)
set_option maxRecDepth 20000 in
theorem gX12_work_X12_isAsked : GoodIn wsX12_work (va_wsS RX12 295 yX12_isAsked wsX12_isAsked) := goodIn_app (goodIn_of _ (by decide +kernel)) ggX12_work_X12_isAsked
theorem dX12_work_0 : decode cX12_work 0 = .ok (.iconst 0, 1) := by decide +kernel
theorem dX12_work_1 : decode cX12_work 1 = .ok (.istore 4, 2) := by decide +kernel
theorem dX12_work_3 : decode cX12_work 3 = .ok (.iconst 0, 1) := by decide +kernel
theorem dX12_work_4 : decode cX12_work 4 = .ok (.istore 5, 2) := by decide +kernel
theorem dX12_work_6 : decode cX12_work 6 = .ok (.iload_n 2, 1) := by decide +kernel
theorem dX12_work_7 : decode cX12_work 7 = .ok (.istore 6, 2) := by decide +kernel
theorem dX12_work_9 : decode cX12_work 9 = .ok (.iload 6, 2) := by decide +kernel
theorem dX12_work_11 : decode cX12_work 11 = .ok (.iload_n 3, 1) := by decide +kernel
theorem dX12_work_12 : decode cX12_work 12 = .ok (.if_icmp .ge 303, 3) := by decide +kernel
theorem dX12_work_15 : decode cX12_work 15 = .ok (.aload_n 0, 1) := by decide +kernel
theorem dX12_work_16 : decode cX12_work 16 = .ok (.getfield 16, 3) := by decide +kernel
theorem dX12_work_19 : decode cX12_work 19 = .ok (.iload_n 1, 1) := by decide +kernel
theorem dX12_work_20 : decode cX12_work 20 = .ok (.iconst 2, 1) := by decide +kernel
theorem dX12_work_21 : decode cX12_work 21 = .ok (.iload 6, 2) := by decide +kernel
theorem dX12_work_23 : decode cX12_work 23 = .ok (.imul, 1) := by decide +kernel
theorem dX12_work_24 : decode cX12_work 24 = .ok (.iadd, 1) := by decide +kernel
theorem dX12_work_25 : decode cX12_work 25 = .ok (.iaload, 1) := by decide +kernel
theorem dX12_work_26 : decode cX12_work 26 = .ok (.istore 7, 2) := by decide +kernel
theorem dX12_work_28 : decode cX12_work 28 = .ok (.aload_n 0, 1) := by decide +kernel
theorem dX12_work_29 : decode cX12_work 29 = .ok (.getfield 16, 3) := by decide +kernel
theorem dX12_work_32 : decode cX12_work 32 = .ok (.iload_n 1, 1) := by decide +kernel
theorem dX12_work_33 : decode cX12_work 33 = .ok (.iconst 2, 1) := by decide +kernel
theorem dX12_work_34 : decode cX12_work 34 = .ok (.iload 6, 2) := by decide +kernel
theorem dX12_work_36 : decode cX12_work 36 = .ok (.imul, 1) := by decide +kernel
theorem dX12_work_37 : decode cX12_work 37 = .ok (.iadd, 1) := by decide +kernel
theorem dX12_work_38 : decode cX12_work 38 = .ok (.iconst 1, 1) := by decide +kernel
theorem dX12_work_39 : decode cX12_work 39 = .ok (.iadd, 1) := by decide +kernel
theorem dX12_work_40 : decode cX12_work 40 = .ok (.iaload, 1) := by decide +kernel
theorem dX12_work_41 : decode cX12_work 41 = .ok (.istore 8, 2) := by decide +kernel
theorem dX12_work_43 : decode cX12_work 43 = .ok (.iload 7, 2) := by decide +kernel
theorem dX12_work_45 : decode cX12_work 45 = .ok (.iconst 1, 1) := by decide +kernel
theorem dX12_work_46 : decode cX12_work 46 = .ok (.if_icmp .le 10, 3) := by decide +kernel
theorem dX12_work_49 : decode cX12_work 49 = .ok (.iload 7, 2) := by decide +kernel
theorem dX12_work_51 : decode cX12_work 51 = .ok (.bipush 30, 2) := by decide +kernel
theorem dX12_work_53 : decode cX12_work 53 = .ok (.if_icmp .lt 28, 3) := by decide +kernel
theorem dX12_work_56 : decode cX12_work 56 = .ok (.aload_n 0, 1) := by decide +kernel
theorem dX12_work_57 : decode cX12_work 57 = .ok (.getfield 50, 3) := by decide +kernel
theorem dX12_work_60 : decode cX12_work 60 = .ok (.iload 4, 2) := by decide +kernel
theorem dX12_work_62 : decode cX12_work 62 = .ok (.aload_n 0, 1) := by decide +kernel
theorem dX12_work_63 : decode cX12_work 63 = .ok (.aload_n 0, 1) := by decide +kernel
theorem dX12_work_64 : decode cX12_work 64 = .ok (.iload 7, 2) := by decide +kernel
theorem dX12_work_66 : decode cX12_work 66 = .ok (.iload 8, 2) := by decide +kernel
theorem dX12_work_68 : decode cX12_work 68 = .ok (.invokevirtual 287, 3) := by decide +kernel
theorem dX12_work_71 : decode cX12_work 71 = .ok (.invokevirtual 280, 3) := by decide +kernel
theorem dX12_work_74 : decode cX12_work 74 = .ok (.lastore, 1) := by decide +kernel
theorem dX12_work_75 : decode cX12_work 75 = .ok (.iinc 4 1, 3) := by decide +kernel
theorem dX12_work_78 : decode cX12_work 78 = .ok (.goto 231, 3) := by decide +kernel
theorem dX12_work_81 : decode cX12_work 81 = .ok (.iload 7, 2) := by decide +kernel
theorem dX12_work_83 : decode cX12_work 83 = .ok (.iconst 2, 1) := by decide +kernel
theorem dX12_work_84 : decode cX12_work 84 = .ok (.if_icmp .ne 25, 3) := by decide +kernel
theorem dX12_work_87 : decode cX12_work 87 = .ok (.aload_n 0, 1) := by decide +kernel
theorem dX12_work_88 : decode cX12_work 88 = .ok (.getfield 50, 3) := by decide +kernel
theorem dX12_work_91 : decode cX12_work 91 = .ok (.iload 4, 2) := by decide +kernel
theorem dX12_work_93 : decode cX12_work 93 = .ok (.iconst 1, 1) := by decide +kernel
theorem dX12_work_94 : decode cX12_work 94 = .ok (.isub, 1) := by decide +kernel
theorem dX12_work_95 : decode cX12_work 95 = .ok (.aload_n 0, 1) := by decide +kernel
theorem dX12_work_96 : decode cX12_work 96 = .ok (.getfield 50, 3) := by decide +kernel
theorem dX12_work_99 : decode cX12_work 99 = .ok (.iload 4, 2) := by decide +kernel
theorem dX12_work_101 : decode cX12_work 101 = .ok (.iconst 1, 1) := by decide +kernel
theorem dX12_work_102 : decode cX12_work 102 = .ok (.isub, 1) := by decide +kernel
theorem dX12_work_103 : decode cX12_work 103 = .ok (.laload, 1) := by decide +kernel
theorem dX12_work_104 : decode cX12_work 104 = .ok (.lneg, 1) := by decide +kernel
theorem dX12_work_105 : decode cX12_work 105 = .ok (.lastore, 1) := by decide +kernel
theorem dX12_work_106 : decode cX12_work 106 = .ok (.goto 203, 3) := by decide +kernel
theorem dX12_work_109 : decode cX12_work 109 = .ok (.iload 7, 2) := by decide +kernel
theorem dX12_work_111 : decode cX12_work 111 = .ok (.bipush 10, 2) := by decide +kernel
theorem dX12_work_113 : decode cX12_work 113 = .ok (.if_icmp .ge 40, 3) := by decide +kernel
theorem dX12_work_116 : decode cX12_work 116 = .ok (.iinc 4 (-1), 3) := by decide +kernel
theorem dX12_work_119 : decode cX12_work 119 = .ok (.aload_n 0, 1) := by decide +kernel
theorem dX12_work_120 : decode cX12_work 120 = .ok (.getfield 50, 3) := by decide +kernel
theorem dX12_work_123 : decode cX12_work 123 = .ok (.iload 4, 2) := by decide +kernel
theorem dX12_work_125 : decode cX12_work 125 = .ok (.iconst 1, 1) := by decide +kernel
theorem dX12_work_126 : decode cX12_work 126 = .ok (.isub, 1) := by decide +kernel
theorem dX12_work_127 : decode cX12_work 127 = .ok (.aload_n 0, 1) := by decide +kernel
theorem dX12_work_128 : decode cX12_work 128 = .ok (.iload 7, 2) := by decide +kernel
theorem dX12_work_130 : decode cX12_work 130 = .ok (.aload_n 0, 1) := by decide +kernel
theorem dX12_work_131 : decode cX12_work 131 = .ok (.getfield 50, 3) := by decide +kernel
theorem dX12_work_134 : decode cX12_work 134 = .ok (.iload 4, 2) := by decide +kernel
theorem dX12_work_136 : decode cX12_work 136 = .ok (.iconst 1, 1) := by decide +kernel
theorem dX12_work_137 : decode cX12_work 137 = .ok (.isub, 1) := by decide +kernel
theorem dX12_work_138 : decode cX12_work 138 = .ok (.laload, 1) := by decide +kernel
theorem dX12_work_139 : decode cX12_work 139 = .ok (.aload_n 0, 1) := by decide +kernel
theorem dX12_work_140 : decode cX12_work 140 = .ok (.getfield 50, 3) := by decide +kernel
theorem dX12_work_143 : decode cX12_work 143 = .ok (.iload 4, 2) := by decide +kernel
theorem dX12_work_145 : decode cX12_work 145 = .ok (.laload, 1) := by decide +kernel
theorem dX12_work_146 : decode cX12_work 146 = .ok (.invokevirtual 291, 3) := by decide +kernel
theorem dX12_work_149 : decode cX12_work 149 = .ok (.lastore, 1) := by decide +kernel
theorem dX12_work_150 : decode cX12_work 150 = .ok (.goto 159, 3) := by decide +kernel
theorem dX12_work_153 : decode cX12_work 153 = .ok (.iload 7, 2) := by decide +kernel
theorem dX12_work_155 : decode cX12_work 155 = .ok (.bipush 20, 2) := by decide +kernel
theorem dX12_work_157 : decode cX12_work 157 = .ok (.if_icmp .ge 40, 3) := by decide +kernel
theorem dX12_work_160 : decode cX12_work 160 = .ok (.iinc 4 (-2), 3) := by decide +kernel
theorem dX12_work_163 : decode cX12_work 163 = .ok (.aload_n 0, 1) := by decide +kernel
theorem dX12_work_164 : decode cX12_work 164 = .ok (.getfield 54, 3) := by decide +kernel
theorem dX12_work_167 : decode cX12_work 167 = .ok (.iload 5, 2) := by decide +kernel
theorem dX12_work_169 : decode cX12_work 169 = .ok (.iload 7, 2) := by decide +kernel
theorem dX12_work_171 : decode cX12_work 171 = .ok (.aload_n 0, 1) := by decide +kernel
theorem dX12_work_172 : decode cX12_work 172 = .ok (.getfield 50, 3) := by decide +kernel
theorem dX12_work_175 : decode cX12_work 175 = .ok (.iload 4, 2) := by decide +kernel
theorem dX12_work_177 : decode cX12_work 177 = .ok (.laload, 1) := by decide +kernel
theorem dX12_work_178 : decode cX12_work 178 = .ok (.aload_n 0, 1) := by decide +kernel
theorem dX12_work_179 : decode cX12_work 179 = .ok (.getfield 50, 3) := by decide +kernel
theorem dX12_work_182 : decode cX12_work 182 = .ok (.iload 4, 2) := by decide +kernel
theorem dX12_work_184 : decode cX12_work 184 = .ok (.iconst 1, 1) := by decide +kernel
theorem dX12_work_185 : decode cX12_work 185 = .ok (.iadd, 1) := by decide +kernel
theorem dX12_work_186 : decode cX12_work 186 = .ok (.laload, 1) := by decide +kernel
theorem dX12_work_187 : decode cX12_work 187 = .ok (.invokestatic 295, 3) := by decide +kernel
theorem dX12_work_190 : decode cX12_work 190 = .ok (.bastore, 1) := by decide +kernel
theorem dX12_work_191 : decode cX12_work 191 = .ok (.iinc 5 1, 3) := by decide +kernel
theorem dX12_work_194 : decode cX12_work 194 = .ok (.goto 115, 3) := by decide +kernel
theorem dX12_work_197 : decode cX12_work 197 = .ok (.iload 7, 2) := by decide +kernel
theorem dX12_work_199 : decode cX12_work 199 = .ok (.bipush 20, 2) := by decide +kernel
theorem dX12_work_201 : decode cX12_work 201 = .ok (.if_icmp .ne 32, 3) := by decide +kernel
theorem dX12_work_204 : decode cX12_work 204 = .ok (.aload_n 0, 1) := by decide +kernel
theorem dX12_work_205 : decode cX12_work 205 = .ok (.getfield 54, 3) := by decide +kernel
theorem dX12_work_208 : decode cX12_work 208 = .ok (.iload 5, 2) := by decide +kernel
theorem dX12_work_210 : decode cX12_work 210 = .ok (.iconst 1, 1) := by decide +kernel
theorem dX12_work_211 : decode cX12_work 211 = .ok (.isub, 1) := by decide +kernel
theorem dX12_work_212 : decode cX12_work 212 = .ok (.aload_n 0, 1) := by decide +kernel
theorem dX12_work_213 : decode cX12_work 213 = .ok (.getfield 54, 3) := by decide +kernel
theorem dX12_work_216 : decode cX12_work 216 = .ok (.iload 5, 2) := by decide +kernel
theorem dX12_work_218 : decode cX12_work 218 = .ok (.iconst 1, 1) := by decide +kernel
theorem dX12_work_219 : decode cX12_work 219 = .ok (.isub, 1) := by decide +kernel
theorem dX12_work_220 : decode cX12_work 220 = .ok (.baload, 1) := by decide +kernel
theorem dX12_work_221 : decode cX12_work 221 = .ok (.ifCond .ne 7, 3) := by decide +kernel
theorem dX12_work_224 : decode cX12_work 224 = .ok (.iconst 1, 1) := by decide +kernel
theorem dX12_work_225 : decode cX12_work 225 = .ok (.goto 4, 3) := by decide +kernel
theorem dX12_work_228 : decode cX12_work 228 = .ok (.iconst 0, 1) := by decide +kernel
theorem dX12_work_229 : decode cX12_work 229 = .ok (.bastore, 1) := by decide +kernel
theorem dX12_work_230 : decode cX12_work 230 = .ok (.goto 79, 3) := by decide +kernel
theorem dX12_work_233 : decode cX12_work 233 = .ok (.iinc 5 (-1), 3) := by decide +kernel
theorem dX12_work_236 : decode cX12_work 236 = .ok (.aload_n 0, 1) := by decide +kernel
theorem dX12_work_237 : decode cX12_work 237 = .ok (.getfield 54, 3) := by decide +kernel
theorem dX12_work_240 : decode cX12_work 240 = .ok (.iload 5, 2) := by decide +kernel
theorem dX12_work_242 : decode cX12_work 242 = .ok (.iconst 1, 1) := by decide +kernel
theorem dX12_work_243 : decode cX12_work 243 = .ok (.isub, 1) := by decide +kernel
theorem dX12_work_244 : decode cX12_work 244 = .ok (.iload 7, 2) := by decide +kernel
theorem dX12_work_246 : decode cX12_work 246 = .ok (.bipush 21, 2) := by decide +kernel
theorem dX12_work_248 : decode cX12_work 248 = .ok (.if_icmp .ne 33, 3) := by decide +kernel
theorem dX12_work_251 : decode cX12_work 251 = .ok (.aload_n 0, 1) := by decide +kernel
theorem dX12_work_252 : decode cX12_work 252 = .ok (.getfield 54, 3) := by decide +kernel
theorem dX12_work_255 : decode cX12_work 255 = .ok (.iload 5, 2) := by decide +kernel
theorem dX12_work_257 : decode cX12_work 257 = .ok (.iconst 1, 1) := by decide +kernel
theorem dX12_work_258 : decode cX12_work 258 = .ok (.isub, 1) := by decide +kernel
theorem dX12_work_259 : decode cX12_work 259 = .ok (.baload, 1) := by decide +kernel
theorem dX12_work_260 : decode cX12_work 260 = .ok (.ifCond .eq 17, 3) := by decide +kernel
theorem dX12_work_263 : decode cX12_work 263 = .ok (.aload_n 0, 1) := by decide +kernel
theorem dX12_work_264 : decode cX12_work 264 = .ok (.getfield 54, 3) := by decide +kernel
theorem dX12_work_267 : decode cX12_work 267 = .ok (.iload 5, 2) := by decide +kernel
theorem dX12_work_269 : decode cX12_work 269 = .ok (.baload, 1) := by decide +kernel
theorem dX12_work_270 : decode cX12_work 270 = .ok (.ifCond .eq 7, 3) := by decide +kernel
theorem dX12_work_273 : decode cX12_work 273 = .ok (.iconst 1, 1) := by decide +kernel
theorem dX12_work_274 : decode cX12_work 274 = .ok (.goto 34, 3) := by decide +kernel
theorem dX12_work_277 : decode cX12_work 277 = .ok (.iconst 0, 1) := by decide +kernel
theorem dX12_work_278 : decode cX12_work 278 = .ok (.goto 30, 3) := by decide +kernel
theorem dX12_work_281 : decode cX12_work 281 = .ok (.aload_n 0, 1) := by decide +kernel
theorem dX12_work_282 : decode cX12_work 282 = .ok (.getfield 54, 3) := by decide +kernel
theorem dX12_work_285 : decode cX12_work 285 = .ok (.iload 5, 2) := by decide +kernel
theorem dX12_work_287 : decode cX12_work 287 = .ok (.iconst 1, 1) := by decide +kernel
theorem dX12_work_288 : decode cX12_work 288 = .ok (.isub, 1) := by decide +kernel
theorem dX12_work_289 : decode cX12_work 289 = .ok (.baload, 1) := by decide +kernel
theorem dX12_work_290 : decode cX12_work 290 = .ok (.ifCond .ne 13, 3) := by decide +kernel
theorem dX12_work_293 : decode cX12_work 293 = .ok (.aload_n 0, 1) := by decide +kernel
theorem dX12_work_294 : decode cX12_work 294 = .ok (.getfield 54, 3) := by decide +kernel
theorem dX12_work_297 : decode cX12_work 297 = .ok (.iload 5, 2) := by decide +kernel
theorem dX12_work_299 : decode cX12_work 299 = .ok (.baload, 1) := by decide +kernel
theorem dX12_work_300 : decode cX12_work 300 = .ok (.ifCond .eq 7, 3) := by decide +kernel
theorem dX12_work_303 : decode cX12_work 303 = .ok (.iconst 1, 1) := by decide +kernel
theorem dX12_work_304 : decode cX12_work 304 = .ok (.goto 4, 3) := by decide +kernel
theorem dX12_work_307 : decode cX12_work 307 = .ok (.iconst 0, 1) := by decide +kernel
theorem dX12_work_308 : decode cX12_work 308 = .ok (.bastore, 1) := by decide +kernel
theorem dX12_work_309 : decode cX12_work 309 = .ok (.iinc 6 1, 3) := by decide +kernel
theorem dX12_work_312 : decode cX12_work 312 = .ok (.goto (-303), 3) := by decide +kernel
theorem dX12_work_315 : decode cX12_work 315 = .ok (.return_, 1) := by decide +kernel
set_option maxRecDepth 20000 in
theorem ggX12_think_X12_work : GoodIn wsX12_think wsX12_work := goodIn_r _ [14, 3, 5, 9, 15, 16, 17, 13, 18, 4, 19, 20, 21, 22, 23, 24, 25, 26, 27, 28, 29, 30, 31, 32, 33, 34, 35, 36, 37, 38, 39, 40, 41, 42, 43, 44, 45, 46, 47, 48, 49, 50, 51, 52, 53, 54, 55, 56, 57, 58, 59, 60, 61, 62, 63, 64, 65, 66, 67, 68, 69, 70, 71, 72, 73, 74, 75, 76, 77] (by decide +kernel) (by decide +kernel)
set_option maxRecDepth 20000 in
theorem gX12_think_X12_work : GoodIn wsX12_think (wsV RX12 305 RX12 yX12_work wsX12_work) := goodIn_app (goodIn_of _ (by decide +kernel)) ggX12_think_X12_work
theorem dX12_think_0 : decode cX12_think 0 = .ok (.sipush 800, 3) := by decide +kernel
theorem dX12_think_3 : decode cX12_think 3 = .ok (.iload_n 1, 1) := by decide +kernel
theorem dX12_think_4 : decode cX12_think 4 = .ok (.imul, 1) := by decide +kernel
theorem dX12_think_5 : decode cX12_think 5 = .ok (.istore_n 2, 1) := by decide +kernel
theorem dX12_think_6 : decode cX12_think 6 = .ok (.iconst 0, 1) := by decide +kernel
theorem dX12_think_7 : decode cX12_think 7 = .ok (.istore_n 3, 1) := by decide +kernel
theorem dX12_think_8 : decode cX12_think 8 = .ok (.aload_n 0, 1) := by decide +kernel
theorem dX12_think_9 : decode cX12_think 9 = .ok (.iconst 0, 1) := by decide +kernel
theorem dX12_think_10 : decode cX12_think 10 = .ok (.putfield 299, 3) := by decide +kernel
theorem dX12_think_13 : decode cX12_think 13 = .ok (.aload_n 0, 1) := by decide +kernel
theorem dX12_think_14 : decode cX12_think 14 = .ok (.iconst 0, 1) := by decide +kernel
theorem dX12_think_15 : decode cX12_think 15 = .ok (.putfield 302, 3) := by decide +kernel
theorem dX12_think_18 : decode cX12_think 18 = .ok (.iconst 0, 1) := by decide +kernel
theorem dX12_think_19 : decode cX12_think 19 = .ok (.istore 4, 2) := by decide +kernel
theorem dX12_think_21 : decode cX12_think 21 = .ok (.iload 4, 2) := by decide +kernel
theorem dX12_think_23 : decode cX12_think 23 = .ok (.aload_n 0, 1) := by decide +kernel
theorem dX12_think_24 : decode cX12_think 24 = .ok (.getfield 16, 3) := by decide +kernel
theorem dX12_think_27 : decode cX12_think 27 = .ok (.iload_n 2, 1) := by decide +kernel
theorem dX12_think_28 : decode cX12_think 28 = .ok (.iaload, 1) := by decide +kernel
theorem dX12_think_29 : decode cX12_think 29 = .ok (.if_icmp .ge 208, 3) := by decide +kernel
theorem dX12_think_32 : decode cX12_think 32 = .ok (.iload_n 2, 1) := by decide +kernel
theorem dX12_think_33 : decode cX12_think 33 = .ok (.iconst 1, 1) := by decide +kernel
theorem dX12_think_34 : decode cX12_think 34 = .ok (.iadd, 1) := by decide +kernel
theorem dX12_think_35 : decode cX12_think 35 = .ok (.iconst 4, 1) := by decide +kernel
theorem dX12_think_36 : decode cX12_think 36 = .ok (.iload 4, 2) := by decide +kernel
theorem dX12_think_38 : decode cX12_think 38 = .ok (.imul, 1) := by decide +kernel
theorem dX12_think_39 : decode cX12_think 39 = .ok (.iadd, 1) := by decide +kernel
theorem dX12_think_40 : decode cX12_think 40 = .ok (.istore 5, 2) := by decide +kernel
theorem dX12_think_42 : decode cX12_think 42 = .ok (.aload_n 0, 1) := by decide +kernel
theorem dX12_think_43 : decode cX12_think 43 = .ok (.iload_n 2, 1) := by decide +kernel
theorem dX12_think_44 : decode cX12_think 44 = .ok (.bipush 80, 2) := by decide +kernel
theorem dX12_think_46 : decode cX12_think 46 = .ok (.iadd, 1) := by decide +kernel
theorem dX12_think_47 : decode cX12_think 47 = .ok (.aload_n 0, 1) := by decide +kernel
theorem dX12_think_48 : decode cX12_think 48 = .ok (.getfield 16, 3) := by decide +kernel
theorem dX12_think_51 : decode cX12_think 51 = .ok (.iload 5, 2) := by decide +kernel
theorem dX12_think_53 : decode cX12_think 53 = .ok (.iconst 2, 1) := by decide +kernel
theorem dX12_think_54 : decode cX12_think 54 = .ok (.iadd, 1) := by decide +kernel
theorem dX12_think_55 : decode cX12_think 55 = .ok (.iaload, 1) := by decide +kernel
theorem dX12_think_56 : decode cX12_think 56 = .ok (.aload_n 0, 1) := by decide +kernel
theorem dX12_think_57 : decode cX12_think 57 = .ok (.getfield 16, 3) := by decide +kernel
theorem dX12_think_60 : decode cX12_think 60 = .ok (.iload 5, 2) := by decide +kernel
theorem dX12_think_62 : decode cX12_think 62 = .ok (.iconst 3, 1) := by decide +kernel
theorem dX12_think_63 : decode cX12_think 63 = .ok (.iadd, 1) := by decide +kernel
theorem dX12_think_64 : decode cX12_think 64 = .ok (.iaload, 1) := by decide +kernel
theorem dX12_think_65 : decode cX12_think 65 = .ok (.invokevirtual 305, 3) := by decide +kernel
theorem dX12_think_68 : decode cX12_think 68 = .ok (.aload_n 0, 1) := by decide +kernel
theorem dX12_think_69 : decode cX12_think 69 = .ok (.getfield 16, 3) := by decide +kernel
theorem dX12_think_72 : decode cX12_think 72 = .ok (.iload 5, 2) := by decide +kernel
theorem dX12_think_74 : decode cX12_think 74 = .ok (.iaload, 1) := by decide +kernel
theorem dX12_think_75 : decode cX12_think 75 = .ok (.iconst 1, 1) := by decide +kernel
theorem dX12_think_76 : decode cX12_think 76 = .ok (.if_icmp .ne 24, 3) := by decide +kernel
theorem dX12_think_79 : decode cX12_think 79 = .ok (.aload_n 0, 1) := by decide +kernel
theorem dX12_think_80 : decode cX12_think 80 = .ok (.getfield 47, 3) := by decide +kernel
theorem dX12_think_83 : decode cX12_think 83 = .ok (.aload_n 0, 1) := by decide +kernel
theorem dX12_think_84 : decode cX12_think 84 = .ok (.getfield 16, 3) := by decide +kernel
theorem dX12_think_87 : decode cX12_think 87 = .ok (.iload 5, 2) := by decide +kernel
theorem dX12_think_89 : decode cX12_think 89 = .ok (.iconst 1, 1) := by decide +kernel
theorem dX12_think_90 : decode cX12_think 90 = .ok (.iadd, 1) := by decide +kernel
theorem dX12_think_91 : decode cX12_think 91 = .ok (.iaload, 1) := by decide +kernel
theorem dX12_think_92 : decode cX12_think 92 = .ok (.aload_n 0, 1) := by decide +kernel
theorem dX12_think_93 : decode cX12_think 93 = .ok (.getfield 50, 3) := by decide +kernel
theorem dX12_think_96 : decode cX12_think 96 = .ok (.iconst 0, 1) := by decide +kernel
theorem dX12_think_97 : decode cX12_think 97 = .ok (.laload, 1) := by decide +kernel
theorem dX12_think_98 : decode cX12_think 98 = .ok (.l2i, 1) := by decide +kernel
theorem dX12_think_99 : decode cX12_think 99 = .ok (.iastore, 1) := by decide +kernel
theorem dX12_think_100 : decode cX12_think 100 = .ok (.aload_n 0, 1) := by decide +kernel
theorem dX12_think_101 : decode cX12_think 101 = .ok (.getfield 16, 3) := by decide +kernel
theorem dX12_think_104 : decode cX12_think 104 = .ok (.iload 5, 2) := by decide +kernel
theorem dX12_think_106 : decode cX12_think 106 = .ok (.iaload, 1) := by decide +kernel
theorem dX12_think_107 : decode cX12_think 107 = .ok (.iconst 2, 1) := by decide +kernel
theorem dX12_think_108 : decode cX12_think 108 = .ok (.if_icmp .ne 50, 3) := by decide +kernel
theorem dX12_think_111 : decode cX12_think 111 = .ok (.aload_n 0, 1) := by decide +kernel
theorem dX12_think_112 : decode cX12_think 112 = .ok (.aload_n 0, 1) := by decide +kernel
theorem dX12_think_113 : decode cX12_think 113 = .ok (.getfield 50, 3) := by decide +kernel
theorem dX12_think_116 : decode cX12_think 116 = .ok (.iconst 0, 1) := by decide +kernel
theorem dX12_think_117 : decode cX12_think 117 = .ok (.laload, 1) := by decide +kernel
theorem dX12_think_118 : decode cX12_think 118 = .ok (.ldc2_w 308, 3) := by decide +kernel
theorem dX12_think_121 : decode cX12_think 121 = .ok (.lcmp, 1) := by decide +kernel
theorem dX12_think_122 : decode cX12_think 122 = .ok (.ifCond .ge 8, 3) := by decide +kernel
theorem dX12_think_125 : decode cX12_think 125 = .ok (.bipush (-8), 2) := by decide +kernel
theorem dX12_think_127 : decode cX12_think 127 = .ok (.goto 28, 3) := by decide +kernel
theorem dX12_think_130 : decode cX12_think 130 = .ok (.aload_n 0, 1) := by decide +kernel
theorem dX12_think_131 : decode cX12_think 131 = .ok (.getfield 50, 3) := by decide +kernel
theorem dX12_think_134 : decode cX12_think 134 = .ok (.iconst 0, 1) := by decide +kernel
theorem dX12_think_135 : decode cX12_think 135 = .ok (.laload, 1) := by decide +kernel
theorem dX12_think_136 : decode cX12_think 136 = .ok (.ldc2_w 310, 3) := by decide +kernel
theorem dX12_think_139 : decode cX12_think 139 = .ok (.lcmp, 1) := by decide +kernel
theorem dX12_think_140 : decode cX12_think 140 = .ok (.ifCond .le 8, 3) := by decide +kernel
theorem dX12_think_143 : decode cX12_think 143 = .ok (.bipush 8, 2) := by decide +kernel
theorem dX12_think_145 : decode cX12_think 145 = .ok (.goto 10, 3) := by decide +kernel
theorem dX12_think_148 : decode cX12_think 148 = .ok (.aload_n 0, 1) := by decide +kernel
theorem dX12_think_149 : decode cX12_think 149 = .ok (.getfield 50, 3) := by decide +kernel
theorem dX12_think_152 : decode cX12_think 152 = .ok (.iconst 0, 1) := by decide +kernel
theorem dX12_think_153 : decode cX12_think 153 = .ok (.laload, 1) := by decide +kernel
theorem dX12_think_154 : decode cX12_think 154 = .ok (.l2i, 1) := by decide +kernel
theorem dX12_think_155 : decode cX12_think 155 = .ok (.putfield 299, 3) := by decide +kernel
theorem dX12_think_158 : decode cX12_think 158 = .ok (.aload_n 0, 1) := by decide +kernel
theorem dX12_think_159 : decode cX12_think 159 = .ok (.getfield 16, 3) := by decide +kernel
theorem dX12_think_162 : decode cX12_think 162 = .ok (.iload 5, 2) := by decide +kernel
theorem dX12_think_164 : decode cX12_think 164 = .ok (.iaload, 1) := by decide +kernel
theorem dX12_think_165 : decode cX12_think 165 = .ok (.iconst 3, 1) := by decide +kernel
theorem dX12_think_166 : decode cX12_think 166 = .ok (.if_icmp .ne 47, 3) := by decide +kernel
theorem dX12_think_169 : decode cX12_think 169 = .ok (.aload_n 0, 1) := by decide +kernel
theorem dX12_think_170 : decode cX12_think 170 = .ok (.aload_n 0, 1) := by decide +kernel
theorem dX12_think_171 : decode cX12_think 171 = .ok (.getfield 50, 3) := by decide +kernel
theorem dX12_think_174 : decode cX12_think 174 = .ok (.iconst 0, 1) := by decide +kernel
theorem dX12_think_175 : decode cX12_think 175 = .ok (.laload, 1) := by decide +kernel
theorem dX12_think_176 : decode cX12_think 176 = .ok (.lconst 0, 1) := by decide +kernel
theorem dX12_think_177 : decode cX12_think 177 = .ok (.lcmp, 1) := by decide +kernel
theorem dX12_think_178 : decode cX12_think 178 = .ok (.ifCond .ge 7, 3) := by decide +kernel
theorem dX12_think_181 : decode cX12_think 181 = .ok (.iconst 0, 1) := by decide +kernel
theorem dX12_think_182 : decode cX12_think 182 = .ok (.goto 28, 3) := by decide +kernel
theorem dX12_think_185 : decode cX12_think 185 = .ok (.aload_n 0, 1) := by decide +kernel
theorem dX12_think_186 : decode cX12_think 186 = .ok (.getfield 50, 3) := by decide +kernel
theorem dX12_think_189 : decode cX12_think 189 = .ok (.iconst 0, 1) := by decide +kernel
theorem dX12_think_190 : decode cX12_think 190 = .ok (.laload, 1) := by decide +kernel
theorem dX12_think_191 : decode cX12_think 191 = .ok (.ldc2_w 312, 3) := by decide +kernel
theorem dX12_think_194 : decode cX12_think 194 = .ok (.lcmp, 1) := by decide +kernel
theorem dX12_think_195 : decode cX12_think 195 = .ok (.ifCond .le 8, 3) := by decide +kernel
theorem dX12_think_198 : decode cX12_think 198 = .ok (.bipush 16, 2) := by decide +kernel
theorem dX12_think_200 : decode cX12_think 200 = .ok (.goto 10, 3) := by decide +kernel
theorem dX12_think_203 : decode cX12_think 203 = .ok (.aload_n 0, 1) := by decide +kernel
theorem dX12_think_204 : decode cX12_think 204 = .ok (.getfield 50, 3) := by decide +kernel
theorem dX12_think_207 : decode cX12_think 207 = .ok (.iconst 0, 1) := by decide +kernel
theorem dX12_think_208 : decode cX12_think 208 = .ok (.laload, 1) := by decide +kernel
theorem dX12_think_209 : decode cX12_think 209 = .ok (.l2i, 1) := by decide +kernel
theorem dX12_think_210 : decode cX12_think 210 = .ok (.putfield 302, 3) := by decide +kernel
theorem dX12_think_213 : decode cX12_think 213 = .ok (.aload_n 0, 1) := by decide +kernel
theorem dX12_think_214 : decode cX12_think 214 = .ok (.getfield 16, 3) := by decide +kernel
theorem dX12_think_217 : decode cX12_think 217 = .ok (.iload 5, 2) := by decide +kernel
theorem dX12_think_219 : decode cX12_think 219 = .ok (.iaload, 1) := by decide +kernel
theorem dX12_think_220 : decode cX12_think 220 = .ok (.iconst 4, 1) := by decide +kernel
theorem dX12_think_221 : decode cX12_think 221 = .ok (.if_icmp .ne 10, 3) := by decide +kernel
theorem dX12_think_224 : decode cX12_think 224 = .ok (.aload_n 0, 1) := by decide +kernel
theorem dX12_think_225 : decode cX12_think 225 = .ok (.getfield 54, 3) := by decide +kernel
theorem dX12_think_228 : decode cX12_think 228 = .ok (.iconst 0, 1) := by decide +kernel
theorem dX12_think_229 : decode cX12_think 229 = .ok (.baload, 1) := by decide +kernel
theorem dX12_think_230 : decode cX12_think 230 = .ok (.istore_n 3, 1) := by decide +kernel
theorem dX12_think_231 : decode cX12_think 231 = .ok (.iinc 4 1, 3) := by decide +kernel
theorem dX12_think_234 : decode cX12_think 234 = .ok (.goto (-213), 3) := by decide +kernel
theorem dX12_think_237 : decode cX12_think 237 = .ok (.iload_n 3, 1) := by decide +kernel
theorem dX12_think_238 : decode cX12_think 238 = .ok (.ireturn, 1) := by decide +kernel
set_option maxRecDepth 20000 in
theorem ggX12_see__X12_look : GoodIn wsX12_see_ wsX12_look := goodIn_r _ [11, 12, 13, 14, 10, 15, 16, 17, 18, 4, 19, 20, 21, 22, 23, 24, 25, 26, 27, 28, 29, 30, 31, 32, 33, 34, 35, 36, 37, 38, 39, 40, 52, 53, 54, 55, 56, 57, 58, 59, 60, 61, 62, 63, 64, 65, 66, 67, 68, 69, 70, 71, 72, 73, 74, 75, 76, 77, 78, 79, 80, 81, 82, 83, 84, 85, 86, 87, 88, 89, 90, 91, 92, 93, 94] (by decide +kernel) (by decide +kernel)
set_option maxRecDepth 20000 in
theorem gX12_see__X12_look : GoodIn wsX12_see_ (wsV RX12 124 RX12 yX12_look wsX12_look) := goodIn_app (goodIn_of _ (by decide +kernel)) ggX12_see__X12_look
set_option maxRecDepth 20000 in
theorem ggX12_see__X12_lensTake : GoodIn wsX12_see_ wsX12_lensTake := goodIn_r _ [44, 4, 45, 46, 47, 10, 48, 30, 49, 50, 51, 52, 53, 54, 55, 56, 57, 58, 59, 60, 61, 62, 63, 64, 65, 66, 67, 68, 69, 70, 71, 72, 73, 74, 75, 76, 77, 78, 79, 80, 81, 82, 83, 84, 85, 86, 87, 88, 89, 90, 91, 92, 93, 94] (by decide +kernel) (by decide +kernel)
set_option maxRecDepth 20000 in
theorem gX12_see__X12_lensTake : GoodIn wsX12_see_ (wsV RX12 127 RX12 yX12_lensTake wsX12_lensTake) := goodIn_app (goodIn_of _ (by decide +kernel)) ggX12_see__X12_lensTake
theorem dX12_see__0 : decode cX12_see_ 0 = .ok (.bipush 38, 2) := by decide +kernel
theorem dX12_see__2 : decode cX12_see_ 2 = .ok (.aload_n 0, 1) := by decide +kernel
theorem dX12_see__3 : decode cX12_see_ 3 = .ok (.getfield 284, 3) := by decide +kernel
theorem dX12_see__6 : decode cX12_see_ 6 = .ok (.imul, 1) := by decide +kernel
theorem dX12_see__7 : decode cX12_see_ 7 = .ok (.istore_n 1, 1) := by decide +kernel
theorem dX12_see__8 : decode cX12_see_ 8 = .ok (.aload_n 0, 1) := by decide +kernel
theorem dX12_see__9 : decode cX12_see_ 9 = .ok (.aload_n 0, 1) := by decide +kernel
theorem dX12_see__10 : decode cX12_see_ 10 = .ok (.getfield 314, 3) := by decide +kernel
theorem dX12_see__13 : decode cX12_see_ 13 = .ok (.aload_n 0, 1) := by decide +kernel
theorem dX12_see__14 : decode cX12_see_ 14 = .ok (.getfield 317, 3) := by decide +kernel
theorem dX12_see__17 : decode cX12_see_ 17 = .ok (.aload_n 0, 1) := by decide +kernel
theorem dX12_see__18 : decode cX12_see_ 18 = .ok (.getfield 284, 3) := by decide +kernel
theorem dX12_see__21 : decode cX12_see_ 21 = .ok (.invokevirtual 124, 3) := by decide +kernel
theorem dX12_see__24 : decode cX12_see_ 24 = .ok (.iconst 0, 1) := by decide +kernel
theorem dX12_see__25 : decode cX12_see_ 25 = .ok (.istore_n 2, 1) := by decide +kernel
theorem dX12_see__26 : decode cX12_see_ 26 = .ok (.iload_n 2, 1) := by decide +kernel
theorem dX12_see__27 : decode cX12_see_ 27 = .ok (.aload_n 0, 1) := by decide +kernel
theorem dX12_see__28 : decode cX12_see_ 28 = .ok (.getfield 7, 3) := by decide +kernel
theorem dX12_see__31 : decode cX12_see_ 31 = .ok (.iconst 1, 1) := by decide +kernel
theorem dX12_see__32 : decode cX12_see_ 32 = .ok (.iaload, 1) := by decide +kernel
theorem dX12_see__33 : decode cX12_see_ 33 = .ok (.if_icmp .ge 28, 3) := by decide +kernel
theorem dX12_see__36 : decode cX12_see_ 36 = .ok (.aload_n 0, 1) := by decide +kernel
theorem dX12_see__37 : decode cX12_see_ 37 = .ok (.getfield 44, 3) := by decide +kernel
theorem dX12_see__40 : decode cX12_see_ 40 = .ok (.iload_n 1, 1) := by decide +kernel
theorem dX12_see__41 : decode cX12_see_ 41 = .ok (.iconst 5, 1) := by decide +kernel
theorem dX12_see__42 : decode cX12_see_ 42 = .ok (.iadd, 1) := by decide +kernel
theorem dX12_see__43 : decode cX12_see_ 43 = .ok (.iload_n 2, 1) := by decide +kernel
theorem dX12_see__44 : decode cX12_see_ 44 = .ok (.iadd, 1) := by decide +kernel
theorem dX12_see__45 : decode cX12_see_ 45 = .ok (.aload_n 0, 1) := by decide +kernel
theorem dX12_see__46 : decode cX12_see_ 46 = .ok (.iload_n 2, 1) := by decide +kernel
theorem dX12_see__47 : decode cX12_see_ 47 = .ok (.aload_n 0, 1) := by decide +kernel
theorem dX12_see__48 : decode cX12_see_ 48 = .ok (.getfield 320, 3) := by decide +kernel
theorem dX12_see__51 : decode cX12_see_ 51 = .ok (.invokevirtual 127, 3) := by decide +kernel
theorem dX12_see__54 : decode cX12_see_ 54 = .ok (.iastore, 1) := by decide +kernel
theorem dX12_see__55 : decode cX12_see_ 55 = .ok (.iinc 2 1, 3) := by decide +kernel
theorem dX12_see__58 : decode cX12_see_ 58 = .ok (.goto (-32), 3) := by decide +kernel
theorem dX12_see__61 : decode cX12_see_ 61 = .ok (.iconst 0, 1) := by decide +kernel
theorem dX12_see__62 : decode cX12_see_ 62 = .ok (.istore_n 2, 1) := by decide +kernel
theorem dX12_see__63 : decode cX12_see_ 63 = .ok (.iload_n 2, 1) := by decide +kernel
theorem dX12_see__64 : decode cX12_see_ 64 = .ok (.aload_n 0, 1) := by decide +kernel
theorem dX12_see__65 : decode cX12_see_ 65 = .ok (.getfield 7, 3) := by decide +kernel
theorem dX12_see__68 : decode cX12_see_ 68 = .ok (.iconst 2, 1) := by decide +kernel
theorem dX12_see__69 : decode cX12_see_ 69 = .ok (.iaload, 1) := by decide +kernel
theorem dX12_see__70 : decode cX12_see_ 70 = .ok (.if_icmp .ge 129, 3) := by decide +kernel
theorem dX12_see__73 : decode cX12_see_ 73 = .ok (.sipush 660, 3) := by decide +kernel
theorem dX12_see__76 : decode cX12_see_ 76 = .ok (.iconst 3, 1) := by decide +kernel
theorem dX12_see__77 : decode cX12_see_ 77 = .ok (.iload_n 2, 1) := by decide +kernel
theorem dX12_see__78 : decode cX12_see_ 78 = .ok (.imul, 1) := by decide +kernel
theorem dX12_see__79 : decode cX12_see_ 79 = .ok (.iadd, 1) := by decide +kernel
theorem dX12_see__80 : decode cX12_see_ 80 = .ok (.istore_n 3, 1) := by decide +kernel
theorem dX12_see__81 : decode cX12_see_ 81 = .ok (.iload_n 1, 1) := by decide +kernel
theorem dX12_see__82 : decode cX12_see_ 82 = .ok (.bipush 38, 2) := by decide +kernel
theorem dX12_see__84 : decode cX12_see_ 84 = .ok (.aload_n 0, 1) := by decide +kernel
theorem dX12_see__85 : decode cX12_see_ 85 = .ok (.getfield 7, 3) := by decide +kernel
theorem dX12_see__88 : decode cX12_see_ 88 = .ok (.iload_n 3, 1) := by decide +kernel
theorem dX12_see__89 : decode cX12_see_ 89 = .ok (.iconst 2, 1) := by decide +kernel
theorem dX12_see__90 : decode cX12_see_ 90 = .ok (.iadd, 1) := by decide +kernel
theorem dX12_see__91 : decode cX12_see_ 91 = .ok (.iaload, 1) := by decide +kernel
theorem dX12_see__92 : decode cX12_see_ 92 = .ok (.imul, 1) := by decide +kernel
theorem dX12_see__93 : decode cX12_see_ 93 = .ok (.isub, 1) := by decide +kernel
theorem dX12_see__94 : decode cX12_see_ 94 = .ok (.iconst 5, 1) := by decide +kernel
theorem dX12_see__95 : decode cX12_see_ 95 = .ok (.iadd, 1) := by decide +kernel
theorem dX12_see__96 : decode cX12_see_ 96 = .ok (.istore 4, 2) := by decide +kernel
theorem dX12_see__98 : decode cX12_see_ 98 = .ok (.aload_n 0, 1) := by decide +kernel
theorem dX12_see__99 : decode cX12_see_ 99 = .ok (.getfield 44, 3) := by decide +kernel
theorem dX12_see__102 : decode cX12_see_ 102 = .ok (.iload_n 1, 1) := by decide +kernel
theorem dX12_see__103 : decode cX12_see_ 103 = .ok (.bipush 21, 2) := by decide +kernel
theorem dX12_see__105 : decode cX12_see_ 105 = .ok (.iadd, 1) := by decide +kernel
theorem dX12_see__106 : decode cX12_see_ 106 = .ok (.iload_n 2, 1) := by decide +kernel
theorem dX12_see__107 : decode cX12_see_ 107 = .ok (.iadd, 1) := by decide +kernel
theorem dX12_see__108 : decode cX12_see_ 108 = .ok (.aload_n 0, 1) := by decide +kernel
theorem dX12_see__109 : decode cX12_see_ 109 = .ok (.getfield 284, 3) := by decide +kernel
theorem dX12_see__112 : decode cX12_see_ 112 = .ok (.aload_n 0, 1) := by decide +kernel
theorem dX12_see__113 : decode cX12_see_ 113 = .ok (.getfield 7, 3) := by decide +kernel
theorem dX12_see__116 : decode cX12_see_ 116 = .ok (.iload_n 3, 1) := by decide +kernel
theorem dX12_see__117 : decode cX12_see_ 117 = .ok (.iconst 2, 1) := by decide +kernel
theorem dX12_see__118 : decode cX12_see_ 118 = .ok (.iadd, 1) := by decide +kernel
theorem dX12_see__119 : decode cX12_see_ 119 = .ok (.iaload, 1) := by decide +kernel
theorem dX12_see__120 : decode cX12_see_ 120 = .ok (.if_icmp .ge 7, 3) := by decide +kernel
theorem dX12_see__123 : decode cX12_see_ 123 = .ok (.iconst 0, 1) := by decide +kernel
theorem dX12_see__124 : decode cX12_see_ 124 = .ok (.goto 68, 3) := by decide +kernel
theorem dX12_see__127 : decode cX12_see_ 127 = .ok (.aload_n 0, 1) := by decide +kernel
theorem dX12_see__128 : decode cX12_see_ 128 = .ok (.getfield 44, 3) := by decide +kernel
theorem dX12_see__131 : decode cX12_see_ 131 = .ok (.iload 4, 2) := by decide +kernel
theorem dX12_see__133 : decode cX12_see_ 133 = .ok (.aload_n 0, 1) := by decide +kernel
theorem dX12_see__134 : decode cX12_see_ 134 = .ok (.getfield 7, 3) := by decide +kernel
theorem dX12_see__137 : decode cX12_see_ 137 = .ok (.iload_n 3, 1) := by decide +kernel
theorem dX12_see__138 : decode cX12_see_ 138 = .ok (.iaload, 1) := by decide +kernel
theorem dX12_see__139 : decode cX12_see_ 139 = .ok (.iadd, 1) := by decide +kernel
theorem dX12_see__140 : decode cX12_see_ 140 = .ok (.iaload, 1) := by decide +kernel
theorem dX12_see__141 : decode cX12_see_ 141 = .ok (.aload_n 0, 1) := by decide +kernel
theorem dX12_see__142 : decode cX12_see_ 142 = .ok (.getfield 44, 3) := by decide +kernel
theorem dX12_see__145 : decode cX12_see_ 145 = .ok (.iload_n 1, 1) := by decide +kernel
theorem dX12_see__146 : decode cX12_see_ 146 = .ok (.iconst 5, 1) := by decide +kernel
theorem dX12_see__147 : decode cX12_see_ 147 = .ok (.iadd, 1) := by decide +kernel
theorem dX12_see__148 : decode cX12_see_ 148 = .ok (.aload_n 0, 1) := by decide +kernel
theorem dX12_see__149 : decode cX12_see_ 149 = .ok (.getfield 7, 3) := by decide +kernel
theorem dX12_see__152 : decode cX12_see_ 152 = .ok (.iload_n 3, 1) := by decide +kernel
theorem dX12_see__153 : decode cX12_see_ 153 = .ok (.iconst 1, 1) := by decide +kernel
theorem dX12_see__154 : decode cX12_see_ 154 = .ok (.iadd, 1) := by decide +kernel
theorem dX12_see__155 : decode cX12_see_ 155 = .ok (.iaload, 1) := by decide +kernel
theorem dX12_see__156 : decode cX12_see_ 156 = .ok (.iadd, 1) := by decide +kernel
theorem dX12_see__157 : decode cX12_see_ 157 = .ok (.iaload, 1) := by decide +kernel
theorem dX12_see__158 : decode cX12_see_ 158 = .ok (.imul, 1) := by decide +kernel
theorem dX12_see__159 : decode cX12_see_ 159 = .ok (.aload_n 0, 1) := by decide +kernel
theorem dX12_see__160 : decode cX12_see_ 160 = .ok (.getfield 44, 3) := by decide +kernel
theorem dX12_see__163 : decode cX12_see_ 163 = .ok (.iload_n 1, 1) := by decide +kernel
theorem dX12_see__164 : decode cX12_see_ 164 = .ok (.iconst 5, 1) := by decide +kernel
theorem dX12_see__165 : decode cX12_see_ 165 = .ok (.iadd, 1) := by decide +kernel
theorem dX12_see__166 : decode cX12_see_ 166 = .ok (.aload_n 0, 1) := by decide +kernel
theorem dX12_see__167 : decode cX12_see_ 167 = .ok (.getfield 7, 3) := by decide +kernel
theorem dX12_see__170 : decode cX12_see_ 170 = .ok (.iload_n 3, 1) := by decide +kernel
theorem dX12_see__171 : decode cX12_see_ 171 = .ok (.iaload, 1) := by decide +kernel
theorem dX12_see__172 : decode cX12_see_ 172 = .ok (.iadd, 1) := by decide +kernel
theorem dX12_see__173 : decode cX12_see_ 173 = .ok (.iaload, 1) := by decide +kernel
theorem dX12_see__174 : decode cX12_see_ 174 = .ok (.aload_n 0, 1) := by decide +kernel
theorem dX12_see__175 : decode cX12_see_ 175 = .ok (.getfield 44, 3) := by decide +kernel
theorem dX12_see__178 : decode cX12_see_ 178 = .ok (.iload 4, 2) := by decide +kernel
theorem dX12_see__180 : decode cX12_see_ 180 = .ok (.aload_n 0, 1) := by decide +kernel
theorem dX12_see__181 : decode cX12_see_ 181 = .ok (.getfield 7, 3) := by decide +kernel
theorem dX12_see__184 : decode cX12_see_ 184 = .ok (.iload_n 3, 1) := by decide +kernel
theorem dX12_see__185 : decode cX12_see_ 185 = .ok (.iconst 1, 1) := by decide +kernel
theorem dX12_see__186 : decode cX12_see_ 186 = .ok (.iadd, 1) := by decide +kernel
theorem dX12_see__187 : decode cX12_see_ 187 = .ok (.iaload, 1) := by decide +kernel
theorem dX12_see__188 : decode cX12_see_ 188 = .ok (.iadd, 1) := by decide +kernel
theorem dX12_see__189 : decode cX12_see_ 189 = .ok (.iaload, 1) := by decide +kernel
theorem dX12_see__190 : decode cX12_see_ 190 = .ok (.imul, 1) := by decide +kernel
theorem dX12_see__191 : decode cX12_see_ 191 = .ok (.isub, 1) := by decide +kernel
theorem dX12_see__192 : decode cX12_see_ 192 = .ok (.iastore, 1) := by decide +kernel
theorem dX12_see__193 : decode cX12_see_ 193 = .ok (.iinc 2 1, 3) := by decide +kernel
theorem dX12_see__196 : decode cX12_see_ 196 = .ok (.goto (-133), 3) := by decide +kernel
theorem dX12_see__199 : decode cX12_see_ 199 = .ok (.return_, 1) := by decide +kernel
set_option maxRecDepth 20000 in
theorem ggX12_isStart_X12_isPlace : GoodIn wsX12_isStart wsX12_isPlace := goodIn_r _ [6, 1, 7, 8, 9, 5, 10, 20, 21, 22, 23, 24, 25, 26, 27, 28, 29, 30, 31, 32, 33, 34, 35, 36, 37, 38, 39, 40, 41, 42, 43, 44, 45, 46, 47, 48, 49, 50, 51, 52, 53, 54, 55, 56, 57, 58, 59, 60, 61, 62] (by decide +kernel) (by decide +kernel)
set_option maxRecDepth 20000 in
theorem gX12_isStart_X12_isPlace : GoodIn wsX12_isStart (wsV RX12 107 RX12 yX12_isPlace wsX12_isPlace) := goodIn_app (goodIn_of _ (by decide +kernel)) ggX12_isStart_X12_isPlace
set_option maxRecDepth 20000 in
theorem ggX12_isStart_X12_markAt : GoodIn wsX12_isStart wsX12_markAt := goodIn_r _ [14, 15, 16, 17, 18, 5, 19, 1, 7, 8, 9, 10, 20, 21, 22, 23, 24, 25, 26, 27, 28, 29, 30, 31, 32, 33, 34, 35, 36, 37, 38, 39, 40, 41, 42, 43, 44, 45, 46, 47, 48, 49, 50, 51, 52, 53, 54, 55, 56, 57, 58, 59, 60, 61, 62] (by decide +kernel) (by decide +kernel)
set_option maxRecDepth 20000 in
theorem gX12_isStart_X12_markAt : GoodIn wsX12_isStart (wsV RX12 86 RX12 yX12_markAt wsX12_markAt) := goodIn_app (goodIn_of _ (by decide +kernel)) ggX12_isStart_X12_markAt
theorem dX12_isStart_0 : decode cX12_isStart 0 = .ok (.aload_n 0, 1) := by decide +kernel
theorem dX12_isStart_1 : decode cX12_isStart 1 = .ok (.iload_n 1, 1) := by decide +kernel
theorem dX12_isStart_2 : decode cX12_isStart 2 = .ok (.iload_n 2, 1) := by decide +kernel
theorem dX12_isStart_3 : decode cX12_isStart 3 = .ok (.invokevirtual 107, 3) := by decide +kernel
theorem dX12_isStart_6 : decode cX12_isStart 6 = .ok (.ifCond .eq 29, 3) := by decide +kernel
theorem dX12_isStart_9 : decode cX12_isStart 9 = .ok (.aload_n 0, 1) := by decide +kernel
theorem dX12_isStart_10 : decode cX12_isStart 10 = .ok (.iload_n 2, 1) := by decide +kernel
theorem dX12_isStart_11 : decode cX12_isStart 11 = .ok (.bipush 16, 2) := by decide +kernel
theorem dX12_isStart_13 : decode cX12_isStart 13 = .ok (.idiv, 1) := by decide +kernel
theorem dX12_isStart_14 : decode cX12_isStart 14 = .ok (.aload_n 0, 1) := by decide +kernel
theorem dX12_isStart_15 : decode cX12_isStart 15 = .ok (.getfield 61, 3) := by decide +kernel
theorem dX12_isStart_18 : decode cX12_isStart 18 = .ok (.imul, 1) := by decide +kernel
theorem dX12_isStart_19 : decode cX12_isStart 19 = .ok (.iload_n 1, 1) := by decide +kernel
theorem dX12_isStart_20 : decode cX12_isStart 20 = .ok (.bipush 16, 2) := by decide +kernel
theorem dX12_isStart_22 : decode cX12_isStart 22 = .ok (.idiv, 1) := by decide +kernel
theorem dX12_isStart_23 : decode cX12_isStart 23 = .ok (.iadd, 1) := by decide +kernel
theorem dX12_isStart_24 : decode cX12_isStart 24 = .ok (.iconst 0, 1) := by decide +kernel
theorem dX12_isStart_25 : decode cX12_isStart 25 = .ok (.invokevirtual 86, 3) := by decide +kernel
theorem dX12_isStart_28 : decode cX12_isStart 28 = .ok (.ifCond .ne 7, 3) := by decide +kernel
theorem dX12_isStart_31 : decode cX12_isStart 31 = .ok (.iconst 1, 1) := by decide +kernel
theorem dX12_isStart_32 : decode cX12_isStart 32 = .ok (.goto 4, 3) := by decide +kernel
theorem dX12_isStart_35 : decode cX12_isStart 35 = .ok (.iconst 0, 1) := by decide +kernel
theorem dX12_isStart_36 : decode cX12_isStart 36 = .ok (.ireturn, 1) := by decide +kernel
set_option maxRecDepth 20000 in
theorem ggX12_run_X12_see_ : GoodIn wsX12_run wsX12_see_ := goodIn_r _ [17, 8, 2, 3, 18, 9, 4, 19, 20, 21, 16, 22, 23, 24, 25, 26, 12, 27, 28, 29, 30, 31, 32, 33, 34, 35, 36, 37, 38, 39, 40, 41, 42, 43, 44, 45, 46, 47, 48, 49, 50, 51, 52, 53, 54, 55, 56, 57, 58, 59, 60, 61, 101, 102, 103, 104, 105, 106, 107, 108, 109, 110, 111, 112, 113, 114, 115, 116, 117, 118, 119, 120, 121, 122, 123, 124, 125, 126, 127, 128, 129, 130, 131, 132, 133, 134, 135, 136, 137, 138, 139, 140, 141, 142, 143] (by decide +kernel) (by decide +kernel)
set_option maxRecDepth 20000 in
theorem gX12_run_X12_see_ : GoodIn wsX12_run (wsV RX12 332 RX12 yX12_see_ wsX12_see_) := goodIn_app (goodIn_of _ (by decide +kernel)) ggX12_run_X12_see_
set_option maxRecDepth 20000 in
theorem ggX12_run_X12_think : GoodIn wsX12_run wsX12_think := goodIn_r _ [65, 10, 11, 66, 67, 68, 69, 70, 71, 72, 73, 74, 75, 16, 76, 77, 78, 79, 80, 8, 18, 9, 81, 82, 83, 84, 85, 7, 86, 87, 88, 89, 90, 91, 92, 101, 102, 103, 104, 105, 106, 107, 108, 109, 110, 111, 112, 113, 114, 115, 116, 117, 118, 119, 120, 121, 122, 123, 124, 125, 126, 127, 128, 129, 130, 131, 132, 133, 134, 135, 136, 137, 138, 139, 140, 141, 142, 143] (by decide +kernel) (by decide +kernel)
set_option maxRecDepth 20000 in
theorem gX12_run_X12_think : GoodIn wsX12_run (wsV RX12 334 RX12 yX12_think wsX12_think) := goodIn_app (goodIn_of _ (by decide +kernel)) ggX12_run_X12_think
set_option maxRecDepth 20000 in
theorem ggX12_run_X12_wayX : GoodIn wsX12_run wsX12_wayX := goodIn_r _ [44] (by decide +kernel) (by decide +kernel)
set_option maxRecDepth 20000 in
theorem gX12_run_X12_wayX : GoodIn wsX12_run (va_wsS RX12 89 yX12_wayX wsX12_wayX) := goodIn_app (goodIn_of _ (by decide +kernel)) ggX12_run_X12_wayX
set_option maxRecDepth 20000 in
theorem ggX12_run_X12_floor : GoodIn wsX12_run wsX12_floor := goodIn_r _ [47] (by decide +kernel) (by decide +kernel)
set_option maxRecDepth 20000 in
theorem gX12_run_X12_floor : GoodIn wsX12_run (va_wsS RX12 93 yX12_floor wsX12_floor) := goodIn_app (goodIn_of _ (by decide +kernel)) ggX12_run_X12_floor
set_option maxRecDepth 20000 in
theorem ggX12_run_X12_wayY : GoodIn wsX12_run wsX12_wayY := goodIn_r _ [50] (by decide +kernel) (by decide +kernel)
set_option maxRecDepth 20000 in
theorem gX12_run_X12_wayY : GoodIn wsX12_run (va_wsS RX12 96 yX12_wayY wsX12_wayY) := goodIn_app (goodIn_of _ (by decide +kernel)) ggX12_run_X12_wayY
set_option maxRecDepth 20000 in
theorem ggX12_run_X12_isPlace : GoodIn wsX12_run wsX12_isPlace := goodIn_r _ [96, 12, 27, 33, 34, 16, 35, 101, 102, 103, 104, 105, 106, 107, 108, 109, 110, 111, 112, 113, 114, 115, 116, 117, 118, 119, 120, 121, 122, 123, 124, 125, 126, 127, 128, 129, 130, 131, 132, 133, 134, 135, 136, 137, 138, 139, 140, 141, 142, 143] (by decide +kernel) (by decide +kernel)
set_option maxRecDepth 20000 in
theorem gX12_run_X12_isPlace : GoodIn wsX12_run (wsV RX12 107 RX12 yX12_isPlace wsX12_isPlace) := goodIn_app (goodIn_of _ (by decide +kernel)) ggX12_run_X12_isPlace
set_option maxRecDepth 20000 in
theorem ggX12_run_X12_markAt : GoodIn wsX12_run wsX12_markAt := goodIn_r _ [100, 18, 29, 30, 31, 16, 32, 12, 27, 33, 34, 35, 101, 102, 103, 104, 105, 106, 107, 108, 109, 110, 111, 112, 113, 114, 115, 116, 117, 118, 119, 120, 121, 122, 123, 124, 125, 126, 127, 128, 129, 130, 131, 132, 133, 134, 135, 136, 137, 138, 139, 140, 141, 142, 143] (by decide +kernel) (by decide +kernel)
set_option maxRecDepth 20000 in
theorem gX12_run_X12_markAt : GoodIn wsX12_run (wsV RX12 86 RX12 yX12_markAt wsX12_markAt) := goodIn_app (goodIn_of _ (by decide +kernel)) ggX12_run_X12_markAt
theorem dX12_run_0 : decode cX12_run 0 = .ok (.aload_n 0, 1) := by decide +kernel
theorem dX12_run_1 : decode cX12_run 1 = .ok (.iconst 0, 1) := by decide +kernel
theorem dX12_run_2 : decode cX12_run 2 = .ok (.putfield 323, 3) := by decide +kernel
theorem dX12_run_5 : decode cX12_run 5 = .ok (.aload_n 0, 1) := by decide +kernel
theorem dX12_run_6 : decode cX12_run 6 = .ok (.iload_n 2, 1) := by decide +kernel
theorem dX12_run_7 : decode cX12_run 7 = .ok (.putfield 314, 3) := by decide +kernel
theorem dX12_run_10 : decode cX12_run 10 = .ok (.aload_n 0, 1) := by decide +kernel
theorem dX12_run_11 : decode cX12_run 11 = .ok (.iload_n 3, 1) := by decide +kernel
theorem dX12_run_12 : decode cX12_run 12 = .ok (.putfield 317, 3) := by decide +kernel
theorem dX12_run_15 : decode cX12_run 15 = .ok (.aload_n 0, 1) := by decide +kernel
theorem dX12_run_16 : decode cX12_run 16 = .ok (.iload 4, 2) := by decide +kernel
theorem dX12_run_18 : decode cX12_run 18 = .ok (.putfield 320, 3) := by decide +kernel
theorem dX12_run_21 : decode cX12_run 21 = .ok (.aload_n 0, 1) := by decide +kernel
theorem dX12_run_22 : decode cX12_run 22 = .ok (.iconst 0, 1) := by decide +kernel
theorem dX12_run_23 : decode cX12_run 23 = .ok (.putfield 326, 3) := by decide +kernel
theorem dX12_run_26 : decode cX12_run 26 = .ok (.aload_n 0, 1) := by decide +kernel
theorem dX12_run_27 : decode cX12_run 27 = .ok (.iconst 0, 1) := by decide +kernel
theorem dX12_run_28 : decode cX12_run 28 = .ok (.putfield 329, 3) := by decide +kernel
theorem dX12_run_31 : decode cX12_run 31 = .ok (.aload_n 0, 1) := by decide +kernel
theorem dX12_run_32 : decode cX12_run 32 = .ok (.iconst 0, 1) := by decide +kernel
theorem dX12_run_33 : decode cX12_run 33 = .ok (.putfield 277, 3) := by decide +kernel
theorem dX12_run_36 : decode cX12_run 36 = .ok (.aload_n 0, 1) := by decide +kernel
theorem dX12_run_37 : decode cX12_run 37 = .ok (.getfield 323, 3) := by decide +kernel
theorem dX12_run_40 : decode cX12_run 40 = .ok (.iload 5, 2) := by decide +kernel
theorem dX12_run_42 : decode cX12_run 42 = .ok (.if_icmp .ge 257, 3) := by decide +kernel
theorem dX12_run_45 : decode cX12_run 45 = .ok (.aload_n 0, 1) := by decide +kernel
theorem dX12_run_46 : decode cX12_run 46 = .ok (.getfield 326, 3) := by decide +kernel
theorem dX12_run_49 : decode cX12_run 49 = .ok (.ifCond .ne 250, 3) := by decide +kernel
theorem dX12_run_52 : decode cX12_run 52 = .ok (.aload_n 0, 1) := by decide +kernel
theorem dX12_run_53 : decode cX12_run 53 = .ok (.getfield 329, 3) := by decide +kernel
theorem dX12_run_56 : decode cX12_run 56 = .ok (.ifCond .ne 243, 3) := by decide +kernel
theorem dX12_run_59 : decode cX12_run 59 = .ok (.aload_n 0, 1) := by decide +kernel
theorem dX12_run_60 : decode cX12_run 60 = .ok (.aload_n 0, 1) := by decide +kernel
theorem dX12_run_61 : decode cX12_run 61 = .ok (.getfield 323, 3) := by decide +kernel
theorem dX12_run_64 : decode cX12_run 64 = .ok (.putfield 284, 3) := by decide +kernel
theorem dX12_run_67 : decode cX12_run 67 = .ok (.aload_n 0, 1) := by decide +kernel
theorem dX12_run_68 : decode cX12_run 68 = .ok (.invokevirtual 332, 3) := by decide +kernel
theorem dX12_run_71 : decode cX12_run 71 = .ok (.aload_n 0, 1) := by decide +kernel
theorem dX12_run_72 : decode cX12_run 72 = .ok (.aload_n 0, 1) := by decide +kernel
theorem dX12_run_73 : decode cX12_run 73 = .ok (.iload_n 1, 1) := by decide +kernel
theorem dX12_run_74 : decode cX12_run 74 = .ok (.invokevirtual 334, 3) := by decide +kernel
theorem dX12_run_77 : decode cX12_run 77 = .ok (.putfield 329, 3) := by decide +kernel
theorem dX12_run_80 : decode cX12_run 80 = .ok (.aload_n 0, 1) := by decide +kernel
theorem dX12_run_81 : decode cX12_run 81 = .ok (.getfield 329, 3) := by decide +kernel
theorem dX12_run_84 : decode cX12_run 84 = .ok (.ifCond .eq 4, 3) := by decide +kernel
theorem dX12_run_87 : decode cX12_run 87 = .ok (.return_, 1) := by decide +kernel
theorem dX12_run_88 : decode cX12_run 88 = .ok (.bipush 38, 2) := by decide +kernel
theorem dX12_run_90 : decode cX12_run 90 = .ok (.aload_n 0, 1) := by decide +kernel
theorem dX12_run_91 : decode cX12_run 91 = .ok (.getfield 284, 3) := by decide +kernel
theorem dX12_run_94 : decode cX12_run 94 = .ok (.imul, 1) := by decide +kernel
theorem dX12_run_95 : decode cX12_run 95 = .ok (.istore 6, 2) := by decide +kernel
theorem dX12_run_97 : decode cX12_run 97 = .ok (.aload_n 0, 1) := by decide +kernel
theorem dX12_run_98 : decode cX12_run 98 = .ok (.getfield 44, 3) := by decide +kernel
theorem dX12_run_101 : decode cX12_run 101 = .ok (.iload 6, 2) := by decide +kernel
theorem dX12_run_103 : decode cX12_run 103 = .ok (.aload_n 0, 1) := by decide +kernel
theorem dX12_run_104 : decode cX12_run 104 = .ok (.getfield 299, 3) := by decide +kernel
theorem dX12_run_107 : decode cX12_run 107 = .ok (.iastore, 1) := by decide +kernel
theorem dX12_run_108 : decode cX12_run 108 = .ok (.aload_n 0, 1) := by decide +kernel
theorem dX12_run_109 : decode cX12_run 109 = .ok (.getfield 44, 3) := by decide +kernel
theorem dX12_run_112 : decode cX12_run 112 = .ok (.iload 6, 2) := by decide +kernel
theorem dX12_run_114 : decode cX12_run 114 = .ok (.iconst 1, 1) := by decide +kernel
theorem dX12_run_115 : decode cX12_run 115 = .ok (.iadd, 1) := by decide +kernel
theorem dX12_run_116 : decode cX12_run 116 = .ok (.aload_n 0, 1) := by decide +kernel
theorem dX12_run_117 : decode cX12_run 117 = .ok (.getfield 302, 3) := by decide +kernel
theorem dX12_run_120 : decode cX12_run 120 = .ok (.iastore, 1) := by decide +kernel
theorem dX12_run_121 : decode cX12_run 121 = .ok (.aload_n 0, 1) := by decide +kernel
theorem dX12_run_122 : decode cX12_run 122 = .ok (.getfield 44, 3) := by decide +kernel
theorem dX12_run_125 : decode cX12_run 125 = .ok (.iload 6, 2) := by decide +kernel
theorem dX12_run_127 : decode cX12_run 127 = .ok (.iconst 2, 1) := by decide +kernel
theorem dX12_run_128 : decode cX12_run 128 = .ok (.iadd, 1) := by decide +kernel
theorem dX12_run_129 : decode cX12_run 129 = .ok (.aload_n 0, 1) := by decide +kernel
theorem dX12_run_130 : decode cX12_run 130 = .ok (.getfield 314, 3) := by decide +kernel
theorem dX12_run_133 : decode cX12_run 133 = .ok (.iastore, 1) := by decide +kernel
theorem dX12_run_134 : decode cX12_run 134 = .ok (.aload_n 0, 1) := by decide +kernel
theorem dX12_run_135 : decode cX12_run 135 = .ok (.getfield 44, 3) := by decide +kernel
theorem dX12_run_138 : decode cX12_run 138 = .ok (.iload 6, 2) := by decide +kernel
theorem dX12_run_140 : decode cX12_run 140 = .ok (.iconst 3, 1) := by decide +kernel
theorem dX12_run_141 : decode cX12_run 141 = .ok (.iadd, 1) := by decide +kernel
theorem dX12_run_142 : decode cX12_run 142 = .ok (.aload_n 0, 1) := by decide +kernel
theorem dX12_run_143 : decode cX12_run 143 = .ok (.getfield 317, 3) := by decide +kernel
theorem dX12_run_146 : decode cX12_run 146 = .ok (.iastore, 1) := by decide +kernel
theorem dX12_run_147 : decode cX12_run 147 = .ok (.aload_n 0, 1) := by decide +kernel
theorem dX12_run_148 : decode cX12_run 148 = .ok (.getfield 44, 3) := by decide +kernel
theorem dX12_run_151 : decode cX12_run 151 = .ok (.iload 6, 2) := by decide +kernel
theorem dX12_run_153 : decode cX12_run 153 = .ok (.iconst 4, 1) := by decide +kernel
theorem dX12_run_154 : decode cX12_run 154 = .ok (.iadd, 1) := by decide +kernel
theorem dX12_run_155 : decode cX12_run 155 = .ok (.aload_n 0, 1) := by decide +kernel
theorem dX12_run_156 : decode cX12_run 156 = .ok (.getfield 320, 3) := by decide +kernel
theorem dX12_run_159 : decode cX12_run 159 = .ok (.iastore, 1) := by decide +kernel
theorem dX12_run_160 : decode cX12_run 160 = .ok (.aload_n 0, 1) := by decide +kernel
theorem dX12_run_161 : decode cX12_run 161 = .ok (.aload_n 0, 1) := by decide +kernel
theorem dX12_run_162 : decode cX12_run 162 = .ok (.getfield 320, 3) := by decide +kernel
theorem dX12_run_165 : decode cX12_run 165 = .ok (.aload_n 0, 1) := by decide +kernel
theorem dX12_run_166 : decode cX12_run 166 = .ok (.getfield 299, 3) := by decide +kernel
theorem dX12_run_169 : decode cX12_run 169 = .ok (.iadd, 1) := by decide +kernel
theorem dX12_run_170 : decode cX12_run 170 = .ok (.bipush 64, 2) := by decide +kernel
theorem dX12_run_172 : decode cX12_run 172 = .ok (.iadd, 1) := by decide +kernel
theorem dX12_run_173 : decode cX12_run 173 = .ok (.bipush 64, 2) := by decide +kernel
theorem dX12_run_175 : decode cX12_run 175 = .ok (.irem, 1) := by decide +kernel
theorem dX12_run_176 : decode cX12_run 176 = .ok (.putfield 320, 3) := by decide +kernel
theorem dX12_run_179 : decode cX12_run 179 = .ok (.aload_n 0, 1) := by decide +kernel
theorem dX12_run_180 : decode cX12_run 180 = .ok (.dup, 1) := by decide +kernel
theorem dX12_run_181 : decode cX12_run 181 = .ok (.getfield 314, 3) := by decide +kernel
theorem dX12_run_184 : decode cX12_run 184 = .ok (.aload_n 0, 1) := by decide +kernel
theorem dX12_run_185 : decode cX12_run 185 = .ok (.getfield 302, 3) := by decide +kernel
theorem dX12_run_188 : decode cX12_run 188 = .ok (.aload_n 0, 1) := by decide +kernel
theorem dX12_run_189 : decode cX12_run 189 = .ok (.getfield 320, 3) := by decide +kernel
theorem dX12_run_192 : decode cX12_run 192 = .ok (.invokestatic 89, 3) := by decide +kernel
theorem dX12_run_195 : decode cX12_run 195 = .ok (.imul, 1) := by decide +kernel
theorem dX12_run_196 : decode cX12_run 196 = .ok (.bipush 16, 2) := by decide +kernel
theorem dX12_run_198 : decode cX12_run 198 = .ok (.invokestatic 93, 3) := by decide +kernel
theorem dX12_run_201 : decode cX12_run 201 = .ok (.iadd, 1) := by decide +kernel
theorem dX12_run_202 : decode cX12_run 202 = .ok (.putfield 314, 3) := by decide +kernel
theorem dX12_run_205 : decode cX12_run 205 = .ok (.aload_n 0, 1) := by decide +kernel
theorem dX12_run_206 : decode cX12_run 206 = .ok (.dup, 1) := by decide +kernel
theorem dX12_run_207 : decode cX12_run 207 = .ok (.getfield 317, 3) := by decide +kernel
theorem dX12_run_210 : decode cX12_run 210 = .ok (.aload_n 0, 1) := by decide +kernel
theorem dX12_run_211 : decode cX12_run 211 = .ok (.getfield 302, 3) := by decide +kernel
theorem dX12_run_214 : decode cX12_run 214 = .ok (.aload_n 0, 1) := by decide +kernel
theorem dX12_run_215 : decode cX12_run 215 = .ok (.getfield 320, 3) := by decide +kernel
theorem dX12_run_218 : decode cX12_run 218 = .ok (.invokestatic 96, 3) := by decide +kernel
theorem dX12_run_221 : decode cX12_run 221 = .ok (.imul, 1) := by decide +kernel
theorem dX12_run_222 : decode cX12_run 222 = .ok (.bipush 16, 2) := by decide +kernel
theorem dX12_run_224 : decode cX12_run 224 = .ok (.invokestatic 93, 3) := by decide +kernel
theorem dX12_run_227 : decode cX12_run 227 = .ok (.iadd, 1) := by decide +kernel
theorem dX12_run_228 : decode cX12_run 228 = .ok (.putfield 317, 3) := by decide +kernel
theorem dX12_run_231 : decode cX12_run 231 = .ok (.aload_n 0, 1) := by decide +kernel
theorem dX12_run_232 : decode cX12_run 232 = .ok (.dup, 1) := by decide +kernel
theorem dX12_run_233 : decode cX12_run 233 = .ok (.getfield 323, 3) := by decide +kernel
theorem dX12_run_236 : decode cX12_run 236 = .ok (.iconst 1, 1) := by decide +kernel
theorem dX12_run_237 : decode cX12_run 237 = .ok (.iadd, 1) := by decide +kernel
theorem dX12_run_238 : decode cX12_run 238 = .ok (.putfield 323, 3) := by decide +kernel
theorem dX12_run_241 : decode cX12_run 241 = .ok (.aload_n 0, 1) := by decide +kernel
theorem dX12_run_242 : decode cX12_run 242 = .ok (.aload_n 0, 1) := by decide +kernel
theorem dX12_run_243 : decode cX12_run 243 = .ok (.aload_n 0, 1) := by decide +kernel
theorem dX12_run_244 : decode cX12_run 244 = .ok (.getfield 314, 3) := by decide +kernel
theorem dX12_run_247 : decode cX12_run 247 = .ok (.aload_n 0, 1) := by decide +kernel
theorem dX12_run_248 : decode cX12_run 248 = .ok (.getfield 317, 3) := by decide +kernel
theorem dX12_run_251 : decode cX12_run 251 = .ok (.invokevirtual 107, 3) := by decide +kernel
theorem dX12_run_254 : decode cX12_run 254 = .ok (.ifCond .eq 34, 3) := by decide +kernel
theorem dX12_run_257 : decode cX12_run 257 = .ok (.aload_n 0, 1) := by decide +kernel
theorem dX12_run_258 : decode cX12_run 258 = .ok (.aload_n 0, 1) := by decide +kernel
theorem dX12_run_259 : decode cX12_run 259 = .ok (.getfield 317, 3) := by decide +kernel
