theorem dX4_one_139 : decode cX4_one 139 = .ok (.getfield 12, 3) := by decide +kernel
theorem dX4_one_142 : decode cX4_one 142 = .ok (.invokevirtual 68, 3) := by decide +kernel
theorem dX4_one_145 : decode cX4_one 145 = .ok (.iconst 1, 1) := by decide +kernel
theorem dX4_one_146 : decode cX4_one 146 = .ok (.ireturn, 1) := by decide +kernel
theorem dX4_one_147 : decode cX4_one 147 = .ok (.aload_n 0, 1) := by decide +kernel
theorem dX4_one_148 : decode cX4_one 148 = .ok (.getfield 12, 3) := by decide +kernel
theorem dX4_one_151 : decode cX4_one 151 = .ok (.invokevirtual 68, 3) := by decide +kernel
theorem dX4_one_154 : decode cX4_one 154 = .ok (.aload_n 0, 1) := by decide +kernel
theorem dX4_one_155 : decode cX4_one 155 = .ok (.bipush 11, 2) := by decide +kernel
theorem dX4_one_157 : decode cX4_one 157 = .ok (.invokevirtual 118, 3) := by decide +kernel
theorem dX4_one_160 : decode cX4_one 160 = .ok (.ireturn, 1) := by decide +kernel
theorem dX4_one_161 : decode cX4_one 161 = .ok (.aload_n 0, 1) := by decide +kernel
theorem dX4_one_162 : decode cX4_one 162 = .ok (.getfield 12, 3) := by decide +kernel
theorem dX4_one_165 : decode cX4_one 165 = .ok (.invokevirtual 68, 3) := by decide +kernel
theorem dX4_one_168 : decode cX4_one 168 = .ok (.aload_n 0, 1) := by decide +kernel
theorem dX4_one_169 : decode cX4_one 169 = .ok (.bipush 12, 2) := by decide +kernel
theorem dX4_one_171 : decode cX4_one 171 = .ok (.invokevirtual 118, 3) := by decide +kernel
theorem dX4_one_174 : decode cX4_one 174 = .ok (.ireturn, 1) := by decide +kernel
theorem dX4_one_175 : decode cX4_one 175 = .ok (.aload_n 0, 1) := by decide +kernel
theorem dX4_one_176 : decode cX4_one 176 = .ok (.invokevirtual 121, 3) := by decide +kernel
theorem dX4_one_179 : decode cX4_one 179 = .ok (.ireturn, 1) := by decide +kernel
theorem dX4_one_180 : decode cX4_one 180 = .ok (.aload_n 0, 1) := by decide +kernel
theorem dX4_one_181 : decode cX4_one 181 = .ok (.invokevirtual 124, 3) := by decide +kernel
theorem dX4_one_184 : decode cX4_one 184 = .ok (.ireturn, 1) := by decide +kernel
theorem dX4_one_185 : decode cX4_one 185 = .ok (.aload_n 0, 1) := by decide +kernel
theorem dX4_one_186 : decode cX4_one 186 = .ok (.iconst 1, 1) := by decide +kernel
theorem dX4_one_187 : decode cX4_one 187 = .ok (.invokevirtual 62, 3) := by decide +kernel
theorem dX4_one_190 : decode cX4_one 190 = .ok (.ireturn, 1) := by decide +kernel
set_option maxRecDepth 20000 in
theorem ggX4_number_X4_refuse : GoodIn wsX4_number wsX4_refuse := goodIn_r _ [8, 9, 1, 10, 11, 31, 32, 33, 34, 35, 36, 37, 38, 39, 40, 41, 42, 43, 44, 45, 46] (by decide +kernel) (by decide +kernel)
set_option maxRecDepth 20000 in
theorem gX4_number_X4_refuse : GoodIn wsX4_number (wsV RX4 62 RX4 yX4_refuse wsX4_refuse) := goodIn_app (goodIn_of _ (by decide +kernel)) ggX4_number_X4_refuse
set_option maxRecDepth 20000 in
theorem ggX4_number_X4_emit : GoodIn wsX4_number wsX4_emit := goodIn_r _ [15, 16, 17, 31, 32, 33, 34, 35, 36, 37, 38] (by decide +kernel) (by decide +kernel)
set_option maxRecDepth 20000 in
theorem gX4_number_X4_emit : GoodIn wsX4_number (wsV RX4 84 RX4 yX4_emit wsX4_emit) := goodIn_app (goodIn_of _ (by decide +kernel)) ggX4_number_X4_emit
set_option maxRecDepth 20000 in
theorem ggX4_number_X9_advance : GoodIn wsX4_number wsX9_advance := goodIn_r _ [22, 23, 24, 25, 26, 27, 28, 29, 30, 39, 40, 41, 42, 43, 44, 45, 46] (by decide +kernel) (by decide +kernel)
set_option maxRecDepth 20000 in
theorem gX4_number_X9_advance : GoodIn wsX4_number (wsV RX4 68 RX9 yX9_advance wsX9_advance) := goodIn_app (goodIn_of _ (by decide +kernel)) ggX4_number_X9_advance
theorem dX4_number_0 : decode cX4_number 0 = .ok (.aload_n 0, 1) := by decide +kernel
theorem dX4_number_1 : decode cX4_number 1 = .ok (.getfield 12, 3) := by decide +kernel
theorem dX4_number_4 : decode cX4_number 4 = .ok (.getfield 45, 3) := by decide +kernel
theorem dX4_number_7 : decode cX4_number 7 = .ok (.bipush (-3), 2) := by decide +kernel
theorem dX4_number_9 : decode cX4_number 9 = .ok (.if_icmp .eq 9, 3) := by decide +kernel
theorem dX4_number_12 : decode cX4_number 12 = .ok (.aload_n 0, 1) := by decide +kernel
theorem dX4_number_13 : decode cX4_number 13 = .ok (.iconst 1, 1) := by decide +kernel
theorem dX4_number_14 : decode cX4_number 14 = .ok (.invokevirtual 62, 3) := by decide +kernel
theorem dX4_number_17 : decode cX4_number 17 = .ok (.ireturn, 1) := by decide +kernel
theorem dX4_number_18 : decode cX4_number 18 = .ok (.aload_n 0, 1) := by decide +kernel
theorem dX4_number_19 : decode cX4_number 19 = .ok (.getfield 12, 3) := by decide +kernel
theorem dX4_number_22 : decode cX4_number 22 = .ok (.getfield 88, 3) := by decide +kernel
theorem dX4_number_25 : decode cX4_number 25 = .ok (.iload_n 2, 1) := by decide +kernel
theorem dX4_number_26 : decode cX4_number 26 = .ok (.if_icmp .le 9, 3) := by decide +kernel
theorem dX4_number_29 : decode cX4_number 29 = .ok (.aload_n 0, 1) := by decide +kernel
theorem dX4_number_30 : decode cX4_number 30 = .ok (.iconst 2, 1) := by decide +kernel
theorem dX4_number_31 : decode cX4_number 31 = .ok (.invokevirtual 62, 3) := by decide +kernel
theorem dX4_number_34 : decode cX4_number 34 = .ok (.ireturn, 1) := by decide +kernel
theorem dX4_number_35 : decode cX4_number 35 = .ok (.aload_n 0, 1) := by decide +kernel
theorem dX4_number_36 : decode cX4_number 36 = .ok (.iload_n 1, 1) := by decide +kernel
theorem dX4_number_37 : decode cX4_number 37 = .ok (.aload_n 0, 1) := by decide +kernel
theorem dX4_number_38 : decode cX4_number 38 = .ok (.getfield 12, 3) := by decide +kernel
theorem dX4_number_41 : decode cX4_number 41 = .ok (.getfield 88, 3) := by decide +kernel
theorem dX4_number_44 : decode cX4_number 44 = .ok (.invokevirtual 84, 3) := by decide +kernel
theorem dX4_number_47 : decode cX4_number 47 = .ok (.aload_n 0, 1) := by decide +kernel
theorem dX4_number_48 : decode cX4_number 48 = .ok (.getfield 12, 3) := by decide +kernel
theorem dX4_number_51 : decode cX4_number 51 = .ok (.invokevirtual 68, 3) := by decide +kernel
theorem dX4_number_54 : decode cX4_number 54 = .ok (.iconst 1, 1) := by decide +kernel
theorem dX4_number_55 : decode cX4_number 55 = .ok (.ireturn, 1) := by decide +kernel
set_option maxRecDepth 20000 in
theorem ggX4_toldLetter_X4_refuse : GoodIn wsX4_toldLetter wsX4_refuse := goodIn_r _ [8, 9, 1, 10, 11, 31, 32, 33, 34, 35, 36, 37, 38, 39, 40, 41, 42, 43, 44, 45, 46] (by decide +kernel) (by decide +kernel)
set_option maxRecDepth 20000 in
theorem gX4_toldLetter_X4_refuse : GoodIn wsX4_toldLetter (wsV RX4 62 RX4 yX4_refuse wsX4_refuse) := goodIn_app (goodIn_of _ (by decide +kernel)) ggX4_toldLetter_X4_refuse
set_option maxRecDepth 20000 in
theorem ggX4_toldLetter_X4_emit : GoodIn wsX4_toldLetter wsX4_emit := goodIn_r _ [15, 16, 17, 31, 32, 33, 34, 35, 36, 37, 38] (by decide +kernel) (by decide +kernel)
set_option maxRecDepth 20000 in
theorem gX4_toldLetter_X4_emit : GoodIn wsX4_toldLetter (wsV RX4 84 RX4 yX4_emit wsX4_emit) := goodIn_app (goodIn_of _ (by decide +kernel)) ggX4_toldLetter_X4_emit
set_option maxRecDepth 20000 in
theorem ggX4_toldLetter_X9_advance : GoodIn wsX4_toldLetter wsX9_advance := goodIn_r _ [22, 23, 24, 25, 26, 27, 28, 29, 30, 39, 40, 41, 42, 43, 44, 45, 46] (by decide +kernel) (by decide +kernel)
set_option maxRecDepth 20000 in
theorem gX4_toldLetter_X9_advance : GoodIn wsX4_toldLetter (wsV RX4 68 RX9 yX9_advance wsX9_advance) := goodIn_app (goodIn_of _ (by decide +kernel)) ggX4_toldLetter_X9_advance
theorem dX4_toldLetter_0 : decode cX4_toldLetter 0 = .ok (.aload_n 0, 1) := by decide +kernel
theorem dX4_toldLetter_1 : decode cX4_toldLetter 1 = .ok (.getfield 12, 3) := by decide +kernel
theorem dX4_toldLetter_4 : decode cX4_toldLetter 4 = .ok (.getfield 88, 3) := by decide +kernel
theorem dX4_toldLetter_7 : decode cX4_toldLetter 7 = .ok (.bipush 65, 2) := by decide +kernel
theorem dX4_toldLetter_9 : decode cX4_toldLetter 9 = .ok (.isub, 1) := by decide +kernel
theorem dX4_toldLetter_10 : decode cX4_toldLetter 10 = .ok (.istore_n 1, 1) := by decide +kernel
theorem dX4_toldLetter_11 : decode cX4_toldLetter 11 = .ok (.aload_n 0, 1) := by decide +kernel
theorem dX4_toldLetter_12 : decode cX4_toldLetter 12 = .ok (.getfield 33, 3) := by decide +kernel
theorem dX4_toldLetter_15 : decode cX4_toldLetter 15 = .ok (.iload_n 1, 1) := by decide +kernel
theorem dX4_toldLetter_16 : decode cX4_toldLetter 16 = .ok (.ishr, 1) := by decide +kernel
theorem dX4_toldLetter_17 : decode cX4_toldLetter 17 = .ok (.iconst 1, 1) := by decide +kernel
theorem dX4_toldLetter_18 : decode cX4_toldLetter 18 = .ok (.iand, 1) := by decide +kernel
theorem dX4_toldLetter_19 : decode cX4_toldLetter 19 = .ok (.ifCond .ne 9, 3) := by decide +kernel
theorem dX4_toldLetter_22 : decode cX4_toldLetter 22 = .ok (.aload_n 0, 1) := by decide +kernel
theorem dX4_toldLetter_23 : decode cX4_toldLetter 23 = .ok (.iconst 5, 1) := by decide +kernel
theorem dX4_toldLetter_24 : decode cX4_toldLetter 24 = .ok (.invokevirtual 62, 3) := by decide +kernel
theorem dX4_toldLetter_27 : decode cX4_toldLetter 27 = .ok (.ireturn, 1) := by decide +kernel
theorem dX4_toldLetter_28 : decode cX4_toldLetter 28 = .ok (.aload_n 0, 1) := by decide +kernel
theorem dX4_toldLetter_29 : decode cX4_toldLetter 29 = .ok (.iconst 1, 1) := by decide +kernel
theorem dX4_toldLetter_30 : decode cX4_toldLetter 30 = .ok (.iload_n 1, 1) := by decide +kernel
theorem dX4_toldLetter_31 : decode cX4_toldLetter 31 = .ok (.invokevirtual 84, 3) := by decide +kernel
theorem dX4_toldLetter_34 : decode cX4_toldLetter 34 = .ok (.aload_n 0, 1) := by decide +kernel
theorem dX4_toldLetter_35 : decode cX4_toldLetter 35 = .ok (.getfield 12, 3) := by decide +kernel
theorem dX4_toldLetter_38 : decode cX4_toldLetter 38 = .ok (.invokevirtual 68, 3) := by decide +kernel
theorem dX4_toldLetter_41 : decode cX4_toldLetter 41 = .ok (.iconst 1, 1) := by decide +kernel
theorem dX4_toldLetter_42 : decode cX4_toldLetter 42 = .ok (.ireturn, 1) := by decide +kernel
set_option maxRecDepth 20000 in
theorem ggX4_bracketed_X4_enter : GoodIn wsX4_bracketed wsX4_enter := goodIn_r _ [6, 1, 7, 8, 9, 10, 5, 11, 12, 13, 14, 15, 16, 17, 18, 19, 20, 21, 22, 23, 24, 25, 26, 27, 71, 72, 73, 74, 75, 76, 77, 78, 79, 80, 81, 82, 83, 84, 85, 86] (by decide +kernel) (by decide +kernel)
set_option maxRecDepth 20000 in
theorem gX4_bracketed_X4_enter : GoodIn wsX4_bracketed (wsV RX4 99 RX4 yX4_enter wsX4_enter) := goodIn_app (goodIn_of _ (by decide +kernel)) ggX4_bracketed_X4_enter
set_option maxRecDepth 20000 in
theorem ggX4_bracketed_X4_sum : GoodIn wsX4_bracketed wsX4_sum := goodIn_r _ [67, 7, 35, 44, 45, 46, 5, 68, 69, 70, 37, 38, 39, 40, 41, 42, 15, 16, 17, 18, 19, 20, 21, 22, 23, 24, 25, 26, 27, 0, 1, 2, 3, 4, 6, 8, 9, 10, 11, 12, 13, 14, 28, 29, 30, 31, 32, 33, 34, 36, 43, 47, 48, 49, 50, 51, 52, 53, 54, 55, 56, 57, 58, 59, 60, 61, 62, 63, 64, 65, 66, 71, 72, 73, 74, 75, 76, 77, 78, 79, 80, 81, 82, 83, 84, 85, 86] (by decide +kernel) (by decide +kernel)
set_option maxRecDepth 20000 in
theorem gX4_bracketed_X4_sum : GoodIn wsX4_bracketed (wsV RX4 78 RX4 yX4_sum wsX4_sum) := goodIn_app (goodIn_of _ (by decide +kernel)) ggX4_bracketed_X4_sum
set_option maxRecDepth 20000 in
theorem ggX4_bracketed_X4_expect : GoodIn wsX4_bracketed wsX4_expect := goodIn_r _ [34, 7, 35, 8, 9, 10, 5, 11, 12, 13, 14, 15, 16, 17, 18, 19, 20, 21, 22, 23, 24, 25, 26, 27, 71, 72, 73, 74, 75, 76, 77, 78, 79, 80, 81, 82, 83, 84, 85, 86] (by decide +kernel) (by decide +kernel)
set_option maxRecDepth 20000 in
theorem gX4_bracketed_X4_expect : GoodIn wsX4_bracketed (wsV RX4 81 RX4 yX4_expect wsX4_expect) := goodIn_app (goodIn_of _ (by decide +kernel)) ggX4_bracketed_X4_expect
theorem dX4_bracketed_0 : decode cX4_bracketed 0 = .ok (.aload_n 0, 1) := by decide +kernel
theorem dX4_bracketed_1 : decode cX4_bracketed 1 = .ok (.invokevirtual 99, 3) := by decide +kernel
theorem dX4_bracketed_4 : decode cX4_bracketed 4 = .ok (.ifCond .eq 19, 3) := by decide +kernel
theorem dX4_bracketed_7 : decode cX4_bracketed 7 = .ok (.aload_n 0, 1) := by decide +kernel
theorem dX4_bracketed_8 : decode cX4_bracketed 8 = .ok (.invokevirtual 78, 3) := by decide +kernel
theorem dX4_bracketed_11 : decode cX4_bracketed 11 = .ok (.ifCond .eq 12, 3) := by decide +kernel
theorem dX4_bracketed_14 : decode cX4_bracketed 14 = .ok (.aload_n 0, 1) := by decide +kernel
theorem dX4_bracketed_15 : decode cX4_bracketed 15 = .ok (.bipush 41, 2) := by decide +kernel
theorem dX4_bracketed_17 : decode cX4_bracketed 17 = .ok (.invokevirtual 81, 3) := by decide +kernel
theorem dX4_bracketed_20 : decode cX4_bracketed 20 = .ok (.ifCond .ne 5, 3) := by decide +kernel
theorem dX4_bracketed_23 : decode cX4_bracketed 23 = .ok (.iconst 0, 1) := by decide +kernel
theorem dX4_bracketed_24 : decode cX4_bracketed 24 = .ok (.ireturn, 1) := by decide +kernel
theorem dX4_bracketed_25 : decode cX4_bracketed 25 = .ok (.aload_n 0, 1) := by decide +kernel
theorem dX4_bracketed_26 : decode cX4_bracketed 26 = .ok (.dup, 1) := by decide +kernel
theorem dX4_bracketed_27 : decode cX4_bracketed 27 = .ok (.getfield 30, 3) := by decide +kernel
theorem dX4_bracketed_30 : decode cX4_bracketed 30 = .ok (.iconst 1, 1) := by decide +kernel
theorem dX4_bracketed_31 : decode cX4_bracketed 31 = .ok (.isub, 1) := by decide +kernel
theorem dX4_bracketed_32 : decode cX4_bracketed 32 = .ok (.putfield 30, 3) := by decide +kernel
theorem dX4_bracketed_35 : decode cX4_bracketed 35 = .ok (.iconst 1, 1) := by decide +kernel
theorem dX4_bracketed_36 : decode cX4_bracketed 36 = .ok (.ireturn, 1) := by decide +kernel
set_option maxRecDepth 20000 in
theorem ggX4_negated_X4_enter : GoodIn wsX4_negated wsX4_enter := goodIn_r _ [6, 1, 7, 8, 9, 10, 5, 11, 12, 13, 14, 15, 16, 17, 18, 19, 20, 21, 22, 23, 24, 25, 26, 27, 71, 72, 73, 74, 75, 76, 77, 78, 79, 80, 81, 82, 83, 84, 85, 86] (by decide +kernel) (by decide +kernel)
set_option maxRecDepth 20000 in
theorem gX4_negated_X4_enter : GoodIn wsX4_negated (wsV RX4 99 RX4 yX4_enter wsX4_enter) := goodIn_app (goodIn_of _ (by decide +kernel)) ggX4_negated_X4_enter
set_option maxRecDepth 20000 in
theorem ggX4_negated_X4_one : GoodIn wsX4_negated wsX4_one := goodIn_r _ [47, 7, 45, 48, 49, 50, 5, 51, 52, 8, 9, 10, 11, 12, 13, 14, 31, 32, 33, 34, 35, 36, 15, 16, 17, 18, 19, 20, 21, 22, 23, 24, 25, 26, 27, 53, 54, 55, 56, 57, 58, 59, 60, 61, 62, 63, 64, 65, 66, 37, 1, 2, 3, 4, 6, 38, 39, 40, 41, 42, 43, 44, 46, 0, 28, 29, 30, 67, 68, 69, 70, 71, 72, 73, 74, 75, 76, 77, 78, 79, 80, 81, 82, 83, 84, 85, 86] (by decide +kernel) (by decide +kernel)
set_option maxRecDepth 20000 in
theorem gX4_negated_X4_one : GoodIn wsX4_negated (wsV RX4 105 RX4 yX4_one wsX4_one) := goodIn_app (goodIn_of _ (by decide +kernel)) ggX4_negated_X4_one
set_option maxRecDepth 20000 in
theorem ggX4_negated_X4_emit : GoodIn wsX4_negated wsX4_emit := goodIn_r _ [34, 35, 36, 71, 72, 73, 74, 75, 76, 77, 78] (by decide +kernel) (by decide +kernel)
set_option maxRecDepth 20000 in
theorem gX4_negated_X4_emit : GoodIn wsX4_negated (wsV RX4 84 RX4 yX4_emit wsX4_emit) := goodIn_app (goodIn_of _ (by decide +kernel)) ggX4_negated_X4_emit
theorem dX4_negated_0 : decode cX4_negated 0 = .ok (.aload_n 0, 1) := by decide +kernel
theorem dX4_negated_1 : decode cX4_negated 1 = .ok (.invokevirtual 99, 3) := by decide +kernel
theorem dX4_negated_4 : decode cX4_negated 4 = .ok (.ifCond .eq 10, 3) := by decide +kernel
theorem dX4_negated_7 : decode cX4_negated 7 = .ok (.aload_n 0, 1) := by decide +kernel
theorem dX4_negated_8 : decode cX4_negated 8 = .ok (.invokevirtual 105, 3) := by decide +kernel
theorem dX4_negated_11 : decode cX4_negated 11 = .ok (.ifCond .ne 5, 3) := by decide +kernel
theorem dX4_negated_14 : decode cX4_negated 14 = .ok (.iconst 0, 1) := by decide +kernel
theorem dX4_negated_15 : decode cX4_negated 15 = .ok (.ireturn, 1) := by decide +kernel
theorem dX4_negated_16 : decode cX4_negated 16 = .ok (.aload_n 0, 1) := by decide +kernel
theorem dX4_negated_17 : decode cX4_negated 17 = .ok (.dup, 1) := by decide +kernel
theorem dX4_negated_18 : decode cX4_negated 18 = .ok (.getfield 30, 3) := by decide +kernel
theorem dX4_negated_21 : decode cX4_negated 21 = .ok (.iconst 1, 1) := by decide +kernel
theorem dX4_negated_22 : decode cX4_negated 22 = .ok (.isub, 1) := by decide +kernel
theorem dX4_negated_23 : decode cX4_negated 23 = .ok (.putfield 30, 3) := by decide +kernel
theorem dX4_negated_26 : decode cX4_negated 26 = .ok (.aload_n 0, 1) := by decide +kernel
theorem dX4_negated_27 : decode cX4_negated 27 = .ok (.iconst 5, 1) := by decide +kernel
theorem dX4_negated_28 : decode cX4_negated 28 = .ok (.iconst 0, 1) := by decide +kernel
theorem dX4_negated_29 : decode cX4_negated 29 = .ok (.invokevirtual 84, 3) := by decide +kernel
theorem dX4_negated_32 : decode cX4_negated 32 = .ok (.iconst 1, 1) := by decide +kernel
theorem dX4_negated_33 : decode cX4_negated 33 = .ok (.ireturn, 1) := by decide +kernel
set_option maxRecDepth 20000 in
theorem ggX4_chosen_X4_refuse : GoodIn wsX4_chosen wsX4_refuse := goodIn_r _ [8, 9, 1, 10, 11, 71, 72, 73, 74, 75, 76, 77, 78, 79, 80, 81, 82, 83, 84, 85, 86] (by decide +kernel) (by decide +kernel)
set_option maxRecDepth 20000 in
theorem gX4_chosen_X4_refuse : GoodIn wsX4_chosen (wsV RX4 62 RX4 yX4_refuse wsX4_refuse) := goodIn_app (goodIn_of _ (by decide +kernel)) ggX4_chosen_X4_refuse
set_option maxRecDepth 20000 in
theorem ggX4_chosen_X4_enter : GoodIn wsX4_chosen wsX4_enter := goodIn_r _ [15, 3, 1, 4, 5, 6, 7, 8, 9, 10, 11, 16, 17, 18, 19, 20, 21, 22, 23, 24, 25, 26, 27, 28, 71, 72, 73, 74, 75, 76, 77, 78, 79, 80, 81, 82, 83, 84, 85, 86] (by decide +kernel) (by decide +kernel)
set_option maxRecDepth 20000 in
theorem gX4_chosen_X4_enter : GoodIn wsX4_chosen (wsV RX4 99 RX4 yX4_enter wsX4_enter) := goodIn_app (goodIn_of _ (by decide +kernel)) ggX4_chosen_X4_enter
set_option maxRecDepth 20000 in
theorem ggX4_chosen_X4_sum : GoodIn wsX4_chosen wsX4_sum := goodIn_r _ [67, 1, 2, 44, 45, 46, 7, 68, 69, 70, 36, 37, 38, 39, 40, 41, 16, 17, 18, 19, 20, 21, 22, 23, 24, 25, 26, 27, 28, 42, 3, 12, 13, 14, 15, 4, 5, 6, 8, 9, 10, 11, 29, 30, 31, 32, 33, 34, 35, 0, 43, 47, 48, 49, 50, 51, 52, 53, 54, 55, 56, 57, 58, 59, 60, 61, 62, 63, 64, 65, 66, 71, 72, 73, 74, 75, 76, 77, 78, 79, 80, 81, 82, 83, 84, 85, 86] (by decide +kernel) (by decide +kernel)
set_option maxRecDepth 20000 in
theorem gX4_chosen_X4_sum : GoodIn wsX4_chosen (wsV RX4 78 RX4 yX4_sum wsX4_sum) := goodIn_app (goodIn_of _ (by decide +kernel)) ggX4_chosen_X4_sum
set_option maxRecDepth 20000 in
theorem ggX4_chosen_X4_expect : GoodIn wsX4_chosen wsX4_expect := goodIn_r _ [35, 1, 2, 4, 5, 6, 7, 8, 9, 10, 11, 16, 17, 18, 19, 20, 21, 22, 23, 24, 25, 26, 27, 28, 71, 72, 73, 74, 75, 76, 77, 78, 79, 80, 81, 82, 83, 84, 85, 86] (by decide +kernel) (by decide +kernel)
set_option maxRecDepth 20000 in
theorem gX4_chosen_X4_expect : GoodIn wsX4_chosen (wsV RX4 81 RX4 yX4_expect wsX4_expect) := goodIn_app (goodIn_of _ (by decide +kernel)) ggX4_chosen_X4_expect
set_option maxRecDepth 20000 in
theorem ggX4_chosen_X4_emit : GoodIn wsX4_chosen wsX4_emit := goodIn_r _ [39, 40, 41, 71, 72, 73, 74, 75, 76, 77, 78] (by decide +kernel) (by decide +kernel)
set_option maxRecDepth 20000 in
theorem gX4_chosen_X4_emit : GoodIn wsX4_chosen (wsV RX4 84 RX4 yX4_emit wsX4_emit) := goodIn_app (goodIn_of _ (by decide +kernel)) ggX4_chosen_X4_emit
theorem dX4_chosen_0 : decode cX4_chosen 0 = .ok (.aload_n 0, 1) := by decide +kernel
theorem dX4_chosen_1 : decode cX4_chosen 1 = .ok (.getfield 12, 3) := by decide +kernel
theorem dX4_chosen_4 : decode cX4_chosen 4 = .ok (.getfield 45, 3) := by decide +kernel
theorem dX4_chosen_7 : decode cX4_chosen 7 = .ok (.bipush 40, 2) := by decide +kernel
theorem dX4_chosen_9 : decode cX4_chosen 9 = .ok (.if_icmp .eq 9, 3) := by decide +kernel
theorem dX4_chosen_12 : decode cX4_chosen 12 = .ok (.aload_n 0, 1) := by decide +kernel
theorem dX4_chosen_13 : decode cX4_chosen 13 = .ok (.iconst 1, 1) := by decide +kernel
theorem dX4_chosen_14 : decode cX4_chosen 14 = .ok (.invokevirtual 62, 3) := by decide +kernel
theorem dX4_chosen_17 : decode cX4_chosen 17 = .ok (.ireturn, 1) := by decide +kernel
theorem dX4_chosen_18 : decode cX4_chosen 18 = .ok (.aload_n 0, 1) := by decide +kernel
theorem dX4_chosen_19 : decode cX4_chosen 19 = .ok (.invokevirtual 99, 3) := by decide +kernel
theorem dX4_chosen_22 : decode cX4_chosen 22 = .ok (.ifCond .eq 35, 3) := by decide +kernel
theorem dX4_chosen_25 : decode cX4_chosen 25 = .ok (.aload_n 0, 1) := by decide +kernel
theorem dX4_chosen_26 : decode cX4_chosen 26 = .ok (.invokevirtual 78, 3) := by decide +kernel
theorem dX4_chosen_29 : decode cX4_chosen 29 = .ok (.ifCond .eq 28, 3) := by decide +kernel
theorem dX4_chosen_32 : decode cX4_chosen 32 = .ok (.aload_n 0, 1) := by decide +kernel
theorem dX4_chosen_33 : decode cX4_chosen 33 = .ok (.bipush 44, 2) := by decide +kernel
theorem dX4_chosen_35 : decode cX4_chosen 35 = .ok (.invokevirtual 81, 3) := by decide +kernel
theorem dX4_chosen_38 : decode cX4_chosen 38 = .ok (.ifCond .eq 19, 3) := by decide +kernel
theorem dX4_chosen_41 : decode cX4_chosen 41 = .ok (.aload_n 0, 1) := by decide +kernel
theorem dX4_chosen_42 : decode cX4_chosen 42 = .ok (.invokevirtual 78, 3) := by decide +kernel
theorem dX4_chosen_45 : decode cX4_chosen 45 = .ok (.ifCond .eq 12, 3) := by decide +kernel
theorem dX4_chosen_48 : decode cX4_chosen 48 = .ok (.aload_n 0, 1) := by decide +kernel
theorem dX4_chosen_49 : decode cX4_chosen 49 = .ok (.bipush 41, 2) := by decide +kernel
theorem dX4_chosen_51 : decode cX4_chosen 51 = .ok (.invokevirtual 81, 3) := by decide +kernel
theorem dX4_chosen_54 : decode cX4_chosen 54 = .ok (.ifCond .ne 5, 3) := by decide +kernel
theorem dX4_chosen_57 : decode cX4_chosen 57 = .ok (.iconst 0, 1) := by decide +kernel
theorem dX4_chosen_58 : decode cX4_chosen 58 = .ok (.ireturn, 1) := by decide +kernel
theorem dX4_chosen_59 : decode cX4_chosen 59 = .ok (.aload_n 0, 1) := by decide +kernel
theorem dX4_chosen_60 : decode cX4_chosen 60 = .ok (.dup, 1) := by decide +kernel
theorem dX4_chosen_61 : decode cX4_chosen 61 = .ok (.getfield 30, 3) := by decide +kernel
theorem dX4_chosen_64 : decode cX4_chosen 64 = .ok (.iconst 1, 1) := by decide +kernel
theorem dX4_chosen_65 : decode cX4_chosen 65 = .ok (.isub, 1) := by decide +kernel
theorem dX4_chosen_66 : decode cX4_chosen 66 = .ok (.putfield 30, 3) := by decide +kernel
theorem dX4_chosen_69 : decode cX4_chosen 69 = .ok (.aload_n 0, 1) := by decide +kernel
theorem dX4_chosen_70 : decode cX4_chosen 70 = .ok (.iload_n 1, 1) := by decide +kernel
theorem dX4_chosen_71 : decode cX4_chosen 71 = .ok (.iconst 0, 1) := by decide +kernel
theorem dX4_chosen_72 : decode cX4_chosen 72 = .ok (.invokevirtual 84, 3) := by decide +kernel
theorem dX4_chosen_75 : decode cX4_chosen 75 = .ok (.iconst 1, 1) := by decide +kernel
theorem dX4_chosen_76 : decode cX4_chosen 76 = .ok (.ireturn, 1) := by decide +kernel
set_option maxRecDepth 20000 in
theorem ggX4_enter_X4_refuse : GoodIn wsX4_enter wsX4_refuse := goodIn_r _ [7, 8, 2, 9, 10, 24, 25, 26, 27, 28, 29, 30, 31, 32, 33, 34, 35, 36, 37, 38, 39] (by decide +kernel) (by decide +kernel)
set_option maxRecDepth 20000 in
theorem gX4_enter_X4_refuse : GoodIn wsX4_enter (wsV RX4 62 RX4 yX4_refuse wsX4_refuse) := goodIn_app (goodIn_of _ (by decide +kernel)) ggX4_enter_X4_refuse
set_option maxRecDepth 20000 in
theorem ggX4_enter_X9_advance : GoodIn wsX4_enter wsX9_advance := goodIn_r _ [15, 16, 17, 18, 19, 20, 21, 22, 23, 32, 33, 34, 35, 36, 37, 38, 39] (by decide +kernel) (by decide +kernel)
set_option maxRecDepth 20000 in
theorem gX4_enter_X9_advance : GoodIn wsX4_enter (wsV RX4 68 RX9 yX9_advance wsX9_advance) := goodIn_app (goodIn_of _ (by decide +kernel)) ggX4_enter_X9_advance
theorem dX4_enter_0 : decode cX4_enter 0 = .ok (.aload_n 0, 1) := by decide +kernel
theorem dX4_enter_1 : decode cX4_enter 1 = .ok (.getfield 30, 3) := by decide +kernel
theorem dX4_enter_4 : decode cX4_enter 4 = .ok (.bipush 8, 2) := by decide +kernel
theorem dX4_enter_6 : decode cX4_enter 6 = .ok (.if_icmp .lt 9, 3) := by decide +kernel
theorem dX4_enter_9 : decode cX4_enter 9 = .ok (.aload_n 0, 1) := by decide +kernel
theorem dX4_enter_10 : decode cX4_enter 10 = .ok (.iconst 3, 1) := by decide +kernel
theorem dX4_enter_11 : decode cX4_enter 11 = .ok (.invokevirtual 62, 3) := by decide +kernel
theorem dX4_enter_14 : decode cX4_enter 14 = .ok (.ireturn, 1) := by decide +kernel
theorem dX4_enter_15 : decode cX4_enter 15 = .ok (.aload_n 0, 1) := by decide +kernel
theorem dX4_enter_16 : decode cX4_enter 16 = .ok (.dup, 1) := by decide +kernel
theorem dX4_enter_17 : decode cX4_enter 17 = .ok (.getfield 30, 3) := by decide +kernel
theorem dX4_enter_20 : decode cX4_enter 20 = .ok (.iconst 1, 1) := by decide +kernel
theorem dX4_enter_21 : decode cX4_enter 21 = .ok (.iadd, 1) := by decide +kernel
theorem dX4_enter_22 : decode cX4_enter 22 = .ok (.putfield 30, 3) := by decide +kernel
theorem dX4_enter_25 : decode cX4_enter 25 = .ok (.aload_n 0, 1) := by decide +kernel
theorem dX4_enter_26 : decode cX4_enter 26 = .ok (.getfield 12, 3) := by decide +kernel
theorem dX4_enter_29 : decode cX4_enter 29 = .ok (.invokevirtual 68, 3) := by decide +kernel
theorem dX4_enter_32 : decode cX4_enter 32 = .ok (.iconst 1, 1) := by decide +kernel
theorem dX4_enter_33 : decode cX4_enter 33 = .ok (.ireturn, 1) := by decide +kernel
set_option maxRecDepth 20000 in
theorem ggX4_expect_X4_refuse : GoodIn wsX4_expect wsX4_refuse := goodIn_r _ [7, 8, 1, 9, 10, 24, 25, 26, 27, 28, 29, 30, 31, 32, 33, 34, 35, 36, 37, 38, 39] (by decide +kernel) (by decide +kernel)
set_option maxRecDepth 20000 in
theorem gX4_expect_X4_refuse : GoodIn wsX4_expect (wsV RX4 62 RX4 yX4_refuse wsX4_refuse) := goodIn_app (goodIn_of _ (by decide +kernel)) ggX4_expect_X4_refuse
set_option maxRecDepth 20000 in
theorem ggX4_expect_X9_advance : GoodIn wsX4_expect wsX9_advance := goodIn_r _ [15, 16, 17, 18, 19, 20, 21, 22, 23, 32, 33, 34, 35, 36, 37, 38, 39] (by decide +kernel) (by decide +kernel)
set_option maxRecDepth 20000 in
theorem gX4_expect_X9_advance : GoodIn wsX4_expect (wsV RX4 68 RX9 yX9_advance wsX9_advance) := goodIn_app (goodIn_of _ (by decide +kernel)) ggX4_expect_X9_advance
theorem dX4_expect_0 : decode cX4_expect 0 = .ok (.aload_n 0, 1) := by decide +kernel
theorem dX4_expect_1 : decode cX4_expect 1 = .ok (.getfield 12, 3) := by decide +kernel
theorem dX4_expect_4 : decode cX4_expect 4 = .ok (.getfield 45, 3) := by decide +kernel
theorem dX4_expect_7 : decode cX4_expect 7 = .ok (.iload_n 1, 1) := by decide +kernel
theorem dX4_expect_8 : decode cX4_expect 8 = .ok (.if_icmp .eq 9, 3) := by decide +kernel
theorem dX4_expect_11 : decode cX4_expect 11 = .ok (.aload_n 0, 1) := by decide +kernel
theorem dX4_expect_12 : decode cX4_expect 12 = .ok (.iconst 1, 1) := by decide +kernel
theorem dX4_expect_13 : decode cX4_expect 13 = .ok (.invokevirtual 62, 3) := by decide +kernel
theorem dX4_expect_16 : decode cX4_expect 16 = .ok (.ireturn, 1) := by decide +kernel
theorem dX4_expect_17 : decode cX4_expect 17 = .ok (.aload_n 0, 1) := by decide +kernel
theorem dX4_expect_18 : decode cX4_expect 18 = .ok (.getfield 12, 3) := by decide +kernel
theorem dX4_expect_21 : decode cX4_expect 21 = .ok (.invokevirtual 68, 3) := by decide +kernel
theorem dX4_expect_24 : decode cX4_expect 24 = .ok (.iconst 1, 1) := by decide +kernel
theorem dX4_expect_25 : decode cX4_expect 25 = .ok (.ireturn, 1) := by decide +kernel
theorem dX4_refuse_0 : decode cX4_refuse 0 = .ok (.aload_n 0, 1) := by decide +kernel
theorem dX4_refuse_1 : decode cX4_refuse 1 = .ok (.getfield 39, 3) := by decide +kernel
theorem dX4_refuse_4 : decode cX4_refuse 4 = .ok (.ifCond .ne 19, 3) := by decide +kernel
theorem dX4_refuse_7 : decode cX4_refuse 7 = .ok (.aload_n 0, 1) := by decide +kernel
theorem dX4_refuse_8 : decode cX4_refuse 8 = .ok (.iload_n 1, 1) := by decide +kernel
theorem dX4_refuse_9 : decode cX4_refuse 9 = .ok (.putfield 39, 3) := by decide +kernel
theorem dX4_refuse_12 : decode cX4_refuse 12 = .ok (.aload_n 0, 1) := by decide +kernel
theorem dX4_refuse_13 : decode cX4_refuse 13 = .ok (.aload_n 0, 1) := by decide +kernel
theorem dX4_refuse_14 : decode cX4_refuse 14 = .ok (.getfield 12, 3) := by decide +kernel
theorem dX4_refuse_17 : decode cX4_refuse 17 = .ok (.getfield 127, 3) := by decide +kernel
theorem dX4_refuse_20 : decode cX4_refuse 20 = .ok (.putfield 42, 3) := by decide +kernel
theorem dX4_refuse_23 : decode cX4_refuse 23 = .ok (.iconst 0, 1) := by decide +kernel
theorem dX4_refuse_24 : decode cX4_refuse 24 = .ok (.ireturn, 1) := by decide +kernel
theorem dX4_emit_0 : decode cX4_emit 0 = .ok (.aload_n 0, 1) := by decide +kernel
theorem dX4_emit_1 : decode cX4_emit 1 = .ok (.getfield 26, 3) := by decide +kernel
theorem dX4_emit_4 : decode cX4_emit 4 = .ok (.aload_n 0, 1) := by decide +kernel
theorem dX4_emit_5 : decode cX4_emit 5 = .ok (.getfield 18, 3) := by decide +kernel
theorem dX4_emit_8 : decode cX4_emit 8 = .ok (.arraylength, 1) := by decide +kernel
theorem dX4_emit_9 : decode cX4_emit 9 = .ok (.if_icmp .ge 27, 3) := by decide +kernel
theorem dX4_emit_12 : decode cX4_emit 12 = .ok (.aload_n 0, 1) := by decide +kernel
theorem dX4_emit_13 : decode cX4_emit 13 = .ok (.getfield 18, 3) := by decide +kernel
theorem dX4_emit_16 : decode cX4_emit 16 = .ok (.aload_n 0, 1) := by decide +kernel
theorem dX4_emit_17 : decode cX4_emit 17 = .ok (.getfield 26, 3) := by decide +kernel
theorem dX4_emit_20 : decode cX4_emit 20 = .ok (.iload_n 2, 1) := by decide +kernel
theorem dX4_emit_21 : decode cX4_emit 21 = .ok (.iconst 5, 1) := by decide +kernel
theorem dX4_emit_22 : decode cX4_emit 22 = .ok (.ishl, 1) := by decide +kernel
theorem dX4_emit_23 : decode cX4_emit 23 = .ok (.iload_n 1, 1) := by decide +kernel
theorem dX4_emit_24 : decode cX4_emit 24 = .ok (.iadd, 1) := by decide +kernel
theorem dX4_emit_25 : decode cX4_emit 25 = .ok (.iastore, 1) := by decide +kernel
theorem dX4_emit_26 : decode cX4_emit 26 = .ok (.aload_n 0, 1) := by decide +kernel
theorem dX4_emit_27 : decode cX4_emit 27 = .ok (.dup, 1) := by decide +kernel
theorem dX4_emit_28 : decode cX4_emit 28 = .ok (.getfield 26, 3) := by decide +kernel
theorem dX4_emit_31 : decode cX4_emit 31 = .ok (.iconst 1, 1) := by decide +kernel
theorem dX4_emit_32 : decode cX4_emit 32 = .ok (.iadd, 1) := by decide +kernel
theorem dX4_emit_33 : decode cX4_emit 33 = .ok (.putfield 26, 3) := by decide +kernel
theorem dX4_emit_36 : decode cX4_emit 36 = .ok (.return_, 1) := by decide +kernel
theorem dX4_isAndOr_0 : decode cX4_isAndOr 0 = .ok (.iload_n 0, 1) := by decide +kernel
theorem dX4_isAndOr_1 : decode cX4_isAndOr 1 = .ok (.ldc 97, 2) := by decide +kernel
theorem dX4_isAndOr_3 : decode cX4_isAndOr 3 = .ok (.if_icmp .eq 10, 3) := by decide +kernel
theorem dX4_isAndOr_6 : decode cX4_isAndOr 6 = .ok (.iload_n 0, 1) := by decide +kernel
theorem dX4_isAndOr_7 : decode cX4_isAndOr 7 = .ok (.sipush 28530, 3) := by decide +kernel
theorem dX4_isAndOr_10 : decode cX4_isAndOr 10 = .ok (.if_icmp .ne 7, 3) := by decide +kernel
theorem dX4_isAndOr_13 : decode cX4_isAndOr 13 = .ok (.iconst 1, 1) := by decide +kernel
theorem dX4_isAndOr_14 : decode cX4_isAndOr 14 = .ok (.goto 4, 3) := by decide +kernel
theorem dX4_isAndOr_17 : decode cX4_isAndOr 17 = .ok (.iconst 0, 1) := by decide +kernel
theorem dX4_isAndOr_18 : decode cX4_isAndOr 18 = .ok (.ireturn, 1) := by decide +kernel
theorem dX4_clauseOperation_0 : decode cX4_clauseOperation 0 = .ok (.iload_n 0, 1) := by decide +kernel
theorem dX4_clauseOperation_1 : decode cX4_clauseOperation 1 = .ok (.lookupswitch 55 #[(26479, 49), (7103860, 43), (1919251316, 52), (1953854062, 46)], 43) := by decide +kernel
theorem dX4_clauseOperation_44 : decode cX4_clauseOperation 44 = .ok (.bipush 21, 2) := by decide +kernel
theorem dX4_clauseOperation_46 : decode cX4_clauseOperation 46 = .ok (.ireturn, 1) := by decide +kernel
theorem dX4_clauseOperation_47 : decode cX4_clauseOperation 47 = .ok (.bipush 22, 2) := by decide +kernel
theorem dX4_clauseOperation_49 : decode cX4_clauseOperation 49 = .ok (.ireturn, 1) := by decide +kernel
theorem dX4_clauseOperation_50 : decode cX4_clauseOperation 50 = .ok (.bipush 23, 2) := by decide +kernel
theorem dX4_clauseOperation_52 : decode cX4_clauseOperation 52 = .ok (.ireturn, 1) := by decide +kernel
theorem dX4_clauseOperation_53 : decode cX4_clauseOperation 53 = .ok (.bipush 24, 2) := by decide +kernel
theorem dX4_clauseOperation_55 : decode cX4_clauseOperation 55 = .ok (.ireturn, 1) := by decide +kernel
theorem dX4_clauseOperation_56 : decode cX4_clauseOperation 56 = .ok (.iconst (-1), 1) := by decide +kernel
theorem dX4_clauseOperation_57 : decode cX4_clauseOperation 57 = .ok (.ireturn, 1) := by decide +kernel
theorem dX4_compareOperation_0 : decode cX4_compareOperation 0 = .ok (.iload_n 0, 1) := by decide +kernel
theorem dX4_compareOperation_1 : decode cX4_compareOperation 1 = .ok (.lookupswitch 77 #[(-6, 68), (-5, 62), (35, 74), (60, 59), (61, 71), (62, 65)], 59) := by decide +kernel
theorem dX4_compareOperation_60 : decode cX4_compareOperation 60 = .ok (.bipush 13, 2) := by decide +kernel
theorem dX4_compareOperation_62 : decode cX4_compareOperation 62 = .ok (.ireturn, 1) := by decide +kernel
theorem dX4_compareOperation_63 : decode cX4_compareOperation 63 = .ok (.bipush 14, 2) := by decide +kernel
theorem dX4_compareOperation_65 : decode cX4_compareOperation 65 = .ok (.ireturn, 1) := by decide +kernel
theorem dX4_compareOperation_66 : decode cX4_compareOperation 66 = .ok (.bipush 15, 2) := by decide +kernel
theorem dX4_compareOperation_68 : decode cX4_compareOperation 68 = .ok (.ireturn, 1) := by decide +kernel
theorem dX4_compareOperation_69 : decode cX4_compareOperation 69 = .ok (.bipush 16, 2) := by decide +kernel
theorem dX4_compareOperation_71 : decode cX4_compareOperation 71 = .ok (.ireturn, 1) := by decide +kernel
theorem dX4_compareOperation_72 : decode cX4_compareOperation 72 = .ok (.bipush 17, 2) := by decide +kernel
theorem dX4_compareOperation_74 : decode cX4_compareOperation 74 = .ok (.ireturn, 1) := by decide +kernel
theorem dX4_compareOperation_75 : decode cX4_compareOperation 75 = .ok (.bipush 18, 2) := by decide +kernel
theorem dX4_compareOperation_77 : decode cX4_compareOperation 77 = .ok (.ireturn, 1) := by decide +kernel
theorem dX4_compareOperation_78 : decode cX4_compareOperation 78 = .ok (.iconst (-1), 1) := by decide +kernel
theorem dX4_compareOperation_79 : decode cX4_compareOperation 79 = .ok (.ireturn, 1) := by decide +kernel
theorem dX4_joinOperation_0 : decode cX4_joinOperation 0 = .ok (.iload_n 0, 1) := by decide +kernel
theorem dX4_joinOperation_1 : decode cX4_joinOperation 1 = .ok (.tableswitch 51 42 47 #[45, 39, 51, 42, 51, 48], 39) := by decide +kernel
theorem dX4_joinOperation_40 : decode cX4_joinOperation 40 = .ok (.bipush 7, 2) := by decide +kernel
theorem dX4_joinOperation_42 : decode cX4_joinOperation 42 = .ok (.ireturn, 1) := by decide +kernel
theorem dX4_joinOperation_43 : decode cX4_joinOperation 43 = .ok (.bipush 8, 2) := by decide +kernel
theorem dX4_joinOperation_45 : decode cX4_joinOperation 45 = .ok (.ireturn, 1) := by decide +kernel
theorem dX4_joinOperation_46 : decode cX4_joinOperation 46 = .ok (.bipush 9, 2) := by decide +kernel
theorem dX4_joinOperation_48 : decode cX4_joinOperation 48 = .ok (.ireturn, 1) := by decide +kernel
theorem dX4_joinOperation_49 : decode cX4_joinOperation 49 = .ok (.bipush 10, 2) := by decide +kernel
theorem dX4_joinOperation_51 : decode cX4_joinOperation 51 = .ok (.ireturn, 1) := by decide +kernel
theorem dX4_joinOperation_52 : decode cX4_joinOperation 52 = .ok (.iconst (-1), 1) := by decide +kernel
theorem dX4_joinOperation_53 : decode cX4_joinOperation 53 = .ok (.ireturn, 1) := by decide +kernel
theorem dX5_init_0 : decode cX5_init 0 = .ok (.aload_n 0, 1) := by decide +kernel
theorem dX5_init_1 : decode cX5_init 1 = .ok (.invokespecial 3, 3) := by decide +kernel
theorem dX5_init_4 : decode cX5_init 4 = .ok (.aload_n 0, 1) := by decide +kernel
theorem dX5_init_5 : decode cX5_init 5 = .ok (.bipush 6, 2) := by decide +kernel
theorem dX5_init_7 : decode cX5_init 7 = .ok (.newarray .int, 2) := by decide +kernel
theorem dX5_init_9 : decode cX5_init 9 = .ok (.putfield 9, 3) := by decide +kernel
theorem dX5_init_12 : decode cX5_init 12 = .ok (.aload_n 0, 1) := by decide +kernel
theorem dX5_init_13 : decode cX5_init 13 = .ok (.bipush 6, 2) := by decide +kernel
theorem dX5_init_15 : decode cX5_init 15 = .ok (.newarray .int, 2) := by decide +kernel
theorem dX5_init_17 : decode cX5_init 17 = .ok (.putfield 15, 3) := by decide +kernel
theorem dX5_init_20 : decode cX5_init 20 = .ok (.aload_n 0, 1) := by decide +kernel
theorem dX5_init_21 : decode cX5_init 21 = .ok (.bipush 6, 2) := by decide +kernel
theorem dX5_init_23 : decode cX5_init 23 = .ok (.newarray .int, 2) := by decide +kernel
theorem dX5_init_25 : decode cX5_init 25 = .ok (.putfield 18, 3) := by decide +kernel
theorem dX5_init_28 : decode cX5_init 28 = .ok (.aload_n 0, 1) := by decide +kernel
theorem dX5_init_29 : decode cX5_init 29 = .ok (.bipush 6, 2) := by decide +kernel
theorem dX5_init_31 : decode cX5_init 31 = .ok (.newarray .int, 2) := by decide +kernel
theorem dX5_init_33 : decode cX5_init 33 = .ok (.putfield 21, 3) := by decide +kernel
theorem dX5_init_36 : decode cX5_init 36 = .ok (.aload_n 0, 1) := by decide +kernel
theorem dX5_init_37 : decode cX5_init 37 = .ok (.bipush 120, 2) := by decide +kernel
theorem dX5_init_39 : decode cX5_init 39 = .ok (.newarray .int, 2) := by decide +kernel
theorem dX5_init_41 : decode cX5_init 41 = .ok (.putfield 24, 3) := by decide +kernel
theorem dX5_init_44 : decode cX5_init 44 = .ok (.return_, 1) := by decide +kernel
set_option maxRecDepth 20000 in
theorem ggX5_copyFrom_X11_copyRow : GoodIn wsX5_copyFrom wsX11_copyRow := goodIn_r _ [9, 10, 11, 12, 13, 14, 15, 16, 17] (by decide +kernel) (by decide +kernel)
set_option maxRecDepth 20000 in
theorem gX5_copyFrom_X11_copyRow_n27 : GoodIn wsX5_copyFrom (wsX11_copyRow) := ggX5_copyFrom_X11_copyRow
theorem dX5_copyFrom_0 : decode cX5_copyFrom 0 = .ok (.aload_n 1, 1) := by decide +kernel
theorem dX5_copyFrom_1 : decode cX5_copyFrom 1 = .ok (.getfield 9, 3) := by decide +kernel
theorem dX5_copyFrom_4 : decode cX5_copyFrom 4 = .ok (.aload_n 0, 1) := by decide +kernel
theorem dX5_copyFrom_5 : decode cX5_copyFrom 5 = .ok (.getfield 9, 3) := by decide +kernel
theorem dX5_copyFrom_8 : decode cX5_copyFrom 8 = .ok (.invokestatic 27, 3) := by decide +kernel
theorem dX5_copyFrom_11 : decode cX5_copyFrom 11 = .ok (.aload_n 1, 1) := by decide +kernel
theorem dX5_copyFrom_12 : decode cX5_copyFrom 12 = .ok (.getfield 15, 3) := by decide +kernel
theorem dX5_copyFrom_15 : decode cX5_copyFrom 15 = .ok (.aload_n 0, 1) := by decide +kernel
theorem dX5_copyFrom_16 : decode cX5_copyFrom 16 = .ok (.getfield 15, 3) := by decide +kernel
theorem dX5_copyFrom_19 : decode cX5_copyFrom 19 = .ok (.invokestatic 27, 3) := by decide +kernel
theorem dX5_copyFrom_22 : decode cX5_copyFrom 22 = .ok (.aload_n 1, 1) := by decide +kernel
theorem dX5_copyFrom_23 : decode cX5_copyFrom 23 = .ok (.getfield 18, 3) := by decide +kernel
theorem dX5_copyFrom_26 : decode cX5_copyFrom 26 = .ok (.aload_n 0, 1) := by decide +kernel
theorem dX5_copyFrom_27 : decode cX5_copyFrom 27 = .ok (.getfield 18, 3) := by decide +kernel
theorem dX5_copyFrom_30 : decode cX5_copyFrom 30 = .ok (.invokestatic 27, 3) := by decide +kernel
theorem dX5_copyFrom_33 : decode cX5_copyFrom 33 = .ok (.aload_n 1, 1) := by decide +kernel
theorem dX5_copyFrom_34 : decode cX5_copyFrom 34 = .ok (.getfield 21, 3) := by decide +kernel
theorem dX5_copyFrom_37 : decode cX5_copyFrom 37 = .ok (.aload_n 0, 1) := by decide +kernel
theorem dX5_copyFrom_38 : decode cX5_copyFrom 38 = .ok (.getfield 21, 3) := by decide +kernel
theorem dX5_copyFrom_41 : decode cX5_copyFrom 41 = .ok (.invokestatic 27, 3) := by decide +kernel
theorem dX5_copyFrom_44 : decode cX5_copyFrom 44 = .ok (.aload_n 1, 1) := by decide +kernel
theorem dX5_copyFrom_45 : decode cX5_copyFrom 45 = .ok (.getfield 24, 3) := by decide +kernel
theorem dX5_copyFrom_48 : decode cX5_copyFrom 48 = .ok (.aload_n 0, 1) := by decide +kernel
theorem dX5_copyFrom_49 : decode cX5_copyFrom 49 = .ok (.getfield 24, 3) := by decide +kernel
theorem dX5_copyFrom_52 : decode cX5_copyFrom 52 = .ok (.invokestatic 27, 3) := by decide +kernel
theorem dX5_copyFrom_55 : decode cX5_copyFrom 55 = .ok (.aload_n 0, 1) := by decide +kernel
theorem dX5_copyFrom_56 : decode cX5_copyFrom 56 = .ok (.aload_n 1, 1) := by decide +kernel
theorem dX5_copyFrom_57 : decode cX5_copyFrom 57 = .ok (.getfield 31, 3) := by decide +kernel
theorem dX5_copyFrom_60 : decode cX5_copyFrom 60 = .ok (.putfield 31, 3) := by decide +kernel
theorem dX5_copyFrom_63 : decode cX5_copyFrom 63 = .ok (.return_, 1) := by decide +kernel
theorem dX6_init_0 : decode cX6_init 0 = .ok (.aload_n 0, 1) := by decide +kernel
theorem dX6_init_1 : decode cX6_init 1 = .ok (.invokespecial 3, 3) := by decide +kernel
theorem dX6_init_4 : decode cX6_init 4 = .ok (.aload_n 0, 1) := by decide +kernel
theorem dX6_init_5 : decode cX6_init 5 = .ok (.aload_n 1, 1) := by decide +kernel
theorem dX6_init_6 : decode cX6_init 6 = .ok (.putfield 9, 3) := by decide +kernel
theorem dX6_init_9 : decode cX6_init 9 = .ok (.aload_n 0, 1) := by decide +kernel
theorem dX6_init_10 : decode cX6_init 10 = .ok (.bipush 64, 2) := by decide +kernel
theorem dX6_init_12 : decode cX6_init 12 = .ok (.newarray .int, 2) := by decide +kernel
theorem dX6_init_14 : decode cX6_init 14 = .ok (.putfield 15, 3) := by decide +kernel
theorem dX6_init_17 : decode cX6_init 17 = .ok (.aload_n 0, 1) := by decide +kernel
theorem dX6_init_18 : decode cX6_init 18 = .ok (.bipush 8, 2) := by decide +kernel
theorem dX6_init_20 : decode cX6_init 20 = .ok (.newarray .int, 2) := by decide +kernel
theorem dX6_init_22 : decode cX6_init 22 = .ok (.putfield 19, 3) := by decide +kernel
theorem dX6_init_25 : decode cX6_init 25 = .ok (.aload_n 0, 1) := by decide +kernel
theorem dX6_init_26 : decode cX6_init 26 = .ok (.ldc 22, 2) := by decide +kernel
theorem dX6_init_28 : decode cX6_init 28 = .ok (.putfield 23, 3) := by decide +kernel
theorem dX6_init_31 : decode cX6_init 31 = .ok (.return_, 1) := by decide +kernel
set_option maxRecDepth 20000 in
theorem ggX6_run_X6_brought : GoodIn wsX6_run wsX6_brought := goodIn_r _ [10, 11, 12, 13, 14, 15, 16, 17, 18, 19, 20, 21, 22, 23, 24, 25, 26, 27, 28, 29, 30, 31, 32, 64, 65, 66, 67, 68, 69, 70, 71, 72, 73, 74, 75, 76, 77, 78, 79, 80, 81, 82, 83, 84, 85, 86, 87, 88, 89, 90, 91] (by decide +kernel) (by decide +kernel)
set_option maxRecDepth 20000 in
theorem gX6_run_X6_brought : GoodIn wsX6_run (wsV RX6 45 RX6 yX6_brought wsX6_brought) := goodIn_app (goodIn_of _ (by decide +kernel)) ggX6_run_X6_brought
set_option maxRecDepth 20000 in
theorem ggX6_run_X6_push : GoodIn wsX6_run wsX6_push := goodIn_r _ [36, 1, 37, 38, 39, 40, 9, 41, 42, 2, 64, 65, 66, 67, 68, 69, 70, 71, 72] (by decide +kernel) (by decide +kernel)
set_option maxRecDepth 20000 in
theorem gX6_run_X6_push : GoodIn wsX6_run (wsV RX6 49 RX6 yX6_push wsX6_push) := goodIn_app (goodIn_of _ (by decide +kernel)) ggX6_run_X6_push
set_option maxRecDepth 20000 in
theorem ggX6_run_X6_pop : GoodIn wsX6_run wsX6_pop := goodIn_r _ [46, 1, 37, 64, 65, 66, 67, 68, 69, 70, 71, 72] (by decide +kernel) (by decide +kernel)
set_option maxRecDepth 20000 in
theorem gX6_run_X6_pop : GoodIn wsX6_run (wsV RX6 53 RX6 yX6_pop wsX6_pop) := goodIn_app (goodIn_of _ (by decide +kernel)) ggX6_run_X6_pop
set_option maxRecDepth 20000 in
theorem ggX6_run_X6_joined : GoodIn wsX6_run wsX6_joined := goodIn_r _ [49, 50, 51, 52, 53, 54, 55, 56, 57, 58, 9, 59] (by decide +kernel) (by decide +kernel)
set_option maxRecDepth 20000 in
theorem gX6_run_X6_joined : GoodIn wsX6_run (va_wsS RX6 57 yX6_joined wsX6_joined) := goodIn_app (goodIn_of _ (by decide +kernel)) ggX6_run_X6_joined
set_option maxRecDepth 20000 in
theorem ggX6_run_X6_finish : GoodIn wsX6_run wsX6_finish := goodIn_r _ [63, 11, 50, 51, 52, 53, 54, 55, 56, 3, 4, 5, 14, 15, 16, 64, 65, 66, 67, 68, 69, 70, 71, 72] (by decide +kernel) (by decide +kernel)
set_option maxRecDepth 20000 in
theorem gX6_run_X6_finish : GoodIn wsX6_run (wsV RX6 61 RX6 yX6_finish wsX6_finish) := goodIn_app (goodIn_of _ (by decide +kernel)) ggX6_run_X6_finish
theorem dX6_run_0 : decode cX6_run 0 = .ok (.aload_n 0, 1) := by decide +kernel
theorem dX6_run_1 : decode cX6_run 1 = .ok (.iconst 0, 1) := by decide +kernel
theorem dX6_run_2 : decode cX6_run 2 = .ok (.putfield 27, 3) := by decide +kernel
theorem dX6_run_5 : decode cX6_run 5 = .ok (.aload_n 0, 1) := by decide +kernel
theorem dX6_run_6 : decode cX6_run 6 = .ok (.iconst 0, 1) := by decide +kernel
theorem dX6_run_7 : decode cX6_run 7 = .ok (.putfield 30, 3) := by decide +kernel
theorem dX6_run_10 : decode cX6_run 10 = .ok (.aload_n 0, 1) := by decide +kernel
theorem dX6_run_11 : decode cX6_run 11 = .ok (.iconst 0, 1) := by decide +kernel
theorem dX6_run_12 : decode cX6_run 12 = .ok (.putfield 33, 3) := by decide +kernel
theorem dX6_run_15 : decode cX6_run 15 = .ok (.aload_n 0, 1) := by decide +kernel
theorem dX6_run_16 : decode cX6_run 16 = .ok (.iconst 0, 1) := by decide +kernel
theorem dX6_run_17 : decode cX6_run 17 = .ok (.putfield 36, 3) := by decide +kernel
theorem dX6_run_20 : decode cX6_run 20 = .ok (.aload_n 0, 1) := by decide +kernel
theorem dX6_run_21 : decode cX6_run 21 = .ok (.iconst 0, 1) := by decide +kernel
theorem dX6_run_22 : decode cX6_run 22 = .ok (.putfield 39, 3) := by decide +kernel
theorem dX6_run_25 : decode cX6_run 25 = .ok (.iconst 0, 1) := by decide +kernel
theorem dX6_run_26 : decode cX6_run 26 = .ok (.istore_n 3, 1) := by decide +kernel
theorem dX6_run_27 : decode cX6_run 27 = .ok (.iload_n 3, 1) := by decide +kernel
theorem dX6_run_28 : decode cX6_run 28 = .ok (.aload_n 1, 1) := by decide +kernel
theorem dX6_run_29 : decode cX6_run 29 = .ok (.arraylength, 1) := by decide +kernel
theorem dX6_run_30 : decode cX6_run 30 = .ok (.if_icmp .ge 128, 3) := by decide +kernel
theorem dX6_run_33 : decode cX6_run 33 = .ok (.aload_n 1, 1) := by decide +kernel
theorem dX6_run_34 : decode cX6_run 34 = .ok (.iload_n 3, 1) := by decide +kernel
theorem dX6_run_35 : decode cX6_run 35 = .ok (.iaload, 1) := by decide +kernel
theorem dX6_run_36 : decode cX6_run 36 = .ok (.bipush 31, 2) := by decide +kernel
theorem dX6_run_38 : decode cX6_run 38 = .ok (.iand, 1) := by decide +kernel
theorem dX6_run_39 : decode cX6_run 39 = .ok (.istore 4, 2) := by decide +kernel
theorem dX6_run_41 : decode cX6_run 41 = .ok (.aload_n 1, 1) := by decide +kernel
theorem dX6_run_42 : decode cX6_run 42 = .ok (.iload_n 3, 1) := by decide +kernel
theorem dX6_run_43 : decode cX6_run 43 = .ok (.iaload, 1) := by decide +kernel
theorem dX6_run_44 : decode cX6_run 44 = .ok (.iconst 5, 1) := by decide +kernel
theorem dX6_run_45 : decode cX6_run 45 = .ok (.ishr, 1) := by decide +kernel
theorem dX6_run_46 : decode cX6_run 46 = .ok (.istore 5, 2) := by decide +kernel
theorem dX6_run_48 : decode cX6_run 48 = .ok (.iload 4, 2) := by decide +kernel
theorem dX6_run_50 : decode cX6_run 50 = .ok (.iconst 4, 1) := by decide +kernel
theorem dX6_run_51 : decode cX6_run 51 = .ok (.if_icmp .gt 20, 3) := by decide +kernel
theorem dX6_run_54 : decode cX6_run 54 = .ok (.aload_n 0, 1) := by decide +kernel
theorem dX6_run_55 : decode cX6_run 55 = .ok (.aload_n 0, 1) := by decide +kernel
theorem dX6_run_56 : decode cX6_run 56 = .ok (.iload 4, 2) := by decide +kernel
theorem dX6_run_58 : decode cX6_run 58 = .ok (.iload 5, 2) := by decide +kernel
theorem dX6_run_60 : decode cX6_run 60 = .ok (.aload_n 2, 1) := by decide +kernel
theorem dX6_run_61 : decode cX6_run 61 = .ok (.invokevirtual 45, 3) := by decide +kernel
theorem dX6_run_64 : decode cX6_run 64 = .ok (.i2l, 1) := by decide +kernel
theorem dX6_run_65 : decode cX6_run 65 = .ok (.invokevirtual 49, 3) := by decide +kernel
theorem dX6_run_68 : decode cX6_run 68 = .ok (.goto 84, 3) := by decide +kernel
theorem dX6_run_71 : decode cX6_run 71 = .ok (.iload 4, 2) := by decide +kernel
theorem dX6_run_73 : decode cX6_run 73 = .ok (.bipush 6, 2) := by decide +kernel
theorem dX6_run_75 : decode cX6_run 75 = .ok (.if_icmp .gt 34, 3) := by decide +kernel
theorem dX6_run_78 : decode cX6_run 78 = .ok (.aload_n 0, 1) := by decide +kernel
theorem dX6_run_79 : decode cX6_run 79 = .ok (.invokevirtual 53, 3) := by decide +kernel
theorem dX6_run_82 : decode cX6_run 82 = .ok (.istore 6, 2) := by decide +kernel
theorem dX6_run_84 : decode cX6_run 84 = .ok (.aload_n 0, 1) := by decide +kernel
theorem dX6_run_85 : decode cX6_run 85 = .ok (.iload 4, 2) := by decide +kernel
theorem dX6_run_87 : decode cX6_run 87 = .ok (.iconst 5, 1) := by decide +kernel
theorem dX6_run_88 : decode cX6_run 88 = .ok (.if_icmp .ne 10, 3) := by decide +kernel
theorem dX6_run_91 : decode cX6_run 91 = .ok (.iload 6, 2) := by decide +kernel
theorem dX6_run_93 : decode cX6_run 93 = .ok (.i2l, 1) := by decide +kernel
theorem dX6_run_94 : decode cX6_run 94 = .ok (.lneg, 1) := by decide +kernel
theorem dX6_run_95 : decode cX6_run 95 = .ok (.goto 8, 3) := by decide +kernel
theorem dX6_run_98 : decode cX6_run 98 = .ok (.iconst 1, 1) := by decide +kernel
theorem dX6_run_99 : decode cX6_run 99 = .ok (.iload 6, 2) := by decide +kernel
theorem dX6_run_101 : decode cX6_run 101 = .ok (.isub, 1) := by decide +kernel
theorem dX6_run_102 : decode cX6_run 102 = .ok (.i2l, 1) := by decide +kernel
theorem dX6_run_103 : decode cX6_run 103 = .ok (.invokevirtual 49, 3) := by decide +kernel
theorem dX6_run_106 : decode cX6_run 106 = .ok (.goto 46, 3) := by decide +kernel
theorem dX6_run_109 : decode cX6_run 109 = .ok (.iload 4, 2) := by decide +kernel
theorem dX6_run_111 : decode cX6_run 111 = .ok (.bipush 20, 2) := by decide +kernel
theorem dX6_run_113 : decode cX6_run 113 = .ok (.if_icmp .gt 27, 3) := by decide +kernel
theorem dX6_run_116 : decode cX6_run 116 = .ok (.aload_n 0, 1) := by decide +kernel
theorem dX6_run_117 : decode cX6_run 117 = .ok (.invokevirtual 53, 3) := by decide +kernel
theorem dX6_run_120 : decode cX6_run 120 = .ok (.istore 6, 2) := by decide +kernel
theorem dX6_run_122 : decode cX6_run 122 = .ok (.aload_n 0, 1) := by decide +kernel
theorem dX6_run_123 : decode cX6_run 123 = .ok (.iload 4, 2) := by decide +kernel
theorem dX6_run_125 : decode cX6_run 125 = .ok (.aload_n 0, 1) := by decide +kernel
theorem dX6_run_126 : decode cX6_run 126 = .ok (.invokevirtual 53, 3) := by decide +kernel
theorem dX6_run_129 : decode cX6_run 129 = .ok (.iload 6, 2) := by decide +kernel
theorem dX6_run_131 : decode cX6_run 131 = .ok (.invokestatic 57, 3) := by decide +kernel
theorem dX6_run_134 : decode cX6_run 134 = .ok (.invokevirtual 49, 3) := by decide +kernel
theorem dX6_run_137 : decode cX6_run 137 = .ok (.goto 15, 3) := by decide +kernel
theorem dX6_run_140 : decode cX6_run 140 = .ok (.aload_n 0, 1) := by decide +kernel
theorem dX6_run_141 : decode cX6_run 141 = .ok (.iload 4, 2) := by decide +kernel
theorem dX6_run_143 : decode cX6_run 143 = .ok (.iload 5, 2) := by decide +kernel
theorem dX6_run_145 : decode cX6_run 145 = .ok (.aload_n 0, 1) := by decide +kernel
theorem dX6_run_146 : decode cX6_run 146 = .ok (.invokevirtual 53, 3) := by decide +kernel
theorem dX6_run_149 : decode cX6_run 149 = .ok (.invokevirtual 61, 3) := by decide +kernel
theorem dX6_run_152 : decode cX6_run 152 = .ok (.iinc 3 1, 3) := by decide +kernel
theorem dX6_run_155 : decode cX6_run 155 = .ok (.goto (-128), 3) := by decide +kernel
theorem dX6_run_158 : decode cX6_run 158 = .ok (.return_, 1) := by decide +kernel
set_option maxRecDepth 20000 in
theorem ggX6_push_X6_bounded : GoodIn wsX6_push wsX6_bounded := goodIn_r _ [7, 8, 9, 10, 11, 12, 13, 14, 15, 16, 17, 18] (by decide +kernel) (by decide +kernel)
set_option maxRecDepth 20000 in
theorem gX6_push_X6_bounded : GoodIn wsX6_push (wsV RX6 65 RX6 yX6_bounded wsX6_bounded) := goodIn_app (goodIn_of _ (by decide +kernel)) ggX6_push_X6_bounded
theorem dX6_push_0 : decode cX6_push 0 = .ok (.aload_n 0, 1) := by decide +kernel
theorem dX6_push_1 : decode cX6_push 1 = .ok (.getfield 27, 3) := by decide +kernel
theorem dX6_push_4 : decode cX6_push 4 = .ok (.aload_n 0, 1) := by decide +kernel
theorem dX6_push_5 : decode cX6_push 5 = .ok (.getfield 15, 3) := by decide +kernel
theorem dX6_push_8 : decode cX6_push 8 = .ok (.arraylength, 1) := by decide +kernel
theorem dX6_push_9 : decode cX6_push 9 = .ok (.if_icmp .ge 27, 3) := by decide +kernel
theorem dX6_push_12 : decode cX6_push 12 = .ok (.aload_n 0, 1) := by decide +kernel
theorem dX6_push_13 : decode cX6_push 13 = .ok (.getfield 15, 3) := by decide +kernel
theorem dX6_push_16 : decode cX6_push 16 = .ok (.aload_n 0, 1) := by decide +kernel
theorem dX6_push_17 : decode cX6_push 17 = .ok (.getfield 27, 3) := by decide +kernel
theorem dX6_push_20 : decode cX6_push 20 = .ok (.aload_n 0, 1) := by decide +kernel
theorem dX6_push_21 : decode cX6_push 21 = .ok (.lload_n 1, 1) := by decide +kernel
theorem dX6_push_22 : decode cX6_push 22 = .ok (.invokevirtual 65, 3) := by decide +kernel
theorem dX6_push_25 : decode cX6_push 25 = .ok (.iastore, 1) := by decide +kernel
theorem dX6_push_26 : decode cX6_push 26 = .ok (.aload_n 0, 1) := by decide +kernel
theorem dX6_push_27 : decode cX6_push 27 = .ok (.dup, 1) := by decide +kernel
theorem dX6_push_28 : decode cX6_push 28 = .ok (.getfield 27, 3) := by decide +kernel
theorem dX6_push_31 : decode cX6_push 31 = .ok (.iconst 1, 1) := by decide +kernel
theorem dX6_push_32 : decode cX6_push 32 = .ok (.iadd, 1) := by decide +kernel
theorem dX6_push_33 : decode cX6_push 33 = .ok (.putfield 27, 3) := by decide +kernel
theorem dX6_push_36 : decode cX6_push 36 = .ok (.return_, 1) := by decide +kernel
theorem dX6_bounded_0 : decode cX6_bounded 0 = .ok (.lload_n 1, 1) := by decide +kernel
theorem dX6_bounded_1 : decode cX6_bounded 1 = .ok (.aload_n 0, 1) := by decide +kernel
theorem dX6_bounded_2 : decode cX6_bounded 2 = .ok (.getfield 23, 3) := by decide +kernel
theorem dX6_bounded_5 : decode cX6_bounded 5 = .ok (.i2l, 1) := by decide +kernel
theorem dX6_bounded_6 : decode cX6_bounded 6 = .ok (.lcmp, 1) := by decide +kernel
theorem dX6_bounded_7 : decode cX6_bounded 7 = .ok (.ifCond .le 18, 3) := by decide +kernel
theorem dX6_bounded_10 : decode cX6_bounded 10 = .ok (.aload_n 0, 1) := by decide +kernel
theorem dX6_bounded_11 : decode cX6_bounded 11 = .ok (.dup, 1) := by decide +kernel
theorem dX6_bounded_12 : decode cX6_bounded 12 = .ok (.getfield 30, 3) := by decide +kernel
theorem dX6_bounded_15 : decode cX6_bounded 15 = .ok (.iconst 1, 1) := by decide +kernel
theorem dX6_bounded_16 : decode cX6_bounded 16 = .ok (.iadd, 1) := by decide +kernel
theorem dX6_bounded_17 : decode cX6_bounded 17 = .ok (.putfield 30, 3) := by decide +kernel
theorem dX6_bounded_20 : decode cX6_bounded 20 = .ok (.aload_n 0, 1) := by decide +kernel
theorem dX6_bounded_21 : decode cX6_bounded 21 = .ok (.getfield 23, 3) := by decide +kernel
theorem dX6_bounded_24 : decode cX6_bounded 24 = .ok (.ireturn, 1) := by decide +kernel
theorem dX6_bounded_25 : decode cX6_bounded 25 = .ok (.lload_n 1, 1) := by decide +kernel
theorem dX6_bounded_26 : decode cX6_bounded 26 = .ok (.aload_n 0, 1) := by decide +kernel
theorem dX6_bounded_27 : decode cX6_bounded 27 = .ok (.getfield 23, 3) := by decide +kernel
theorem dX6_bounded_30 : decode cX6_bounded 30 = .ok (.ineg, 1) := by decide +kernel
theorem dX6_bounded_31 : decode cX6_bounded 31 = .ok (.i2l, 1) := by decide +kernel
theorem dX6_bounded_32 : decode cX6_bounded 32 = .ok (.lcmp, 1) := by decide +kernel
theorem dX6_bounded_33 : decode cX6_bounded 33 = .ok (.ifCond .ge 19, 3) := by decide +kernel
theorem dX6_bounded_36 : decode cX6_bounded 36 = .ok (.aload_n 0, 1) := by decide +kernel
theorem dX6_bounded_37 : decode cX6_bounded 37 = .ok (.dup, 1) := by decide +kernel
theorem dX6_bounded_38 : decode cX6_bounded 38 = .ok (.getfield 30, 3) := by decide +kernel
theorem dX6_bounded_41 : decode cX6_bounded 41 = .ok (.iconst 1, 1) := by decide +kernel
theorem dX6_bounded_42 : decode cX6_bounded 42 = .ok (.iadd, 1) := by decide +kernel
theorem dX6_bounded_43 : decode cX6_bounded 43 = .ok (.putfield 30, 3) := by decide +kernel
theorem dX6_bounded_46 : decode cX6_bounded 46 = .ok (.aload_n 0, 1) := by decide +kernel
theorem dX6_bounded_47 : decode cX6_bounded 47 = .ok (.getfield 23, 3) := by decide +kernel
theorem dX6_bounded_50 : decode cX6_bounded 50 = .ok (.ineg, 1) := by decide +kernel
theorem dX6_bounded_51 : decode cX6_bounded 51 = .ok (.ireturn, 1) := by decide +kernel
theorem dX6_bounded_52 : decode cX6_bounded 52 = .ok (.lload_n 1, 1) := by decide +kernel
theorem dX6_bounded_53 : decode cX6_bounded 53 = .ok (.l2i, 1) := by decide +kernel
theorem dX6_bounded_54 : decode cX6_bounded 54 = .ok (.ireturn, 1) := by decide +kernel
theorem dX6_pop_0 : decode cX6_pop 0 = .ok (.aload_n 0, 1) := by decide +kernel
theorem dX6_pop_1 : decode cX6_pop 1 = .ok (.getfield 27, 3) := by decide +kernel
theorem dX6_pop_4 : decode cX6_pop 4 = .ok (.ifCond .gt 5, 3) := by decide +kernel
theorem dX6_pop_7 : decode cX6_pop 7 = .ok (.iconst 0, 1) := by decide +kernel
theorem dX6_pop_8 : decode cX6_pop 8 = .ok (.ireturn, 1) := by decide +kernel
theorem dX6_pop_9 : decode cX6_pop 9 = .ok (.aload_n 0, 1) := by decide +kernel
theorem dX6_pop_10 : decode cX6_pop 10 = .ok (.dup, 1) := by decide +kernel
theorem dX6_pop_11 : decode cX6_pop 11 = .ok (.getfield 27, 3) := by decide +kernel
theorem dX6_pop_14 : decode cX6_pop 14 = .ok (.iconst 1, 1) := by decide +kernel
theorem dX6_pop_15 : decode cX6_pop 15 = .ok (.isub, 1) := by decide +kernel
theorem dX6_pop_16 : decode cX6_pop 16 = .ok (.putfield 27, 3) := by decide +kernel
theorem dX6_pop_19 : decode cX6_pop 19 = .ok (.aload_n 0, 1) := by decide +kernel
theorem dX6_pop_20 : decode cX6_pop 20 = .ok (.getfield 15, 3) := by decide +kernel
theorem dX6_pop_23 : decode cX6_pop 23 = .ok (.aload_n 0, 1) := by decide +kernel
theorem dX6_pop_24 : decode cX6_pop 24 = .ok (.getfield 27, 3) := by decide +kernel
theorem dX6_pop_27 : decode cX6_pop 27 = .ok (.iaload, 1) := by decide +kernel
theorem dX6_pop_28 : decode cX6_pop 28 = .ok (.ireturn, 1) := by decide +kernel
set_option maxRecDepth 20000 in
theorem ggX6_brought_X11_isWithin : GoodIn wsX6_brought wsX11_isWithin := goodIn_r _ [6] (by decide +kernel) (by decide +kernel)
set_option maxRecDepth 20000 in
theorem gX6_brought_X11_isWithin_n69 : GoodIn wsX6_brought (wsX11_isWithin) := ggX6_brought_X11_isWithin
set_option maxRecDepth 20000 in
theorem ggX6_brought_X2_takenBy : GoodIn wsX6_brought wsX2_takenBy := goodIn_r _ [11, 12, 13, 32, 33, 34, 35, 36, 37, 38, 39, 40, 41, 42, 43] (by decide +kernel) (by decide +kernel)
set_option maxRecDepth 20000 in
theorem gX6_brought_X2_takenBy : GoodIn wsX6_brought (wsV RX6 78 RX2 yX2_takenBy wsX2_takenBy) := goodIn_app (goodIn_of _ (by decide +kernel)) ggX6_brought_X2_takenBy
set_option maxRecDepth 20000 in
theorem ggX6_brought_X2_comparedBy : GoodIn wsX6_brought wsX2_comparedBy := goodIn_r _ [17, 18, 19, 20, 21, 4, 5, 6, 22, 8, 9, 10, 11, 12, 13, 32, 33, 34, 35, 36, 37, 38, 39, 40, 41, 42, 43, 44, 45, 46, 47, 48, 49, 50] (by decide +kernel) (by decide +kernel)
set_option maxRecDepth 20000 in
theorem gX6_brought_X2_comparedBy : GoodIn wsX6_brought (wsV RX6 82 RX2 yX2_comparedBy wsX2_comparedBy) := goodIn_app (goodIn_of _ (by decide +kernel)) ggX6_brought_X2_comparedBy
theorem dX6_brought_0 : decode cX6_brought 0 = .ok (.iload_n 1, 1) := by decide +kernel
theorem dX6_brought_1 : decode cX6_brought 1 = .ok (.tableswitch 78 0 3 #[31, 33, 54, 64], 31) := by decide +kernel
theorem dX6_brought_32 : decode cX6_brought 32 = .ok (.iload_n 2, 1) := by decide +kernel
theorem dX6_brought_33 : decode cX6_brought 33 = .ok (.ireturn, 1) := by decide +kernel
theorem dX6_brought_34 : decode cX6_brought 34 = .ok (.iload_n 2, 1) := by decide +kernel
theorem dX6_brought_35 : decode cX6_brought 35 = .ok (.iconst 0, 1) := by decide +kernel
theorem dX6_brought_36 : decode cX6_brought 36 = .ok (.bipush 7, 2) := by decide +kernel
theorem dX6_brought_38 : decode cX6_brought 38 = .ok (.invokestatic 69, 3) := by decide +kernel
theorem dX6_brought_41 : decode cX6_brought 41 = .ok (.ifCond .eq 12, 3) := by decide +kernel
theorem dX6_brought_44 : decode cX6_brought 44 = .ok (.aload_n 0, 1) := by decide +kernel
theorem dX6_brought_45 : decode cX6_brought 45 = .ok (.getfield 19, 3) := by decide +kernel
theorem dX6_brought_48 : decode cX6_brought 48 = .ok (.iload_n 2, 1) := by decide +kernel
theorem dX6_brought_49 : decode cX6_brought 49 = .ok (.iaload, 1) := by decide +kernel
theorem dX6_brought_50 : decode cX6_brought 50 = .ok (.goto 4, 3) := by decide +kernel
theorem dX6_brought_53 : decode cX6_brought 53 = .ok (.iconst 0, 1) := by decide +kernel
theorem dX6_brought_54 : decode cX6_brought 54 = .ok (.ireturn, 1) := by decide +kernel
theorem dX6_brought_55 : decode cX6_brought 55 = .ok (.aload_n 3, 1) := by decide +kernel
theorem dX6_brought_56 : decode cX6_brought 56 = .ok (.iload_n 2, 1) := by decide +kernel
theorem dX6_brought_57 : decode cX6_brought 57 = .ok (.aload_n 3, 1) := by decide +kernel
theorem dX6_brought_58 : decode cX6_brought 58 = .ok (.getfield 73, 3) := by decide +kernel
theorem dX6_brought_61 : decode cX6_brought 61 = .ok (.invokevirtual 78, 3) := by decide +kernel
theorem dX6_brought_64 : decode cX6_brought 64 = .ok (.ireturn, 1) := by decide +kernel
theorem dX6_brought_65 : decode cX6_brought 65 = .ok (.aload_n 3, 1) := by decide +kernel
theorem dX6_brought_66 : decode cX6_brought 66 = .ok (.aload_n 0, 1) := by decide +kernel
theorem dX6_brought_67 : decode cX6_brought 67 = .ok (.getfield 9, 3) := by decide +kernel
theorem dX6_brought_70 : decode cX6_brought 70 = .ok (.iload_n 2, 1) := by decide +kernel
theorem dX6_brought_71 : decode cX6_brought 71 = .ok (.aload_n 3, 1) := by decide +kernel
theorem dX6_brought_72 : decode cX6_brought 72 = .ok (.getfield 73, 3) := by decide +kernel
theorem dX6_brought_75 : decode cX6_brought 75 = .ok (.invokevirtual 82, 3) := by decide +kernel
theorem dX6_brought_78 : decode cX6_brought 78 = .ok (.ireturn, 1) := by decide +kernel
theorem dX6_brought_79 : decode cX6_brought 79 = .ok (.aload_n 3, 1) := by decide +kernel
theorem dX6_brought_80 : decode cX6_brought 80 = .ok (.getfield 73, 3) := by decide +kernel
theorem dX6_brought_83 : decode cX6_brought 83 = .ok (.ireturn, 1) := by decide +kernel
set_option maxRecDepth 20000 in
theorem ggX6_joined_X6_isSo : GoodIn wsX6_joined wsX6_isSo := goodIn_r _ [11] (by decide +kernel) (by decide +kernel)
set_option maxRecDepth 20000 in
theorem gX6_joined_X6_isSo : GoodIn wsX6_joined (va_wsS RX6 94 yX6_isSo wsX6_isSo) := goodIn_app (goodIn_of _ (by decide +kernel)) ggX6_joined_X6_isSo
theorem dX6_joined_0 : decode cX6_joined 0 = .ok (.iload_n 0, 1) := by decide +kernel
theorem dX6_joined_1 : decode cX6_joined 1 = .ok (.tableswitch 84 7 12 #[39, 45, 51, 57, 70, 77], 39) := by decide +kernel
theorem dX6_joined_40 : decode cX6_joined 40 = .ok (.iload_n 1, 1) := by decide +kernel
theorem dX6_joined_41 : decode cX6_joined 41 = .ok (.i2l, 1) := by decide +kernel
theorem dX6_joined_42 : decode cX6_joined 42 = .ok (.iload_n 2, 1) := by decide +kernel
theorem dX6_joined_43 : decode cX6_joined 43 = .ok (.i2l, 1) := by decide +kernel
theorem dX6_joined_44 : decode cX6_joined 44 = .ok (.ladd, 1) := by decide +kernel
theorem dX6_joined_45 : decode cX6_joined 45 = .ok (.lreturn, 1) := by decide +kernel
theorem dX6_joined_46 : decode cX6_joined 46 = .ok (.iload_n 1, 1) := by decide +kernel
theorem dX6_joined_47 : decode cX6_joined 47 = .ok (.i2l, 1) := by decide +kernel
theorem dX6_joined_48 : decode cX6_joined 48 = .ok (.iload_n 2, 1) := by decide +kernel
theorem dX6_joined_49 : decode cX6_joined 49 = .ok (.i2l, 1) := by decide +kernel
theorem dX6_joined_50 : decode cX6_joined 50 = .ok (.lsub, 1) := by decide +kernel
theorem dX6_joined_51 : decode cX6_joined 51 = .ok (.lreturn, 1) := by decide +kernel
theorem dX6_joined_52 : decode cX6_joined 52 = .ok (.iload_n 1, 1) := by decide +kernel
theorem dX6_joined_53 : decode cX6_joined 53 = .ok (.i2l, 1) := by decide +kernel
theorem dX6_joined_54 : decode cX6_joined 54 = .ok (.iload_n 2, 1) := by decide +kernel
theorem dX6_joined_55 : decode cX6_joined 55 = .ok (.i2l, 1) := by decide +kernel
theorem dX6_joined_56 : decode cX6_joined 56 = .ok (.lmul, 1) := by decide +kernel
theorem dX6_joined_57 : decode cX6_joined 57 = .ok (.lreturn, 1) := by decide +kernel
theorem dX6_joined_58 : decode cX6_joined 58 = .ok (.iload_n 2, 1) := by decide +kernel
theorem dX6_joined_59 : decode cX6_joined 59 = .ok (.ifCond .ne 7, 3) := by decide +kernel
theorem dX6_joined_62 : decode cX6_joined 62 = .ok (.lconst 0, 1) := by decide +kernel
theorem dX6_joined_63 : decode cX6_joined 63 = .ok (.goto 7, 3) := by decide +kernel
theorem dX6_joined_66 : decode cX6_joined 66 = .ok (.iload_n 1, 1) := by decide +kernel
theorem dX6_joined_67 : decode cX6_joined 67 = .ok (.iload_n 2, 1) := by decide +kernel
theorem dX6_joined_68 : decode cX6_joined 68 = .ok (.idiv, 1) := by decide +kernel
theorem dX6_joined_69 : decode cX6_joined 69 = .ok (.i2l, 1) := by decide +kernel
theorem dX6_joined_70 : decode cX6_joined 70 = .ok (.lreturn, 1) := by decide +kernel
theorem dX6_joined_71 : decode cX6_joined 71 = .ok (.iload_n 1, 1) := by decide +kernel
theorem dX6_joined_72 : decode cX6_joined 72 = .ok (.iload_n 2, 1) := by decide +kernel
theorem dX6_joined_73 : decode cX6_joined 73 = .ok (.invokestatic 86, 3) := by decide +kernel
theorem dX6_joined_76 : decode cX6_joined 76 = .ok (.i2l, 1) := by decide +kernel
theorem dX6_joined_77 : decode cX6_joined 77 = .ok (.lreturn, 1) := by decide +kernel
theorem dX6_joined_78 : decode cX6_joined 78 = .ok (.iload_n 1, 1) := by decide +kernel
theorem dX6_joined_79 : decode cX6_joined 79 = .ok (.iload_n 2, 1) := by decide +kernel
theorem dX6_joined_80 : decode cX6_joined 80 = .ok (.invokestatic 91, 3) := by decide +kernel
theorem dX6_joined_83 : decode cX6_joined 83 = .ok (.i2l, 1) := by decide +kernel
theorem dX6_joined_84 : decode cX6_joined 84 = .ok (.lreturn, 1) := by decide +kernel
theorem dX6_joined_85 : decode cX6_joined 85 = .ok (.iload_n 0, 1) := by decide +kernel
theorem dX6_joined_86 : decode cX6_joined 86 = .ok (.iload_n 1, 1) := by decide +kernel
theorem dX6_joined_87 : decode cX6_joined 87 = .ok (.iload_n 2, 1) := by decide +kernel
theorem dX6_joined_88 : decode cX6_joined 88 = .ok (.invokestatic 94, 3) := by decide +kernel
theorem dX6_joined_91 : decode cX6_joined 91 = .ok (.ifCond .eq 7, 3) := by decide +kernel
theorem dX6_joined_94 : decode cX6_joined 94 = .ok (.lconst 1, 1) := by decide +kernel
theorem dX6_joined_95 : decode cX6_joined 95 = .ok (.goto 4, 3) := by decide +kernel
theorem dX6_joined_98 : decode cX6_joined 98 = .ok (.lconst 0, 1) := by decide +kernel
theorem dX6_joined_99 : decode cX6_joined 99 = .ok (.lreturn, 1) := by decide +kernel
theorem dX6_isSo_0 : decode cX6_isSo 0 = .ok (.iload_n 0, 1) := by decide +kernel
theorem dX6_isSo_1 : decode cX6_isSo 1 = .ok (.tableswitch 123 13 19 #[43, 54, 65, 76, 87, 98, 109], 43) := by decide +kernel
theorem dX6_isSo_44 : decode cX6_isSo 44 = .ok (.iload_n 1, 1) := by decide +kernel
theorem dX6_isSo_45 : decode cX6_isSo 45 = .ok (.iload_n 2, 1) := by decide +kernel
theorem dX6_isSo_46 : decode cX6_isSo 46 = .ok (.if_icmp .ge 7, 3) := by decide +kernel
theorem dX6_isSo_49 : decode cX6_isSo 49 = .ok (.iconst 1, 1) := by decide +kernel
theorem dX6_isSo_50 : decode cX6_isSo 50 = .ok (.goto 4, 3) := by decide +kernel
theorem dX6_isSo_53 : decode cX6_isSo 53 = .ok (.iconst 0, 1) := by decide +kernel
theorem dX6_isSo_54 : decode cX6_isSo 54 = .ok (.ireturn, 1) := by decide +kernel
theorem dX6_isSo_55 : decode cX6_isSo 55 = .ok (.iload_n 1, 1) := by decide +kernel
theorem dX6_isSo_56 : decode cX6_isSo 56 = .ok (.iload_n 2, 1) := by decide +kernel
theorem dX6_isSo_57 : decode cX6_isSo 57 = .ok (.if_icmp .gt 7, 3) := by decide +kernel
theorem dX6_isSo_60 : decode cX6_isSo 60 = .ok (.iconst 1, 1) := by decide +kernel
theorem dX6_isSo_61 : decode cX6_isSo 61 = .ok (.goto 4, 3) := by decide +kernel
theorem dX6_isSo_64 : decode cX6_isSo 64 = .ok (.iconst 0, 1) := by decide +kernel
theorem dX6_isSo_65 : decode cX6_isSo 65 = .ok (.ireturn, 1) := by decide +kernel
theorem dX6_isSo_66 : decode cX6_isSo 66 = .ok (.iload_n 1, 1) := by decide +kernel
theorem dX6_isSo_67 : decode cX6_isSo 67 = .ok (.iload_n 2, 1) := by decide +kernel
theorem dX6_isSo_68 : decode cX6_isSo 68 = .ok (.if_icmp .le 7, 3) := by decide +kernel
theorem dX6_isSo_71 : decode cX6_isSo 71 = .ok (.iconst 1, 1) := by decide +kernel
theorem dX6_isSo_72 : decode cX6_isSo 72 = .ok (.goto 4, 3) := by decide +kernel
theorem dX6_isSo_75 : decode cX6_isSo 75 = .ok (.iconst 0, 1) := by decide +kernel
theorem dX6_isSo_76 : decode cX6_isSo 76 = .ok (.ireturn, 1) := by decide +kernel
theorem dX6_isSo_77 : decode cX6_isSo 77 = .ok (.iload_n 1, 1) := by decide +kernel
theorem dX6_isSo_78 : decode cX6_isSo 78 = .ok (.iload_n 2, 1) := by decide +kernel
theorem dX6_isSo_79 : decode cX6_isSo 79 = .ok (.if_icmp .lt 7, 3) := by decide +kernel
theorem dX6_isSo_82 : decode cX6_isSo 82 = .ok (.iconst 1, 1) := by decide +kernel
theorem dX6_isSo_83 : decode cX6_isSo 83 = .ok (.goto 4, 3) := by decide +kernel
theorem dX6_isSo_86 : decode cX6_isSo 86 = .ok (.iconst 0, 1) := by decide +kernel
theorem dX6_isSo_87 : decode cX6_isSo 87 = .ok (.ireturn, 1) := by decide +kernel
theorem dX6_isSo_88 : decode cX6_isSo 88 = .ok (.iload_n 1, 1) := by decide +kernel
theorem dX6_isSo_89 : decode cX6_isSo 89 = .ok (.iload_n 2, 1) := by decide +kernel
theorem dX6_isSo_90 : decode cX6_isSo 90 = .ok (.if_icmp .ne 7, 3) := by decide +kernel
theorem dX6_isSo_93 : decode cX6_isSo 93 = .ok (.iconst 1, 1) := by decide +kernel
theorem dX6_isSo_94 : decode cX6_isSo 94 = .ok (.goto 4, 3) := by decide +kernel
theorem dX6_isSo_97 : decode cX6_isSo 97 = .ok (.iconst 0, 1) := by decide +kernel
theorem dX6_isSo_98 : decode cX6_isSo 98 = .ok (.ireturn, 1) := by decide +kernel
theorem dX6_isSo_99 : decode cX6_isSo 99 = .ok (.iload_n 1, 1) := by decide +kernel
theorem dX6_isSo_100 : decode cX6_isSo 100 = .ok (.iload_n 2, 1) := by decide +kernel
theorem dX6_isSo_101 : decode cX6_isSo 101 = .ok (.if_icmp .eq 7, 3) := by decide +kernel
theorem dX6_isSo_104 : decode cX6_isSo 104 = .ok (.iconst 1, 1) := by decide +kernel
theorem dX6_isSo_105 : decode cX6_isSo 105 = .ok (.goto 4, 3) := by decide +kernel
theorem dX6_isSo_108 : decode cX6_isSo 108 = .ok (.iconst 0, 1) := by decide +kernel
theorem dX6_isSo_109 : decode cX6_isSo 109 = .ok (.ireturn, 1) := by decide +kernel
theorem dX6_isSo_110 : decode cX6_isSo 110 = .ok (.iload_n 1, 1) := by decide +kernel
theorem dX6_isSo_111 : decode cX6_isSo 111 = .ok (.ifCond .eq 11, 3) := by decide +kernel
theorem dX6_isSo_114 : decode cX6_isSo 114 = .ok (.iload_n 2, 1) := by decide +kernel
theorem dX6_isSo_115 : decode cX6_isSo 115 = .ok (.ifCond .eq 7, 3) := by decide +kernel
theorem dX6_isSo_118 : decode cX6_isSo 118 = .ok (.iconst 1, 1) := by decide +kernel
theorem dX6_isSo_119 : decode cX6_isSo 119 = .ok (.goto 4, 3) := by decide +kernel
theorem dX6_isSo_122 : decode cX6_isSo 122 = .ok (.iconst 0, 1) := by decide +kernel
theorem dX6_isSo_123 : decode cX6_isSo 123 = .ok (.ireturn, 1) := by decide +kernel
theorem dX6_isSo_124 : decode cX6_isSo 124 = .ok (.iload_n 1, 1) := by decide +kernel
theorem dX6_isSo_125 : decode cX6_isSo 125 = .ok (.ifCond .ne 7, 3) := by decide +kernel
theorem dX6_isSo_128 : decode cX6_isSo 128 = .ok (.iload_n 2, 1) := by decide +kernel
theorem dX6_isSo_129 : decode cX6_isSo 129 = .ok (.ifCond .eq 7, 3) := by decide +kernel
theorem dX6_isSo_132 : decode cX6_isSo 132 = .ok (.iconst 1, 1) := by decide +kernel
theorem dX6_isSo_133 : decode cX6_isSo 133 = .ok (.goto 4, 3) := by decide +kernel
theorem dX6_isSo_136 : decode cX6_isSo 136 = .ok (.iconst 0, 1) := by decide +kernel
theorem dX6_isSo_137 : decode cX6_isSo 137 = .ok (.ireturn, 1) := by decide +kernel
set_option maxRecDepth 20000 in
theorem ggX6_finish_X11_isWithin : GoodIn wsX6_finish wsX11_isWithin := goodIn_r _ [14] (by decide +kernel) (by decide +kernel)
set_option maxRecDepth 20000 in
theorem gX6_finish_X11_isWithin_n69 : GoodIn wsX6_finish (wsX11_isWithin) := ggX6_finish_X11_isWithin
theorem dX6_finish_0 : decode cX6_finish 0 = .ok (.iload_n 1, 1) := by decide +kernel
theorem dX6_finish_1 : decode cX6_finish 1 = .ok (.tableswitch 82 21 23 #[27, 47, 65], 27) := by decide +kernel
theorem dX6_finish_28 : decode cX6_finish 28 = .ok (.iload_n 2, 1) := by decide +kernel
theorem dX6_finish_29 : decode cX6_finish 29 = .ok (.iconst 0, 1) := by decide +kernel
theorem dX6_finish_30 : decode cX6_finish 30 = .ok (.bipush 7, 2) := by decide +kernel
theorem dX6_finish_32 : decode cX6_finish 32 = .ok (.invokestatic 69, 3) := by decide +kernel
theorem dX6_finish_35 : decode cX6_finish 35 = .ok (.ifCond .eq 61, 3) := by decide +kernel
theorem dX6_finish_38 : decode cX6_finish 38 = .ok (.aload_n 0, 1) := by decide +kernel
theorem dX6_finish_39 : decode cX6_finish 39 = .ok (.getfield 19, 3) := by decide +kernel
theorem dX6_finish_42 : decode cX6_finish 42 = .ok (.iload_n 2, 1) := by decide +kernel
theorem dX6_finish_43 : decode cX6_finish 43 = .ok (.iload_n 3, 1) := by decide +kernel
theorem dX6_finish_44 : decode cX6_finish 44 = .ok (.iastore, 1) := by decide +kernel
theorem dX6_finish_45 : decode cX6_finish 45 = .ok (.goto 51, 3) := by decide +kernel
theorem dX6_finish_48 : decode cX6_finish 48 = .ok (.aload_n 0, 1) := by decide +kernel
theorem dX6_finish_49 : decode cX6_finish 49 = .ok (.bipush (-8), 2) := by decide +kernel
theorem dX6_finish_51 : decode cX6_finish 51 = .ok (.bipush 8, 2) := by decide +kernel
theorem dX6_finish_53 : decode cX6_finish 53 = .ok (.iload_n 3, 1) := by decide +kernel
theorem dX6_finish_54 : decode cX6_finish 54 = .ok (.invokestatic 86, 3) := by decide +kernel
theorem dX6_finish_57 : decode cX6_finish 57 = .ok (.invokestatic 91, 3) := by decide +kernel
theorem dX6_finish_60 : decode cX6_finish 60 = .ok (.putfield 33, 3) := by decide +kernel
theorem dX6_finish_63 : decode cX6_finish 63 = .ok (.goto 33, 3) := by decide +kernel
theorem dX6_finish_66 : decode cX6_finish 66 = .ok (.aload_n 0, 1) := by decide +kernel
theorem dX6_finish_67 : decode cX6_finish 67 = .ok (.iconst 0, 1) := by decide +kernel
theorem dX6_finish_68 : decode cX6_finish 68 = .ok (.bipush 16, 2) := by decide +kernel
theorem dX6_finish_70 : decode cX6_finish 70 = .ok (.iload_n 3, 1) := by decide +kernel
theorem dX6_finish_71 : decode cX6_finish 71 = .ok (.invokestatic 86, 3) := by decide +kernel
theorem dX6_finish_74 : decode cX6_finish 74 = .ok (.invokestatic 91, 3) := by decide +kernel
theorem dX6_finish_77 : decode cX6_finish 77 = .ok (.putfield 36, 3) := by decide +kernel
theorem dX6_finish_80 : decode cX6_finish 80 = .ok (.goto 16, 3) := by decide +kernel
theorem dX6_finish_83 : decode cX6_finish 83 = .ok (.aload_n 0, 1) := by decide +kernel
theorem dX6_finish_84 : decode cX6_finish 84 = .ok (.iload_n 3, 1) := by decide +kernel
theorem dX6_finish_85 : decode cX6_finish 85 = .ok (.ifCond .eq 7, 3) := by decide +kernel
theorem dX6_finish_88 : decode cX6_finish 88 = .ok (.iconst 1, 1) := by decide +kernel
theorem dX6_finish_89 : decode cX6_finish 89 = .ok (.goto 4, 3) := by decide +kernel
theorem dX6_finish_92 : decode cX6_finish 92 = .ok (.iconst 0, 1) := by decide +kernel
theorem dX6_finish_93 : decode cX6_finish 93 = .ok (.putfield 39, 3) := by decide +kernel
theorem dX6_finish_96 : decode cX6_finish 96 = .ok (.return_, 1) := by decide +kernel
theorem dX7_init_0 : decode cX7_init 0 = .ok (.aload_n 0, 1) := by decide +kernel
theorem dX7_init_1 : decode cX7_init 1 = .ok (.invokespecial 5, 3) := by decide +kernel
theorem dX7_init_4 : decode cX7_init 4 = .ok (.aload_n 0, 1) := by decide +kernel
theorem dX7_init_5 : decode cX7_init 5 = .ok (.aload_n 1, 1) := by decide +kernel
theorem dX7_init_6 : decode cX7_init 6 = .ok (.putfield 11, 3) := by decide +kernel
theorem dX7_init_9 : decode cX7_init 9 = .ok (.aload_n 0, 1) := by decide +kernel
theorem dX7_init_10 : decode cX7_init 10 = .ok (.aload_n 1, 1) := by decide +kernel
theorem dX7_init_11 : decode cX7_init 11 = .ok (.getfield 15, 3) := by decide +kernel
theorem dX7_init_14 : decode cX7_init 14 = .ok (.arraylength, 1) := by decide +kernel
theorem dX7_init_15 : decode cX7_init 15 = .ok (.newarray .int, 2) := by decide +kernel
theorem dX7_init_17 : decode cX7_init 17 = .ok (.putfield 21, 3) := by decide +kernel
theorem dX7_init_20 : decode cX7_init 20 = .ok (.aload_n 0, 1) := by decide +kernel
theorem dX7_init_21 : decode cX7_init 21 = .ok (.bipush 64, 2) := by decide +kernel
theorem dX7_init_23 : decode cX7_init 23 = .ok (.newarray .int, 2) := by decide +kernel
theorem dX7_init_25 : decode cX7_init 25 = .ok (.putfield 24, 3) := by decide +kernel
theorem dX7_init_28 : decode cX7_init 28 = .ok (.return_, 1) := by decide +kernel
set_option maxRecDepth 20000 in
theorem ggX7_look_X10_bodyCell : GoodIn wsX7_look wsX10_bodyCell := goodIn_r _ [17, 18, 19, 20, 21, 22, 23, 33, 34, 35, 36, 37, 38, 39, 40, 41] (by decide +kernel) (by decide +kernel)
set_option maxRecDepth 20000 in
theorem gX7_look_X10_bodyCell : GoodIn wsX7_look (wsV RX7 43 RX10 yX10_bodyCell wsX10_bodyCell) := goodIn_app (goodIn_of _ (by decide +kernel)) ggX7_look_X10_bodyCell
set_option maxRecDepth 20000 in
theorem ggX7_look_J7_fill_53178 : GoodIn wsX7_look wsJ7_fill_53178 := goodIn_r _ [27] (by decide +kernel) (by decide +kernel)
set_option maxRecDepth 20000 in
theorem gX7_look_J7_fill_53178 : GoodIn wsX7_look (va_wsS RX7 50 yJ7_fill_53178 wsJ7_fill_53178) := goodIn_app (goodIn_of _ (by decide +kernel)) ggX7_look_J7_fill_53178
theorem dX7_look_0 : decode cX7_look 0 = .ok (.aload_n 0, 1) := by decide +kernel
theorem dX7_look_1 : decode cX7_look 1 = .ok (.iload_n 1, 1) := by decide +kernel
theorem dX7_look_2 : decode cX7_look 2 = .ok (.putfield 27, 3) := by decide +kernel
theorem dX7_look_5 : decode cX7_look 5 = .ok (.aload_n 0, 1) := by decide +kernel
theorem dX7_look_6 : decode cX7_look 6 = .ok (.iload_n 2, 1) := by decide +kernel
theorem dX7_look_7 : decode cX7_look 7 = .ok (.putfield 31, 3) := by decide +kernel
theorem dX7_look_10 : decode cX7_look 10 = .ok (.aload_n 0, 1) := by decide +kernel
theorem dX7_look_11 : decode cX7_look 11 = .ok (.getfield 11, 3) := by decide +kernel
theorem dX7_look_14 : decode cX7_look 14 = .ok (.getfield 15, 3) := by decide +kernel
theorem dX7_look_17 : decode cX7_look 17 = .ok (.iconst 0, 1) := by decide +kernel
theorem dX7_look_18 : decode cX7_look 18 = .ok (.aload_n 0, 1) := by decide +kernel
theorem dX7_look_19 : decode cX7_look 19 = .ok (.getfield 21, 3) := by decide +kernel
theorem dX7_look_22 : decode cX7_look 22 = .ok (.iconst 0, 1) := by decide +kernel
theorem dX7_look_23 : decode cX7_look 23 = .ok (.aload_n 0, 1) := by decide +kernel
theorem dX7_look_24 : decode cX7_look 24 = .ok (.getfield 21, 3) := by decide +kernel
theorem dX7_look_27 : decode cX7_look 27 = .ok (.arraylength, 1) := by decide +kernel
theorem dX7_look_28 : decode cX7_look 28 = .ok (.invokestatic 34, 3) := by decide +kernel
theorem dX7_look_31 : decode cX7_look 31 = .ok (.aload_n 0, 1) := by decide +kernel
theorem dX7_look_32 : decode cX7_look 32 = .ok (.getfield 11, 3) := by decide +kernel
theorem dX7_look_35 : decode cX7_look 35 = .ok (.getfield 40, 3) := by decide +kernel
theorem dX7_look_38 : decode cX7_look 38 = .ok (.iconst 1, 1) := by decide +kernel
theorem dX7_look_39 : decode cX7_look 39 = .ok (.isub, 1) := by decide +kernel
theorem dX7_look_40 : decode cX7_look 40 = .ok (.istore 4, 2) := by decide +kernel
theorem dX7_look_42 : decode cX7_look 42 = .ok (.iload 4, 2) := by decide +kernel
theorem dX7_look_44 : decode cX7_look 44 = .ok (.ifCond .lt 53, 3) := by decide +kernel
theorem dX7_look_47 : decode cX7_look 47 = .ok (.aload_n 0, 1) := by decide +kernel
theorem dX7_look_48 : decode cX7_look 48 = .ok (.getfield 11, 3) := by decide +kernel
theorem dX7_look_51 : decode cX7_look 51 = .ok (.iload 4, 2) := by decide +kernel
theorem dX7_look_53 : decode cX7_look 53 = .ok (.iload_n 3, 1) := by decide +kernel
theorem dX7_look_54 : decode cX7_look 54 = .ok (.invokevirtual 43, 3) := by decide +kernel
theorem dX7_look_57 : decode cX7_look 57 = .ok (.istore 5, 2) := by decide +kernel
theorem dX7_look_59 : decode cX7_look 59 = .ok (.iload 5, 2) := by decide +kernel
theorem dX7_look_61 : decode cX7_look 61 = .ok (.ifCond .lt 30, 3) := by decide +kernel
theorem dX7_look_64 : decode cX7_look 64 = .ok (.iload 5, 2) := by decide +kernel
theorem dX7_look_66 : decode cX7_look 66 = .ok (.aload_n 0, 1) := by decide +kernel
theorem dX7_look_67 : decode cX7_look 67 = .ok (.getfield 21, 3) := by decide +kernel
theorem dX7_look_70 : decode cX7_look 70 = .ok (.arraylength, 1) := by decide +kernel
theorem dX7_look_71 : decode cX7_look 71 = .ok (.if_icmp .ge 20, 3) := by decide +kernel
theorem dX7_look_74 : decode cX7_look 74 = .ok (.aload_n 0, 1) := by decide +kernel
theorem dX7_look_75 : decode cX7_look 75 = .ok (.getfield 21, 3) := by decide +kernel
theorem dX7_look_78 : decode cX7_look 78 = .ok (.iload 5, 2) := by decide +kernel
theorem dX7_look_80 : decode cX7_look 80 = .ok (.aload_n 0, 1) := by decide +kernel
theorem dX7_look_81 : decode cX7_look 81 = .ok (.getfield 11, 3) := by decide +kernel
theorem dX7_look_84 : decode cX7_look 84 = .ok (.getfield 47, 3) := by decide +kernel
theorem dX7_look_87 : decode cX7_look 87 = .ok (.iload 4, 2) := by decide +kernel
theorem dX7_look_89 : decode cX7_look 89 = .ok (.iaload, 1) := by decide +kernel
theorem dX7_look_90 : decode cX7_look 90 = .ok (.iastore, 1) := by decide +kernel
theorem dX7_look_91 : decode cX7_look 91 = .ok (.iinc 4 (-1), 3) := by decide +kernel
theorem dX7_look_94 : decode cX7_look 94 = .ok (.goto (-52), 3) := by decide +kernel
theorem dX7_look_97 : decode cX7_look 97 = .ok (.aload_n 0, 1) := by decide +kernel
theorem dX7_look_98 : decode cX7_look 98 = .ok (.getfield 24, 3) := by decide +kernel
theorem dX7_look_101 : decode cX7_look 101 = .ok (.iconst (-1), 1) := by decide +kernel
theorem dX7_look_102 : decode cX7_look 102 = .ok (.invokestatic 50, 3) := by decide +kernel
theorem dX7_look_105 : decode cX7_look 105 = .ok (.return_, 1) := by decide +kernel
theorem dX7_trace_0 : decode cX7_trace 0 = .ok (.iload_n 1, 1) := by decide +kernel
theorem dX7_trace_1 : decode cX7_trace 1 = .ok (.ifCond .lt 9, 3) := by decide +kernel
theorem dX7_trace_4 : decode cX7_trace 4 = .ok (.iload_n 1, 1) := by decide +kernel
theorem dX7_trace_5 : decode cX7_trace 5 = .ok (.bipush 63, 2) := by decide +kernel
theorem dX7_trace_7 : decode cX7_trace 7 = .ok (.if_icmp .le 7, 3) := by decide +kernel
theorem dX7_trace_10 : decode cX7_trace 10 = .ok (.sipush 10496, 3) := by decide +kernel
theorem dX7_trace_13 : decode cX7_trace 13 = .ok (.ireturn, 1) := by decide +kernel
theorem dX7_trace_14 : decode cX7_trace 14 = .ok (.aload_n 0, 1) := by decide +kernel
theorem dX7_trace_15 : decode cX7_trace 15 = .ok (.getfield 11, 3) := by decide +kernel
theorem dX7_trace_18 : decode cX7_trace 18 = .ok (.getfield 56, 3) := by decide +kernel
theorem dX7_trace_21 : decode cX7_trace 21 = .ok (.bipush 16, 2) := by decide +kernel
theorem dX7_trace_23 : decode cX7_trace 23 = .ok (.imul, 1) := by decide +kernel
theorem dX7_trace_24 : decode cX7_trace 24 = .ok (.istore_n 2, 1) := by decide +kernel
theorem dX7_trace_25 : decode cX7_trace 25 = .ok (.aload_n 0, 1) := by decide +kernel
theorem dX7_trace_26 : decode cX7_trace 26 = .ok (.getfield 11, 3) := by decide +kernel
theorem dX7_trace_29 : decode cX7_trace 29 = .ok (.getfield 59, 3) := by decide +kernel
theorem dX7_trace_32 : decode cX7_trace 32 = .ok (.bipush 16, 2) := by decide +kernel
theorem dX7_trace_34 : decode cX7_trace 34 = .ok (.imul, 1) := by decide +kernel
theorem dX7_trace_35 : decode cX7_trace 35 = .ok (.istore_n 3, 1) := by decide +kernel
theorem dX7_trace_36 : decode cX7_trace 36 = .ok (.aload_n 0, 1) := by decide +kernel
theorem dX7_trace_37 : decode cX7_trace 37 = .ok (.getfield 27, 3) := by decide +kernel
theorem dX7_trace_40 : decode cX7_trace 40 = .ok (.istore 4, 2) := by decide +kernel
theorem dX7_trace_42 : decode cX7_trace 42 = .ok (.aload_n 0, 1) := by decide +kernel
theorem dX7_trace_43 : decode cX7_trace 43 = .ok (.getfield 31, 3) := by decide +kernel
theorem dX7_trace_46 : decode cX7_trace 46 = .ok (.istore 5, 2) := by decide +kernel
theorem dX7_trace_48 : decode cX7_trace 48 = .ok (.iconst 1, 1) := by decide +kernel
theorem dX7_trace_49 : decode cX7_trace 49 = .ok (.istore 6, 2) := by decide +kernel
theorem dX7_trace_51 : decode cX7_trace 51 = .ok (.iload 6, 2) := by decide +kernel
theorem dX7_trace_53 : decode cX7_trace 53 = .ok (.bipush 40, 2) := by decide +kernel
theorem dX7_trace_55 : decode cX7_trace 55 = .ok (.if_icmp .gt 95, 3) := by decide +kernel
theorem dX7_trace_58 : decode cX7_trace 58 = .ok (.iload 4, 2) := by decide +kernel
theorem dX7_trace_60 : decode cX7_trace 60 = .ok (.getstatic 62, 3) := by decide +kernel
theorem dX7_trace_63 : decode cX7_trace 63 = .ok (.iload_n 1, 1) := by decide +kernel
theorem dX7_trace_64 : decode cX7_trace 64 = .ok (.iaload, 1) := by decide +kernel
theorem dX7_trace_65 : decode cX7_trace 65 = .ok (.iadd, 1) := by decide +kernel
theorem dX7_trace_66 : decode cX7_trace 66 = .ok (.istore 4, 2) := by decide +kernel
theorem dX7_trace_68 : decode cX7_trace 68 = .ok (.iload 5, 2) := by decide +kernel
theorem dX7_trace_70 : decode cX7_trace 70 = .ok (.getstatic 65, 3) := by decide +kernel
theorem dX7_trace_73 : decode cX7_trace 73 = .ok (.iload_n 1, 1) := by decide +kernel
theorem dX7_trace_74 : decode cX7_trace 74 = .ok (.iaload, 1) := by decide +kernel
theorem dX7_trace_75 : decode cX7_trace 75 = .ok (.iadd, 1) := by decide +kernel
theorem dX7_trace_76 : decode cX7_trace 76 = .ok (.istore 5, 2) := by decide +kernel
theorem dX7_trace_78 : decode cX7_trace 78 = .ok (.iload 4, 2) := by decide +kernel
theorem dX7_trace_80 : decode cX7_trace 80 = .ok (.ifCond .lt 20, 3) := by decide +kernel
theorem dX7_trace_83 : decode cX7_trace 83 = .ok (.iload 4, 2) := by decide +kernel
theorem dX7_trace_85 : decode cX7_trace 85 = .ok (.iload_n 2, 1) := by decide +kernel
theorem dX7_trace_86 : decode cX7_trace 86 = .ok (.if_icmp .ge 14, 3) := by decide +kernel
theorem dX7_trace_89 : decode cX7_trace 89 = .ok (.iload 5, 2) := by decide +kernel
theorem dX7_trace_91 : decode cX7_trace 91 = .ok (.ifCond .lt 9, 3) := by decide +kernel
theorem dX7_trace_94 : decode cX7_trace 94 = .ok (.iload 5, 2) := by decide +kernel
theorem dX7_trace_96 : decode cX7_trace 96 = .ok (.iload_n 3, 1) := by decide +kernel
theorem dX7_trace_97 : decode cX7_trace 97 = .ok (.if_icmp .lt 7, 3) := by decide +kernel
theorem dX7_trace_100 : decode cX7_trace 100 = .ok (.sipush 10496, 3) := by decide +kernel
theorem dX7_trace_103 : decode cX7_trace 103 = .ok (.ireturn, 1) := by decide +kernel
theorem dX7_trace_104 : decode cX7_trace 104 = .ok (.aload_n 0, 1) := by decide +kernel
theorem dX7_trace_105 : decode cX7_trace 105 = .ok (.getfield 21, 3) := by decide +kernel
theorem dX7_trace_108 : decode cX7_trace 108 = .ok (.iload 5, 2) := by decide +kernel
theorem dX7_trace_110 : decode cX7_trace 110 = .ok (.bipush 16, 2) := by decide +kernel
theorem dX7_trace_112 : decode cX7_trace 112 = .ok (.idiv, 1) := by decide +kernel
theorem dX7_trace_113 : decode cX7_trace 113 = .ok (.aload_n 0, 1) := by decide +kernel
theorem dX7_trace_114 : decode cX7_trace 114 = .ok (.getfield 11, 3) := by decide +kernel
theorem dX7_trace_117 : decode cX7_trace 117 = .ok (.getfield 56, 3) := by decide +kernel
theorem dX7_trace_120 : decode cX7_trace 120 = .ok (.imul, 1) := by decide +kernel
theorem dX7_trace_121 : decode cX7_trace 121 = .ok (.iload 4, 2) := by decide +kernel
theorem dX7_trace_123 : decode cX7_trace 123 = .ok (.bipush 16, 2) := by decide +kernel
theorem dX7_trace_125 : decode cX7_trace 125 = .ok (.idiv, 1) := by decide +kernel
theorem dX7_trace_126 : decode cX7_trace 126 = .ok (.iadd, 1) := by decide +kernel
theorem dX7_trace_127 : decode cX7_trace 127 = .ok (.iaload, 1) := by decide +kernel
theorem dX7_trace_128 : decode cX7_trace 128 = .ok (.istore 7, 2) := by decide +kernel
theorem dX7_trace_130 : decode cX7_trace 130 = .ok (.iload 7, 2) := by decide +kernel
theorem dX7_trace_132 : decode cX7_trace 132 = .ok (.ifCond .eq 12, 3) := by decide +kernel
theorem dX7_trace_135 : decode cX7_trace 135 = .ok (.iload 6, 2) := by decide +kernel
theorem dX7_trace_137 : decode cX7_trace 137 = .ok (.bipush 8, 2) := by decide +kernel
theorem dX7_trace_139 : decode cX7_trace 139 = .ok (.ishl, 1) := by decide +kernel
theorem dX7_trace_140 : decode cX7_trace 140 = .ok (.iload 7, 2) := by decide +kernel
theorem dX7_trace_142 : decode cX7_trace 142 = .ok (.iadd, 1) := by decide +kernel
theorem dX7_trace_143 : decode cX7_trace 143 = .ok (.ireturn, 1) := by decide +kernel
theorem dX7_trace_144 : decode cX7_trace 144 = .ok (.iinc 6 1, 3) := by decide +kernel
theorem dX7_trace_147 : decode cX7_trace 147 = .ok (.goto (-96), 3) := by decide +kernel
theorem dX7_trace_150 : decode cX7_trace 150 = .ok (.sipush 10496, 3) := by decide +kernel
theorem dX7_trace_153 : decode cX7_trace 153 = .ok (.ireturn, 1) := by decide +kernel
set_option maxRecDepth 20000 in
theorem ggX7_weigh_X7_trace : GoodIn wsX7_weigh wsX7_trace := goodIn_r _ [10, 11, 12, 13, 14, 15, 16, 21, 22, 23, 24, 25, 26, 27, 28, 29, 30, 31, 32, 33, 34] (by decide +kernel) (by decide +kernel)
set_option maxRecDepth 20000 in
theorem gX7_weigh_X7_trace : GoodIn wsX7_weigh (wsV RX7 68 RX7 yX7_trace wsX7_trace) := goodIn_app (goodIn_of _ (by decide +kernel)) ggX7_weigh_X7_trace
set_option maxRecDepth 20000 in
theorem ggX7_weigh_X1_allWeights : GoodIn wsX7_weigh wsX1_allWeights := goodIn_r _ [20] (by decide +kernel) (by decide +kernel)
set_option maxRecDepth 20000 in
theorem gX7_weigh_X1_allWeights : GoodIn wsX7_weigh (va_wsS RX7 77 yX1_allWeights wsX1_allWeights) := goodIn_app (goodIn_of _ (by decide +kernel)) ggX7_weigh_X1_allWeights
theorem dX7_weigh_0 : decode cX7_weigh 0 = .ok (.iconst 0, 1) := by decide +kernel
theorem dX7_weigh_1 : decode cX7_weigh 1 = .ok (.istore 4, 2) := by decide +kernel
theorem dX7_weigh_3 : decode cX7_weigh 3 = .ok (.iload_n 2, 1) := by decide +kernel
theorem dX7_weigh_4 : decode cX7_weigh 4 = .ok (.ineg, 1) := by decide +kernel
theorem dX7_weigh_5 : decode cX7_weigh 5 = .ok (.istore 5, 2) := by decide +kernel
theorem dX7_weigh_7 : decode cX7_weigh 7 = .ok (.iload 5, 2) := by decide +kernel
theorem dX7_weigh_9 : decode cX7_weigh 9 = .ok (.iload_n 2, 1) := by decide +kernel
theorem dX7_weigh_10 : decode cX7_weigh 10 = .ok (.if_icmp .gt 70, 3) := by decide +kernel
theorem dX7_weigh_13 : decode cX7_weigh 13 = .ok (.iload_n 3, 1) := by decide +kernel
theorem dX7_weigh_14 : decode cX7_weigh 14 = .ok (.iload_n 1, 1) := by decide +kernel
theorem dX7_weigh_15 : decode cX7_weigh 15 = .ok (.iadd, 1) := by decide +kernel
theorem dX7_weigh_16 : decode cX7_weigh 16 = .ok (.iload 5, 2) := by decide +kernel
theorem dX7_weigh_18 : decode cX7_weigh 18 = .ok (.iadd, 1) := by decide +kernel
theorem dX7_weigh_19 : decode cX7_weigh 19 = .ok (.bipush 63, 2) := by decide +kernel
theorem dX7_weigh_21 : decode cX7_weigh 21 = .ok (.iand, 1) := by decide +kernel
theorem dX7_weigh_22 : decode cX7_weigh 22 = .ok (.istore 6, 2) := by decide +kernel
theorem dX7_weigh_24 : decode cX7_weigh 24 = .ok (.aload_n 0, 1) := by decide +kernel
theorem dX7_weigh_25 : decode cX7_weigh 25 = .ok (.getfield 24, 3) := by decide +kernel
theorem dX7_weigh_28 : decode cX7_weigh 28 = .ok (.iload 6, 2) := by decide +kernel
theorem dX7_weigh_30 : decode cX7_weigh 30 = .ok (.iaload, 1) := by decide +kernel
theorem dX7_weigh_31 : decode cX7_weigh 31 = .ok (.iconst (-1), 1) := by decide +kernel
theorem dX7_weigh_32 : decode cX7_weigh 32 = .ok (.if_icmp .ne 20, 3) := by decide +kernel
theorem dX7_weigh_35 : decode cX7_weigh 35 = .ok (.aload_n 0, 1) := by decide +kernel
theorem dX7_weigh_36 : decode cX7_weigh 36 = .ok (.getfield 24, 3) := by decide +kernel
theorem dX7_weigh_39 : decode cX7_weigh 39 = .ok (.iload 6, 2) := by decide +kernel
theorem dX7_weigh_41 : decode cX7_weigh 41 = .ok (.aload_n 0, 1) := by decide +kernel
theorem dX7_weigh_42 : decode cX7_weigh 42 = .ok (.iload 6, 2) := by decide +kernel
theorem dX7_weigh_44 : decode cX7_weigh 44 = .ok (.invokevirtual 68, 3) := by decide +kernel
theorem dX7_weigh_47 : decode cX7_weigh 47 = .ok (.sipush 255, 3) := by decide +kernel
theorem dX7_weigh_50 : decode cX7_weigh 50 = .ok (.iand, 1) := by decide +kernel
theorem dX7_weigh_51 : decode cX7_weigh 51 = .ok (.iastore, 1) := by decide +kernel
theorem dX7_weigh_52 : decode cX7_weigh 52 = .ok (.iload 4, 2) := by decide +kernel
theorem dX7_weigh_54 : decode cX7_weigh 54 = .ok (.aload_n 0, 1) := by decide +kernel
theorem dX7_weigh_55 : decode cX7_weigh 55 = .ok (.getfield 24, 3) := by decide +kernel
theorem dX7_weigh_58 : decode cX7_weigh 58 = .ok (.iload 6, 2) := by decide +kernel
theorem dX7_weigh_60 : decode cX7_weigh 60 = .ok (.iaload, 1) := by decide +kernel
theorem dX7_weigh_61 : decode cX7_weigh 61 = .ok (.iload_n 2, 1) := by decide +kernel
theorem dX7_weigh_62 : decode cX7_weigh 62 = .ok (.iconst 1, 1) := by decide +kernel
theorem dX7_weigh_63 : decode cX7_weigh 63 = .ok (.iadd, 1) := by decide +kernel
theorem dX7_weigh_64 : decode cX7_weigh 64 = .ok (.iload 5, 2) := by decide +kernel
theorem dX7_weigh_66 : decode cX7_weigh 66 = .ok (.invokestatic 72, 3) := by decide +kernel
theorem dX7_weigh_69 : decode cX7_weigh 69 = .ok (.isub, 1) := by decide +kernel
theorem dX7_weigh_70 : decode cX7_weigh 70 = .ok (.imul, 1) := by decide +kernel
theorem dX7_weigh_71 : decode cX7_weigh 71 = .ok (.iadd, 1) := by decide +kernel
theorem dX7_weigh_72 : decode cX7_weigh 72 = .ok (.istore 4, 2) := by decide +kernel
theorem dX7_weigh_74 : decode cX7_weigh 74 = .ok (.iinc 5 1, 3) := by decide +kernel
theorem dX7_weigh_77 : decode cX7_weigh 77 = .ok (.goto (-70), 3) := by decide +kernel
theorem dX7_weigh_80 : decode cX7_weigh 80 = .ok (.iload_n 2, 1) := by decide +kernel
theorem dX7_weigh_81 : decode cX7_weigh 81 = .ok (.invokestatic 77, 3) := by decide +kernel
theorem dX7_weigh_84 : decode cX7_weigh 84 = .ok (.istore 5, 2) := by decide +kernel
theorem dX7_weigh_86 : decode cX7_weigh 86 = .ok (.iload 5, 2) := by decide +kernel
theorem dX7_weigh_88 : decode cX7_weigh 88 = .ok (.ifCond .le 11, 3) := by decide +kernel
theorem dX7_weigh_91 : decode cX7_weigh 91 = .ok (.iload 4, 2) := by decide +kernel
theorem dX7_weigh_93 : decode cX7_weigh 93 = .ok (.iload 5, 2) := by decide +kernel
theorem dX7_weigh_95 : decode cX7_weigh 95 = .ok (.idiv, 1) := by decide +kernel
theorem dX7_weigh_96 : decode cX7_weigh 96 = .ok (.goto 4, 3) := by decide +kernel
theorem dX7_weigh_99 : decode cX7_weigh 99 = .ok (.iconst 0, 1) := by decide +kernel
theorem dX7_weigh_100 : decode cX7_weigh 100 = .ok (.ireturn, 1) := by decide +kernel
set_option maxRecDepth 20000 in
theorem ggX8_init_X10_init : GoodIn wsX8_init wsX10_init := goodIn_r _ [25, 26, 2, 3, 27, 28, 29, 30, 31, 32, 33, 34, 35, 21, 36, 37, 38, 39, 40, 41, 63, 64, 65, 66, 67, 68, 69, 70, 71] (by decide +kernel) (by decide +kernel)
set_option maxRecDepth 20000 in
theorem gX8_init_X10_init : GoodIn wsX8_init (wsX10_init) := ggX8_init_X10_init
set_option maxRecDepth 20000 in
theorem ggX8_init_X1_init : GoodIn wsX8_init wsX1_init := goodIn_r _ [43, 44, 2, 3, 21, 45, 46, 47, 48, 49, 78, 79, 80, 81, 82, 83, 84] (by decide +kernel) (by decide +kernel)
set_option maxRecDepth 20000 in
theorem gX8_init_X1_init_n22 : GoodIn wsX8_init (wsX1_init) := ggX8_init_X1_init
set_option maxRecDepth 20000 in
theorem ggX8_init_X5_init : GoodIn wsX8_init wsX5_init := goodIn_r _ [51, 52, 2, 3, 21, 53, 54, 55, 56, 57, 85, 86, 87, 88, 89, 90] (by decide +kernel) (by decide +kernel)
set_option maxRecDepth 20000 in
theorem gX8_init_X5_init_n29 : GoodIn wsX8_init (wsX5_init) := ggX8_init_X5_init
set_option maxRecDepth 20000 in
theorem ggX8_init_X2_init : GoodIn wsX8_init wsX2_init := goodIn_r _ [59, 60, 2, 3, 21, 61, 62, 91, 92, 93, 94, 95, 96, 97, 98, 99, 100, 101, 102] (by decide +kernel) (by decide +kernel)
set_option maxRecDepth 20000 in
theorem gX8_init_X2_init_n36 : GoodIn wsX8_init (wsX2_init) := ggX8_init_X2_init
theorem dX8_init_0 : decode cX8_init 0 = .ok (.aload_n 0, 1) := by decide +kernel
theorem dX8_init_1 : decode cX8_init 1 = .ok (.invokespecial 3, 3) := by decide +kernel
theorem dX8_init_4 : decode cX8_init 4 = .ok (.aload_n 0, 1) := by decide +kernel
theorem dX8_init_5 : decode cX8_init 5 = .ok (.new 9, 3) := by decide +kernel
theorem dX8_init_8 : decode cX8_init 8 = .ok (.dup, 1) := by decide +kernel
theorem dX8_init_9 : decode cX8_init 9 = .ok (.iload_n 1, 1) := by decide +kernel
theorem dX8_init_10 : decode cX8_init 10 = .ok (.iload_n 2, 1) := by decide +kernel
theorem dX8_init_11 : decode cX8_init 11 = .ok (.invokespecial 11, 3) := by decide +kernel
theorem dX8_init_14 : decode cX8_init 14 = .ok (.putfield 14, 3) := by decide +kernel
theorem dX8_init_17 : decode cX8_init 17 = .ok (.aload_n 0, 1) := by decide +kernel
theorem dX8_init_18 : decode cX8_init 18 = .ok (.new 20, 3) := by decide +kernel
theorem dX8_init_21 : decode cX8_init 21 = .ok (.dup, 1) := by decide +kernel
theorem dX8_init_22 : decode cX8_init 22 = .ok (.invokespecial 22, 3) := by decide +kernel
theorem dX8_init_25 : decode cX8_init 25 = .ok (.putfield 23, 3) := by decide +kernel
theorem dX8_init_28 : decode cX8_init 28 = .ok (.aload_n 0, 1) := by decide +kernel
theorem dX8_init_29 : decode cX8_init 29 = .ok (.new 27, 3) := by decide +kernel
theorem dX8_init_32 : decode cX8_init 32 = .ok (.dup, 1) := by decide +kernel
theorem dX8_init_33 : decode cX8_init 33 = .ok (.invokespecial 29, 3) := by decide +kernel
theorem dX8_init_36 : decode cX8_init 36 = .ok (.putfield 30, 3) := by decide +kernel
theorem dX8_init_39 : decode cX8_init 39 = .ok (.aload_n 0, 1) := by decide +kernel
theorem dX8_init_40 : decode cX8_init 40 = .ok (.new 34, 3) := by decide +kernel
theorem dX8_init_43 : decode cX8_init 43 = .ok (.dup, 1) := by decide +kernel
theorem dX8_init_44 : decode cX8_init 44 = .ok (.invokespecial 36, 3) := by decide +kernel
theorem dX8_init_47 : decode cX8_init 47 = .ok (.putfield 37, 3) := by decide +kernel
theorem dX8_init_50 : decode cX8_init 50 = .ok (.aload_n 0, 1) := by decide +kernel
theorem dX8_init_51 : decode cX8_init 51 = .ok (.bipush 8, 2) := by decide +kernel
theorem dX8_init_53 : decode cX8_init 53 = .ok (.iconst 0, 1) := by decide +kernel
theorem dX8_init_54 : decode cX8_init 54 = .ok (.multianewarray 41 2, 4) := by decide +kernel
theorem dX8_init_58 : decode cX8_init 58 = .ok (.putfield 43, 3) := by decide +kernel
theorem dX8_init_61 : decode cX8_init 61 = .ok (.return_, 1) := by decide +kernel
set_option maxRecDepth 20000 in
theorem ggX8_isRule_X11_isWithin : GoodIn wsX8_isRule wsX11_isWithin := goodIn_r _ [4] (by decide +kernel) (by decide +kernel)
set_option maxRecDepth 20000 in
theorem gX8_isRule_X11_isWithin_n50 : GoodIn wsX8_isRule (wsX11_isWithin) := ggX8_isRule_X11_isWithin
theorem dX8_isRule_0 : decode cX8_isRule 0 = .ok (.iload_n 1, 1) := by decide +kernel
theorem dX8_isRule_1 : decode cX8_isRule 1 = .ok (.iconst 0, 1) := by decide +kernel
theorem dX8_isRule_2 : decode cX8_isRule 2 = .ok (.aload_n 0, 1) := by decide +kernel
theorem dX8_isRule_3 : decode cX8_isRule 3 = .ok (.getfield 46, 3) := by decide +kernel
theorem dX8_isRule_6 : decode cX8_isRule 6 = .ok (.iconst 1, 1) := by decide +kernel
theorem dX8_isRule_7 : decode cX8_isRule 7 = .ok (.isub, 1) := by decide +kernel
theorem dX8_isRule_8 : decode cX8_isRule 8 = .ok (.invokestatic 50, 3) := by decide +kernel
theorem dX8_isRule_11 : decode cX8_isRule 11 = .ok (.ireturn, 1) := by decide +kernel
set_option maxRecDepth 20000 in
theorem ggX8_copyFrom_X10_copyFrom : GoodIn wsX8_copyFrom wsX10_copyFrom := goodIn_r _ [11, 12, 13, 14, 15, 16, 17, 18, 19, 20, 21, 22, 23, 24, 25, 26, 27, 28, 29, 76, 77, 78, 79, 80, 81, 82, 83, 84] (by decide +kernel) (by decide +kernel)
set_option maxRecDepth 20000 in
theorem gX8_copyFrom_X10_copyFrom : GoodIn wsX8_copyFrom (wsV RX8 54 RX10 yX10_copyFrom wsX10_copyFrom) := goodIn_app (goodIn_of _ (by decide +kernel)) ggX8_copyFrom_X10_copyFrom
set_option maxRecDepth 20000 in
theorem ggX8_copyFrom_X1_copyFrom : GoodIn wsX8_copyFrom wsX1_copyFrom := goodIn_r _ [34, 35, 36, 37, 38, 39, 40, 41, 19, 20, 21, 22, 23, 24, 25, 26, 27, 28, 29, 85, 86, 87, 88, 89, 90, 91] (by decide +kernel) (by decide +kernel)
set_option maxRecDepth 20000 in
theorem gX8_copyFrom_X1_copyFrom : GoodIn wsX8_copyFrom (wsV RX8 58 RX1 yX1_copyFrom wsX1_copyFrom) := goodIn_app (goodIn_of _ (by decide +kernel)) ggX8_copyFrom_X1_copyFrom
set_option maxRecDepth 20000 in
theorem ggX8_copyFrom_X5_copyFrom : GoodIn wsX8_copyFrom wsX5_copyFrom := goodIn_r _ [46, 47, 48, 49, 50, 51, 52, 19, 20, 21, 22, 23, 24, 25, 26, 27, 28, 29, 92, 93, 94, 95, 96, 97] (by decide +kernel) (by decide +kernel)
set_option maxRecDepth 20000 in
theorem gX8_copyFrom_X5_copyFrom : GoodIn wsX8_copyFrom (wsV RX8 61 RX5 yX5_copyFrom wsX5_copyFrom) := goodIn_app (goodIn_of _ (by decide +kernel)) ggX8_copyFrom_X5_copyFrom
set_option maxRecDepth 20000 in
theorem ggX8_copyFrom_X2_copyFrom : GoodIn wsX8_copyFrom wsX2_copyFrom := goodIn_r _ [57, 58, 59, 60, 61, 62, 63, 64, 65, 66, 67, 68, 69, 19, 20, 21, 22, 23, 24, 25, 26, 27, 28, 29, 98, 99, 100, 101, 102, 103, 104, 105, 106, 107, 108, 109] (by decide +kernel) (by decide +kernel)
set_option maxRecDepth 20000 in
theorem gX8_copyFrom_X2_copyFrom : GoodIn wsX8_copyFrom (wsV RX8 64 RX2 yX2_copyFrom wsX2_copyFrom) := goodIn_app (goodIn_of _ (by decide +kernel)) ggX8_copyFrom_X2_copyFrom
theorem dX8_copyFrom_0 : decode cX8_copyFrom 0 = .ok (.aload_n 0, 1) := by decide +kernel
theorem dX8_copyFrom_1 : decode cX8_copyFrom 1 = .ok (.getfield 14, 3) := by decide +kernel
theorem dX8_copyFrom_4 : decode cX8_copyFrom 4 = .ok (.aload_n 1, 1) := by decide +kernel
theorem dX8_copyFrom_5 : decode cX8_copyFrom 5 = .ok (.getfield 14, 3) := by decide +kernel
theorem dX8_copyFrom_8 : decode cX8_copyFrom 8 = .ok (.invokevirtual 54, 3) := by decide +kernel
theorem dX8_copyFrom_11 : decode cX8_copyFrom 11 = .ok (.aload_n 0, 1) := by decide +kernel
theorem dX8_copyFrom_12 : decode cX8_copyFrom 12 = .ok (.getfield 23, 3) := by decide +kernel
theorem dX8_copyFrom_15 : decode cX8_copyFrom 15 = .ok (.aload_n 1, 1) := by decide +kernel
theorem dX8_copyFrom_16 : decode cX8_copyFrom 16 = .ok (.getfield 23, 3) := by decide +kernel
theorem dX8_copyFrom_19 : decode cX8_copyFrom 19 = .ok (.invokevirtual 58, 3) := by decide +kernel
theorem dX8_copyFrom_22 : decode cX8_copyFrom 22 = .ok (.aload_n 0, 1) := by decide +kernel
theorem dX8_copyFrom_23 : decode cX8_copyFrom 23 = .ok (.getfield 30, 3) := by decide +kernel
theorem dX8_copyFrom_26 : decode cX8_copyFrom 26 = .ok (.aload_n 1, 1) := by decide +kernel
theorem dX8_copyFrom_27 : decode cX8_copyFrom 27 = .ok (.getfield 30, 3) := by decide +kernel
theorem dX8_copyFrom_30 : decode cX8_copyFrom 30 = .ok (.invokevirtual 61, 3) := by decide +kernel
theorem dX8_copyFrom_33 : decode cX8_copyFrom 33 = .ok (.aload_n 0, 1) := by decide +kernel
theorem dX8_copyFrom_34 : decode cX8_copyFrom 34 = .ok (.getfield 37, 3) := by decide +kernel
theorem dX8_copyFrom_37 : decode cX8_copyFrom 37 = .ok (.aload_n 1, 1) := by decide +kernel
theorem dX8_copyFrom_38 : decode cX8_copyFrom 38 = .ok (.getfield 37, 3) := by decide +kernel
theorem dX8_copyFrom_41 : decode cX8_copyFrom 41 = .ok (.invokevirtual 64, 3) := by decide +kernel
theorem dX8_copyFrom_44 : decode cX8_copyFrom 44 = .ok (.aload_n 0, 1) := by decide +kernel
theorem dX8_copyFrom_45 : decode cX8_copyFrom 45 = .ok (.aload_n 1, 1) := by decide +kernel
theorem dX8_copyFrom_46 : decode cX8_copyFrom 46 = .ok (.getfield 46, 3) := by decide +kernel
theorem dX8_copyFrom_49 : decode cX8_copyFrom 49 = .ok (.putfield 46, 3) := by decide +kernel
theorem dX8_copyFrom_52 : decode cX8_copyFrom 52 = .ok (.iconst 0, 1) := by decide +kernel
theorem dX8_copyFrom_53 : decode cX8_copyFrom 53 = .ok (.istore_n 2, 1) := by decide +kernel
theorem dX8_copyFrom_54 : decode cX8_copyFrom 54 = .ok (.iload_n 2, 1) := by decide +kernel
theorem dX8_copyFrom_55 : decode cX8_copyFrom 55 = .ok (.bipush 8, 2) := by decide +kernel
theorem dX8_copyFrom_57 : decode cX8_copyFrom 57 = .ok (.if_icmp .ge 21, 3) := by decide +kernel
theorem dX8_copyFrom_60 : decode cX8_copyFrom 60 = .ok (.aload_n 0, 1) := by decide +kernel
theorem dX8_copyFrom_61 : decode cX8_copyFrom 61 = .ok (.getfield 43, 3) := by decide +kernel
theorem dX8_copyFrom_64 : decode cX8_copyFrom 64 = .ok (.iload_n 2, 1) := by decide +kernel
theorem dX8_copyFrom_65 : decode cX8_copyFrom 65 = .ok (.aload_n 1, 1) := by decide +kernel
theorem dX8_copyFrom_66 : decode cX8_copyFrom 66 = .ok (.getfield 43, 3) := by decide +kernel
theorem dX8_copyFrom_69 : decode cX8_copyFrom 69 = .ok (.iload_n 2, 1) := by decide +kernel
theorem dX8_copyFrom_70 : decode cX8_copyFrom 70 = .ok (.aaload, 1) := by decide +kernel
theorem dX8_copyFrom_71 : decode cX8_copyFrom 71 = .ok (.aastore, 1) := by decide +kernel
theorem dX8_copyFrom_72 : decode cX8_copyFrom 72 = .ok (.iinc 2 1, 3) := by decide +kernel
theorem dX8_copyFrom_75 : decode cX8_copyFrom 75 = .ok (.goto (-21), 3) := by decide +kernel
theorem dX8_copyFrom_78 : decode cX8_copyFrom 78 = .ok (.return_, 1) := by decide +kernel
theorem dX9_init_0 : decode cX9_init 0 = .ok (.aload_n 0, 1) := by decide +kernel
theorem dX9_init_1 : decode cX9_init 1 = .ok (.invokespecial 3, 3) := by decide +kernel
theorem dX9_init_4 : decode cX9_init 4 = .ok (.aload_n 0, 1) := by decide +kernel
theorem dX9_init_5 : decode cX9_init 5 = .ok (.sipush 301, 3) := by decide +kernel
theorem dX9_init_8 : decode cX9_init 8 = .ok (.newarray .int, 2) := by decide +kernel
theorem dX9_init_10 : decode cX9_init 10 = .ok (.putfield 9, 3) := by decide +kernel
theorem dX9_init_13 : decode cX9_init 13 = .ok (.aload_n 0, 1) := by decide +kernel
theorem dX9_init_14 : decode cX9_init 14 = .ok (.sipush 301, 3) := by decide +kernel
theorem dX9_init_17 : decode cX9_init 17 = .ok (.newarray .int, 2) := by decide +kernel
theorem dX9_init_19 : decode cX9_init 19 = .ok (.putfield 15, 3) := by decide +kernel
theorem dX9_init_22 : decode cX9_init 22 = .ok (.aload_n 0, 1) := by decide +kernel
theorem dX9_init_23 : decode cX9_init 23 = .ok (.sipush 301, 3) := by decide +kernel
theorem dX9_init_26 : decode cX9_init 26 = .ok (.newarray .int, 2) := by decide +kernel
theorem dX9_init_28 : decode cX9_init 28 = .ok (.putfield 18, 3) := by decide +kernel
theorem dX9_init_31 : decode cX9_init 31 = .ok (.return_, 1) := by decide +kernel
set_option maxRecDepth 20000 in
theorem ggX9_split_X9_sortOf : GoodIn wsX9_split wsX9_sortOf := goodIn_r _ [9, 10, 11, 12] (by decide +kernel) (by decide +kernel)
set_option maxRecDepth 20000 in
theorem gX9_split_X9_sortOf : GoodIn wsX9_split (va_wsS RX9 28 yX9_sortOf wsX9_sortOf) := goodIn_app (goodIn_of _ (by decide +kernel)) ggX9_split_X9_sortOf
set_option maxRecDepth 20000 in
theorem ggX9_split_X9_goesOn : GoodIn wsX9_split wsX9_goesOn := goodIn_r _ [16, 1, 3, 33, 34, 35, 36, 37, 38, 39, 40] (by decide +kernel) (by decide +kernel)
set_option maxRecDepth 20000 in
theorem gX9_split_X9_goesOn : GoodIn wsX9_split (wsV RX9 32 RX9 yX9_goesOn wsX9_goesOn) := goodIn_app (goodIn_of _ (by decide +kernel)) ggX9_split_X9_goesOn
set_option maxRecDepth 20000 in
theorem ggX9_split_X9_extend : GoodIn wsX9_split wsX9_extend := goodIn_r _ [20, 1, 3, 5, 21, 22, 23, 24, 25, 10, 11, 12, 33, 34, 35, 36, 37, 38, 39, 40] (by decide +kernel) (by decide +kernel)
set_option maxRecDepth 20000 in
theorem gX9_split_X9_extend : GoodIn wsX9_split (wsV RX9 36 RX9 yX9_extend wsX9_extend) := goodIn_app (goodIn_of _ (by decide +kernel)) ggX9_split_X9_extend
set_option maxRecDepth 20000 in
theorem ggX9_split_X9_advance : GoodIn wsX9_split wsX9_advance := goodIn_r _ [29, 3, 2, 30, 4, 31, 5, 32, 1, 33, 34, 35, 36, 37, 38, 39, 40] (by decide +kernel) (by decide +kernel)
set_option maxRecDepth 20000 in
theorem gX9_split_X9_advance : GoodIn wsX9_split (wsV RX9 40 RX9 yX9_advance wsX9_advance) := goodIn_app (goodIn_of _ (by decide +kernel)) ggX9_split_X9_advance
theorem dX9_split_0 : decode cX9_split 0 = .ok (.aload_n 0, 1) := by decide +kernel
theorem dX9_split_1 : decode cX9_split 1 = .ok (.iconst 0, 1) := by decide +kernel
theorem dX9_split_2 : decode cX9_split 2 = .ok (.putfield 21, 3) := by decide +kernel
theorem dX9_split_5 : decode cX9_split 5 = .ok (.aload_n 0, 1) := by decide +kernel
theorem dX9_split_6 : decode cX9_split 6 = .ok (.iconst 0, 1) := by decide +kernel
theorem dX9_split_7 : decode cX9_split 7 = .ok (.putfield 25, 3) := by decide +kernel
theorem dX9_split_10 : decode cX9_split 10 = .ok (.iconst 0, 1) := by decide +kernel
theorem dX9_split_11 : decode cX9_split 11 = .ok (.istore_n 3, 1) := by decide +kernel
theorem dX9_split_12 : decode cX9_split 12 = .ok (.iconst 0, 1) := by decide +kernel
theorem dX9_split_13 : decode cX9_split 13 = .ok (.istore 4, 2) := by decide +kernel
theorem dX9_split_15 : decode cX9_split 15 = .ok (.iload 4, 2) := by decide +kernel
theorem dX9_split_17 : decode cX9_split 17 = .ok (.iload_n 2, 1) := by decide +kernel
theorem dX9_split_18 : decode cX9_split 18 = .ok (.if_icmp .ge 112, 3) := by decide +kernel
theorem dX9_split_21 : decode cX9_split 21 = .ok (.iload 4, 2) := by decide +kernel
theorem dX9_split_23 : decode cX9_split 23 = .ok (.aload_n 1, 1) := by decide +kernel
theorem dX9_split_24 : decode cX9_split 24 = .ok (.arraylength, 1) := by decide +kernel
theorem dX9_split_25 : decode cX9_split 25 = .ok (.if_icmp .ge 105, 3) := by decide +kernel
theorem dX9_split_28 : decode cX9_split 28 = .ok (.iload 4, 2) := by decide +kernel
theorem dX9_split_30 : decode cX9_split 30 = .ok (.sipush 300, 3) := by decide +kernel
theorem dX9_split_33 : decode cX9_split 33 = .ok (.if_icmp .ge 97, 3) := by decide +kernel
theorem dX9_split_36 : decode cX9_split 36 = .ok (.aload_n 1, 1) := by decide +kernel
theorem dX9_split_37 : decode cX9_split 37 = .ok (.iload 4, 2) := by decide +kernel
theorem dX9_split_39 : decode cX9_split 39 = .ok (.iaload, 1) := by decide +kernel
theorem dX9_split_40 : decode cX9_split 40 = .ok (.invokestatic 28, 3) := by decide +kernel
theorem dX9_split_43 : decode cX9_split 43 = .ok (.istore 5, 2) := by decide +kernel
theorem dX9_split_45 : decode cX9_split 45 = .ok (.iload 5, 2) := by decide +kernel
theorem dX9_split_47 : decode cX9_split 47 = .ok (.ifCond .eq 59, 3) := by decide +kernel
theorem dX9_split_50 : decode cX9_split 50 = .ok (.aload_n 0, 1) := by decide +kernel
theorem dX9_split_51 : decode cX9_split 51 = .ok (.iload_n 3, 1) := by decide +kernel
theorem dX9_split_52 : decode cX9_split 52 = .ok (.iload 5, 2) := by decide +kernel
theorem dX9_split_54 : decode cX9_split 54 = .ok (.aload_n 1, 1) := by decide +kernel
theorem dX9_split_55 : decode cX9_split 55 = .ok (.iload 4, 2) := by decide +kernel
theorem dX9_split_57 : decode cX9_split 57 = .ok (.iaload, 1) := by decide +kernel
theorem dX9_split_58 : decode cX9_split 58 = .ok (.invokevirtual 32, 3) := by decide +kernel
theorem dX9_split_61 : decode cX9_split 61 = .ok (.ifCond .ne 45, 3) := by decide +kernel
theorem dX9_split_64 : decode cX9_split 64 = .ok (.aload_n 0, 1) := by decide +kernel
theorem dX9_split_65 : decode cX9_split 65 = .ok (.getfield 9, 3) := by decide +kernel
theorem dX9_split_68 : decode cX9_split 68 = .ok (.aload_n 0, 1) := by decide +kernel
theorem dX9_split_69 : decode cX9_split 69 = .ok (.getfield 21, 3) := by decide +kernel
theorem dX9_split_72 : decode cX9_split 72 = .ok (.bipush (-2), 2) := by decide +kernel
theorem dX9_split_74 : decode cX9_split 74 = .ok (.iastore, 1) := by decide +kernel
theorem dX9_split_75 : decode cX9_split 75 = .ok (.aload_n 0, 1) := by decide +kernel
theorem dX9_split_76 : decode cX9_split 76 = .ok (.getfield 15, 3) := by decide +kernel
theorem dX9_split_79 : decode cX9_split 79 = .ok (.aload_n 0, 1) := by decide +kernel
theorem dX9_split_80 : decode cX9_split 80 = .ok (.getfield 21, 3) := by decide +kernel
theorem dX9_split_83 : decode cX9_split 83 = .ok (.iload 4, 2) := by decide +kernel
theorem dX9_split_85 : decode cX9_split 85 = .ok (.iastore, 1) := by decide +kernel
theorem dX9_split_86 : decode cX9_split 86 = .ok (.aload_n 0, 1) := by decide +kernel
theorem dX9_split_87 : decode cX9_split 87 = .ok (.getfield 18, 3) := by decide +kernel
theorem dX9_split_90 : decode cX9_split 90 = .ok (.aload_n 0, 1) := by decide +kernel
theorem dX9_split_91 : decode cX9_split 91 = .ok (.getfield 21, 3) := by decide +kernel
theorem dX9_split_94 : decode cX9_split 94 = .ok (.iconst 0, 1) := by decide +kernel
theorem dX9_split_95 : decode cX9_split 95 = .ok (.iastore, 1) := by decide +kernel
theorem dX9_split_96 : decode cX9_split 96 = .ok (.aload_n 0, 1) := by decide +kernel
theorem dX9_split_97 : decode cX9_split 97 = .ok (.dup, 1) := by decide +kernel
theorem dX9_split_98 : decode cX9_split 98 = .ok (.getfield 21, 3) := by decide +kernel
theorem dX9_split_101 : decode cX9_split 101 = .ok (.iconst 1, 1) := by decide +kernel
theorem dX9_split_102 : decode cX9_split 102 = .ok (.iadd, 1) := by decide +kernel
theorem dX9_split_103 : decode cX9_split 103 = .ok (.putfield 21, 3) := by decide +kernel
theorem dX9_split_106 : decode cX9_split 106 = .ok (.iload 5, 2) := by decide +kernel
theorem dX9_split_108 : decode cX9_split 108 = .ok (.ifCond .eq 13, 3) := by decide +kernel
theorem dX9_split_111 : decode cX9_split 111 = .ok (.aload_n 0, 1) := by decide +kernel
theorem dX9_split_112 : decode cX9_split 112 = .ok (.iload 5, 2) := by decide +kernel
theorem dX9_split_114 : decode cX9_split 114 = .ok (.aload_n 1, 1) := by decide +kernel
theorem dX9_split_115 : decode cX9_split 115 = .ok (.iload 4, 2) := by decide +kernel
theorem dX9_split_117 : decode cX9_split 117 = .ok (.iaload, 1) := by decide +kernel
theorem dX9_split_118 : decode cX9_split 118 = .ok (.invokevirtual 36, 3) := by decide +kernel
theorem dX9_split_121 : decode cX9_split 121 = .ok (.iload 5, 2) := by decide +kernel
theorem dX9_split_123 : decode cX9_split 123 = .ok (.istore_n 3, 1) := by decide +kernel
theorem dX9_split_124 : decode cX9_split 124 = .ok (.iinc 4 1, 3) := by decide +kernel
theorem dX9_split_127 : decode cX9_split 127 = .ok (.goto (-112), 3) := by decide +kernel
theorem dX9_split_130 : decode cX9_split 130 = .ok (.aload_n 0, 1) := by decide +kernel
theorem dX9_split_131 : decode cX9_split 131 = .ok (.getfield 9, 3) := by decide +kernel
theorem dX9_split_134 : decode cX9_split 134 = .ok (.aload_n 0, 1) := by decide +kernel
theorem dX9_split_135 : decode cX9_split 135 = .ok (.getfield 21, 3) := by decide +kernel
theorem dX9_split_138 : decode cX9_split 138 = .ok (.iconst (-1), 1) := by decide +kernel
theorem dX9_split_139 : decode cX9_split 139 = .ok (.iastore, 1) := by decide +kernel
theorem dX9_split_140 : decode cX9_split 140 = .ok (.aload_n 0, 1) := by decide +kernel
theorem dX9_split_141 : decode cX9_split 141 = .ok (.getfield 15, 3) := by decide +kernel
theorem dX9_split_144 : decode cX9_split 144 = .ok (.aload_n 0, 1) := by decide +kernel
theorem dX9_split_145 : decode cX9_split 145 = .ok (.getfield 21, 3) := by decide +kernel
theorem dX9_split_148 : decode cX9_split 148 = .ok (.iload_n 2, 1) := by decide +kernel
theorem dX9_split_149 : decode cX9_split 149 = .ok (.iastore, 1) := by decide +kernel
theorem dX9_split_150 : decode cX9_split 150 = .ok (.aload_n 0, 1) := by decide +kernel
theorem dX9_split_151 : decode cX9_split 151 = .ok (.invokevirtual 40, 3) := by decide +kernel
theorem dX9_split_154 : decode cX9_split 154 = .ok (.return_, 1) := by decide +kernel
theorem dX9_advance_0 : decode cX9_advance 0 = .ok (.aload_n 0, 1) := by decide +kernel
theorem dX9_advance_1 : decode cX9_advance 1 = .ok (.aload_n 0, 1) := by decide +kernel
theorem dX9_advance_2 : decode cX9_advance 2 = .ok (.getfield 9, 3) := by decide +kernel
theorem dX9_advance_5 : decode cX9_advance 5 = .ok (.aload_n 0, 1) := by decide +kernel
theorem dX9_advance_6 : decode cX9_advance 6 = .ok (.getfield 25, 3) := by decide +kernel
theorem dX9_advance_9 : decode cX9_advance 9 = .ok (.iaload, 1) := by decide +kernel
theorem dX9_advance_10 : decode cX9_advance 10 = .ok (.putfield 43, 3) := by decide +kernel
theorem dX9_advance_13 : decode cX9_advance 13 = .ok (.aload_n 0, 1) := by decide +kernel
theorem dX9_advance_14 : decode cX9_advance 14 = .ok (.aload_n 0, 1) := by decide +kernel
theorem dX9_advance_15 : decode cX9_advance 15 = .ok (.getfield 15, 3) := by decide +kernel
theorem dX9_advance_18 : decode cX9_advance 18 = .ok (.aload_n 0, 1) := by decide +kernel
theorem dX9_advance_19 : decode cX9_advance 19 = .ok (.getfield 25, 3) := by decide +kernel
theorem dX9_advance_22 : decode cX9_advance 22 = .ok (.iaload, 1) := by decide +kernel
theorem dX9_advance_23 : decode cX9_advance 23 = .ok (.putfield 46, 3) := by decide +kernel
theorem dX9_advance_26 : decode cX9_advance 26 = .ok (.aload_n 0, 1) := by decide +kernel
theorem dX9_advance_27 : decode cX9_advance 27 = .ok (.aload_n 0, 1) := by decide +kernel
theorem dX9_advance_28 : decode cX9_advance 28 = .ok (.getfield 18, 3) := by decide +kernel
theorem dX9_advance_31 : decode cX9_advance 31 = .ok (.aload_n 0, 1) := by decide +kernel
theorem dX9_advance_32 : decode cX9_advance 32 = .ok (.getfield 25, 3) := by decide +kernel
theorem dX9_advance_35 : decode cX9_advance 35 = .ok (.iaload, 1) := by decide +kernel
theorem dX9_advance_36 : decode cX9_advance 36 = .ok (.putfield 49, 3) := by decide +kernel
theorem dX9_advance_39 : decode cX9_advance 39 = .ok (.aload_n 0, 1) := by decide +kernel
theorem dX9_advance_40 : decode cX9_advance 40 = .ok (.getfield 25, 3) := by decide +kernel
theorem dX9_advance_43 : decode cX9_advance 43 = .ok (.aload_n 0, 1) := by decide +kernel
theorem dX9_advance_44 : decode cX9_advance 44 = .ok (.getfield 21, 3) := by decide +kernel
theorem dX9_advance_47 : decode cX9_advance 47 = .ok (.if_icmp .ge 13, 3) := by decide +kernel
theorem dX9_advance_50 : decode cX9_advance 50 = .ok (.aload_n 0, 1) := by decide +kernel
theorem dX9_advance_51 : decode cX9_advance 51 = .ok (.dup, 1) := by decide +kernel
theorem dX9_advance_52 : decode cX9_advance 52 = .ok (.getfield 25, 3) := by decide +kernel
theorem dX9_advance_55 : decode cX9_advance 55 = .ok (.iconst 1, 1) := by decide +kernel
theorem dX9_advance_56 : decode cX9_advance 56 = .ok (.iadd, 1) := by decide +kernel
theorem dX9_advance_57 : decode cX9_advance 57 = .ok (.putfield 25, 3) := by decide +kernel
theorem dX9_advance_60 : decode cX9_advance 60 = .ok (.return_, 1) := by decide +kernel
set_option maxRecDepth 20000 in
theorem ggX9_sortOf_X11_isWithin : GoodIn wsX9_sortOf wsX11_isWithin := goodIn_r _ [3] (by decide +kernel) (by decide +kernel)
set_option maxRecDepth 20000 in
theorem gX9_sortOf_X11_isWithin_n52 : GoodIn wsX9_sortOf (wsX11_isWithin) := ggX9_sortOf_X11_isWithin
theorem dX9_sortOf_0 : decode cX9_sortOf 0 = .ok (.iload_n 0, 1) := by decide +kernel
theorem dX9_sortOf_1 : decode cX9_sortOf 1 = .ok (.bipush 32, 2) := by decide +kernel
theorem dX9_sortOf_3 : decode cX9_sortOf 3 = .ok (.if_icmp .eq 9, 3) := by decide +kernel
theorem dX9_sortOf_6 : decode cX9_sortOf 6 = .ok (.iload_n 0, 1) := by decide +kernel
theorem dX9_sortOf_7 : decode cX9_sortOf 7 = .ok (.bipush 10, 2) := by decide +kernel
theorem dX9_sortOf_9 : decode cX9_sortOf 9 = .ok (.if_icmp .ne 5, 3) := by decide +kernel
theorem dX9_sortOf_12 : decode cX9_sortOf 12 = .ok (.iconst 0, 1) := by decide +kernel
theorem dX9_sortOf_13 : decode cX9_sortOf 13 = .ok (.ireturn, 1) := by decide +kernel
theorem dX9_sortOf_14 : decode cX9_sortOf 14 = .ok (.iload_n 0, 1) := by decide +kernel
theorem dX9_sortOf_15 : decode cX9_sortOf 15 = .ok (.bipush 97, 2) := by decide +kernel
theorem dX9_sortOf_17 : decode cX9_sortOf 17 = .ok (.bipush 122, 2) := by decide +kernel
theorem dX9_sortOf_19 : decode cX9_sortOf 19 = .ok (.invokestatic 52, 3) := by decide +kernel
theorem dX9_sortOf_22 : decode cX9_sortOf 22 = .ok (.ifCond .ne 14, 3) := by decide +kernel
theorem dX9_sortOf_25 : decode cX9_sortOf 25 = .ok (.iload_n 0, 1) := by decide +kernel
theorem dX9_sortOf_26 : decode cX9_sortOf 26 = .ok (.bipush 65, 2) := by decide +kernel
theorem dX9_sortOf_28 : decode cX9_sortOf 28 = .ok (.bipush 90, 2) := by decide +kernel
theorem dX9_sortOf_30 : decode cX9_sortOf 30 = .ok (.invokestatic 52, 3) := by decide +kernel
theorem dX9_sortOf_33 : decode cX9_sortOf 33 = .ok (.ifCond .eq 5, 3) := by decide +kernel
theorem dX9_sortOf_36 : decode cX9_sortOf 36 = .ok (.iconst 1, 1) := by decide +kernel
theorem dX9_sortOf_37 : decode cX9_sortOf 37 = .ok (.ireturn, 1) := by decide +kernel
theorem dX9_sortOf_38 : decode cX9_sortOf 38 = .ok (.iload_n 0, 1) := by decide +kernel
theorem dX9_sortOf_39 : decode cX9_sortOf 39 = .ok (.bipush 48, 2) := by decide +kernel
theorem dX9_sortOf_41 : decode cX9_sortOf 41 = .ok (.bipush 57, 2) := by decide +kernel
theorem dX9_sortOf_43 : decode cX9_sortOf 43 = .ok (.invokestatic 52, 3) := by decide +kernel
theorem dX9_sortOf_46 : decode cX9_sortOf 46 = .ok (.ifCond .eq 7, 3) := by decide +kernel
theorem dX9_sortOf_49 : decode cX9_sortOf 49 = .ok (.iconst 2, 1) := by decide +kernel
theorem dX9_sortOf_50 : decode cX9_sortOf 50 = .ok (.goto 4, 3) := by decide +kernel
theorem dX9_sortOf_53 : decode cX9_sortOf 53 = .ok (.iconst 3, 1) := by decide +kernel
theorem dX9_sortOf_54 : decode cX9_sortOf 54 = .ok (.ireturn, 1) := by decide +kernel
theorem dX9_goesOn_0 : decode cX9_goesOn 0 = .ok (.iload_n 1, 1) := by decide +kernel
theorem dX9_goesOn_1 : decode cX9_goesOn 1 = .ok (.iload_n 2, 1) := by decide +kernel
theorem dX9_goesOn_2 : decode cX9_goesOn 2 = .ok (.if_icmp .ne 10, 3) := by decide +kernel
theorem dX9_goesOn_5 : decode cX9_goesOn 5 = .ok (.aload_n 0, 1) := by decide +kernel
theorem dX9_goesOn_6 : decode cX9_goesOn 6 = .ok (.getfield 21, 3) := by decide +kernel
theorem dX9_goesOn_9 : decode cX9_goesOn 9 = .ok (.ifCond .ne 5, 3) := by decide +kernel
theorem dX9_goesOn_12 : decode cX9_goesOn 12 = .ok (.iconst 0, 1) := by decide +kernel
theorem dX9_goesOn_13 : decode cX9_goesOn 13 = .ok (.ireturn, 1) := by decide +kernel
theorem dX9_goesOn_14 : decode cX9_goesOn 14 = .ok (.aload_n 0, 1) := by decide +kernel
theorem dX9_goesOn_15 : decode cX9_goesOn 15 = .ok (.getfield 9, 3) := by decide +kernel
theorem dX9_goesOn_18 : decode cX9_goesOn 18 = .ok (.aload_n 0, 1) := by decide +kernel
theorem dX9_goesOn_19 : decode cX9_goesOn 19 = .ok (.getfield 21, 3) := by decide +kernel
theorem dX9_goesOn_22 : decode cX9_goesOn 22 = .ok (.iconst 1, 1) := by decide +kernel
theorem dX9_goesOn_23 : decode cX9_goesOn 23 = .ok (.isub, 1) := by decide +kernel
theorem dX9_goesOn_24 : decode cX9_goesOn 24 = .ok (.iaload, 1) := by decide +kernel
theorem dX9_goesOn_25 : decode cX9_goesOn 25 = .ok (.istore 4, 2) := by decide +kernel
theorem dX9_goesOn_27 : decode cX9_goesOn 27 = .ok (.iload_n 2, 1) := by decide +kernel
theorem dX9_goesOn_28 : decode cX9_goesOn 28 = .ok (.iconst 3, 1) := by decide +kernel
theorem dX9_goesOn_29 : decode cX9_goesOn 29 = .ok (.if_icmp .ne 23, 3) := by decide +kernel
theorem dX9_goesOn_32 : decode cX9_goesOn 32 = .ok (.iload_n 3, 1) := by decide +kernel
theorem dX9_goesOn_33 : decode cX9_goesOn 33 = .ok (.bipush 61, 2) := by decide +kernel
theorem dX9_goesOn_35 : decode cX9_goesOn 35 = .ok (.if_icmp .ne 21, 3) := by decide +kernel
theorem dX9_goesOn_38 : decode cX9_goesOn 38 = .ok (.iload 4, 2) := by decide +kernel
theorem dX9_goesOn_40 : decode cX9_goesOn 40 = .ok (.bipush 60, 2) := by decide +kernel
theorem dX9_goesOn_42 : decode cX9_goesOn 42 = .ok (.if_icmp .eq 10, 3) := by decide +kernel
theorem dX9_goesOn_45 : decode cX9_goesOn 45 = .ok (.iload 4, 2) := by decide +kernel
theorem dX9_goesOn_47 : decode cX9_goesOn 47 = .ok (.bipush 62, 2) := by decide +kernel
theorem dX9_goesOn_49 : decode cX9_goesOn 49 = .ok (.if_icmp .ne 7, 3) := by decide +kernel
theorem dX9_goesOn_52 : decode cX9_goesOn 52 = .ok (.iconst 1, 1) := by decide +kernel
theorem dX9_goesOn_53 : decode cX9_goesOn 53 = .ok (.goto 4, 3) := by decide +kernel
theorem dX9_goesOn_56 : decode cX9_goesOn 56 = .ok (.iconst 0, 1) := by decide +kernel
theorem dX9_goesOn_57 : decode cX9_goesOn 57 = .ok (.ireturn, 1) := by decide +kernel
set_option maxRecDepth 20000 in
theorem ggX9_extend_X11_isWithin : GoodIn wsX9_extend wsX11_isWithin := goodIn_r _ [11] (by decide +kernel) (by decide +kernel)
set_option maxRecDepth 20000 in
theorem gX9_extend_X11_isWithin_n52 : GoodIn wsX9_extend (wsX11_isWithin) := ggX9_extend_X11_isWithin
theorem dX9_extend_0 : decode cX9_extend 0 = .ok (.aload_n 0, 1) := by decide +kernel
theorem dX9_extend_1 : decode cX9_extend 1 = .ok (.getfield 21, 3) := by decide +kernel
theorem dX9_extend_4 : decode cX9_extend 4 = .ok (.ifCond .ne 4, 3) := by decide +kernel
theorem dX9_extend_7 : decode cX9_extend 7 = .ok (.return_, 1) := by decide +kernel
theorem dX9_extend_8 : decode cX9_extend 8 = .ok (.aload_n 0, 1) := by decide +kernel
theorem dX9_extend_9 : decode cX9_extend 9 = .ok (.getfield 21, 3) := by decide +kernel
theorem dX9_extend_12 : decode cX9_extend 12 = .ok (.iconst 1, 1) := by decide +kernel
theorem dX9_extend_13 : decode cX9_extend 13 = .ok (.isub, 1) := by decide +kernel
theorem dX9_extend_14 : decode cX9_extend 14 = .ok (.istore_n 3, 1) := by decide +kernel
theorem dX9_extend_15 : decode cX9_extend 15 = .ok (.iload_n 1, 1) := by decide +kernel
theorem dX9_extend_16 : decode cX9_extend 16 = .ok (.iconst 2, 1) := by decide +kernel
theorem dX9_extend_17 : decode cX9_extend 17 = .ok (.if_icmp .ne 40, 3) := by decide +kernel
theorem dX9_extend_20 : decode cX9_extend 20 = .ok (.aload_n 0, 1) := by decide +kernel
theorem dX9_extend_21 : decode cX9_extend 21 = .ok (.getfield 9, 3) := by decide +kernel
theorem dX9_extend_24 : decode cX9_extend 24 = .ok (.iload_n 3, 1) := by decide +kernel
theorem dX9_extend_25 : decode cX9_extend 25 = .ok (.bipush (-3), 2) := by decide +kernel
theorem dX9_extend_27 : decode cX9_extend 27 = .ok (.iastore, 1) := by decide +kernel
theorem dX9_extend_28 : decode cX9_extend 28 = .ok (.aload_n 0, 1) := by decide +kernel
theorem dX9_extend_29 : decode cX9_extend 29 = .ok (.getfield 18, 3) := by decide +kernel
theorem dX9_extend_32 : decode cX9_extend 32 = .ok (.iload_n 3, 1) := by decide +kernel
theorem dX9_extend_33 : decode cX9_extend 33 = .ok (.sipush 10000, 3) := by decide +kernel
theorem dX9_extend_36 : decode cX9_extend 36 = .ok (.aload_n 0, 1) := by decide +kernel
theorem dX9_extend_37 : decode cX9_extend 37 = .ok (.getfield 18, 3) := by decide +kernel
theorem dX9_extend_40 : decode cX9_extend 40 = .ok (.iload_n 3, 1) := by decide +kernel
theorem dX9_extend_41 : decode cX9_extend 41 = .ok (.iaload, 1) := by decide +kernel
theorem dX9_extend_42 : decode cX9_extend 42 = .ok (.bipush 10, 2) := by decide +kernel
theorem dX9_extend_44 : decode cX9_extend 44 = .ok (.imul, 1) := by decide +kernel
theorem dX9_extend_45 : decode cX9_extend 45 = .ok (.iload_n 2, 1) := by decide +kernel
theorem dX9_extend_46 : decode cX9_extend 46 = .ok (.iadd, 1) := by decide +kernel
theorem dX9_extend_47 : decode cX9_extend 47 = .ok (.bipush 48, 2) := by decide +kernel
theorem dX9_extend_49 : decode cX9_extend 49 = .ok (.isub, 1) := by decide +kernel
theorem dX9_extend_50 : decode cX9_extend 50 = .ok (.invokestatic 55, 3) := by decide +kernel
theorem dX9_extend_53 : decode cX9_extend 53 = .ok (.iastore, 1) := by decide +kernel
theorem dX9_extend_54 : decode cX9_extend 54 = .ok (.goto 144, 3) := by decide +kernel
theorem dX9_extend_57 : decode cX9_extend 57 = .ok (.iload_n 1, 1) := by decide +kernel
theorem dX9_extend_58 : decode cX9_extend 58 = .ok (.iconst 1, 1) := by decide +kernel
theorem dX9_extend_59 : decode cX9_extend 59 = .ok (.if_icmp .ne 94, 3) := by decide +kernel
theorem dX9_extend_62 : decode cX9_extend 62 = .ok (.aload_n 0, 1) := by decide +kernel
theorem dX9_extend_63 : decode cX9_extend 63 = .ok (.getfield 18, 3) := by decide +kernel
theorem dX9_extend_66 : decode cX9_extend 66 = .ok (.iload_n 3, 1) := by decide +kernel
theorem dX9_extend_67 : decode cX9_extend 67 = .ok (.iaload, 1) := by decide +kernel
theorem dX9_extend_68 : decode cX9_extend 68 = .ok (.ifCond .lt 14, 3) := by decide +kernel
theorem dX9_extend_71 : decode cX9_extend 71 = .ok (.aload_n 0, 1) := by decide +kernel
theorem dX9_extend_72 : decode cX9_extend 72 = .ok (.getfield 18, 3) := by decide +kernel
theorem dX9_extend_75 : decode cX9_extend 75 = .ok (.iload_n 3, 1) := by decide +kernel
theorem dX9_extend_76 : decode cX9_extend 76 = .ok (.iaload, 1) := by decide +kernel
theorem dX9_extend_77 : decode cX9_extend 77 = .ok (.ldc 61, 2) := by decide +kernel
theorem dX9_extend_79 : decode cX9_extend 79 = .ok (.if_icmp .le 7, 3) := by decide +kernel
theorem dX9_extend_82 : decode cX9_extend 82 = .ok (.iconst 1, 1) := by decide +kernel
theorem dX9_extend_83 : decode cX9_extend 83 = .ok (.goto 4, 3) := by decide +kernel
theorem dX9_extend_86 : decode cX9_extend 86 = .ok (.iconst 0, 1) := by decide +kernel
theorem dX9_extend_87 : decode cX9_extend 87 = .ok (.istore 4, 2) := by decide +kernel
theorem dX9_extend_89 : decode cX9_extend 89 = .ok (.aload_n 0, 1) := by decide +kernel
theorem dX9_extend_90 : decode cX9_extend 90 = .ok (.getfield 18, 3) := by decide +kernel
theorem dX9_extend_93 : decode cX9_extend 93 = .ok (.iload_n 3, 1) := by decide +kernel
theorem dX9_extend_94 : decode cX9_extend 94 = .ok (.iload 4, 2) := by decide +kernel
theorem dX9_extend_96 : decode cX9_extend 96 = .ok (.ifCond .eq 8, 3) := by decide +kernel
theorem dX9_extend_99 : decode cX9_extend 99 = .ok (.bipush (-2), 2) := by decide +kernel
theorem dX9_extend_101 : decode cX9_extend 101 = .ok (.goto 15, 3) := by decide +kernel
theorem dX9_extend_104 : decode cX9_extend 104 = .ok (.aload_n 0, 1) := by decide +kernel
theorem dX9_extend_105 : decode cX9_extend 105 = .ok (.getfield 18, 3) := by decide +kernel
theorem dX9_extend_108 : decode cX9_extend 108 = .ok (.iload_n 3, 1) := by decide +kernel
theorem dX9_extend_109 : decode cX9_extend 109 = .ok (.iaload, 1) := by decide +kernel
theorem dX9_extend_110 : decode cX9_extend 110 = .ok (.sipush 256, 3) := by decide +kernel
theorem dX9_extend_113 : decode cX9_extend 113 = .ok (.imul, 1) := by decide +kernel
theorem dX9_extend_114 : decode cX9_extend 114 = .ok (.iload_n 2, 1) := by decide +kernel
theorem dX9_extend_115 : decode cX9_extend 115 = .ok (.iadd, 1) := by decide +kernel
theorem dX9_extend_116 : decode cX9_extend 116 = .ok (.iastore, 1) := by decide +kernel
theorem dX9_extend_117 : decode cX9_extend 117 = .ok (.aload_n 0, 1) := by decide +kernel
theorem dX9_extend_118 : decode cX9_extend 118 = .ok (.getfield 9, 3) := by decide +kernel
theorem dX9_extend_121 : decode cX9_extend 121 = .ok (.iload_n 3, 1) := by decide +kernel
theorem dX9_extend_122 : decode cX9_extend 122 = .ok (.aload_n 0, 1) := by decide +kernel
theorem dX9_extend_123 : decode cX9_extend 123 = .ok (.getfield 18, 3) := by decide +kernel
theorem dX9_extend_126 : decode cX9_extend 126 = .ok (.iload_n 3, 1) := by decide +kernel
theorem dX9_extend_127 : decode cX9_extend 127 = .ok (.iaload, 1) := by decide +kernel
theorem dX9_extend_128 : decode cX9_extend 128 = .ok (.bipush 65, 2) := by decide +kernel
theorem dX9_extend_130 : decode cX9_extend 130 = .ok (.bipush 72, 2) := by decide +kernel
theorem dX9_extend_132 : decode cX9_extend 132 = .ok (.invokestatic 52, 3) := by decide +kernel
theorem dX9_extend_135 : decode cX9_extend 135 = .ok (.ifCond .eq 8, 3) := by decide +kernel
theorem dX9_extend_138 : decode cX9_extend 138 = .ok (.bipush (-4), 2) := by decide +kernel
theorem dX9_extend_140 : decode cX9_extend 140 = .ok (.goto 9, 3) := by decide +kernel
theorem dX9_extend_143 : decode cX9_extend 143 = .ok (.aload_n 0, 1) := by decide +kernel
theorem dX9_extend_144 : decode cX9_extend 144 = .ok (.getfield 18, 3) := by decide +kernel
theorem dX9_extend_147 : decode cX9_extend 147 = .ok (.iload_n 3, 1) := by decide +kernel
theorem dX9_extend_148 : decode cX9_extend 148 = .ok (.iaload, 1) := by decide +kernel
theorem dX9_extend_149 : decode cX9_extend 149 = .ok (.iastore, 1) := by decide +kernel
theorem dX9_extend_150 : decode cX9_extend 150 = .ok (.goto 48, 3) := by decide +kernel
theorem dX9_extend_153 : decode cX9_extend 153 = .ok (.aload_n 0, 1) := by decide +kernel
theorem dX9_extend_154 : decode cX9_extend 154 = .ok (.getfield 9, 3) := by decide +kernel
theorem dX9_extend_157 : decode cX9_extend 157 = .ok (.iload_n 3, 1) := by decide +kernel
theorem dX9_extend_158 : decode cX9_extend 158 = .ok (.iaload, 1) := by decide +kernel
theorem dX9_extend_159 : decode cX9_extend 159 = .ok (.bipush (-2), 2) := by decide +kernel
theorem dX9_extend_161 : decode cX9_extend 161 = .ok (.if_icmp .ne 13, 3) := by decide +kernel
theorem dX9_extend_164 : decode cX9_extend 164 = .ok (.aload_n 0, 1) := by decide +kernel
theorem dX9_extend_165 : decode cX9_extend 165 = .ok (.getfield 9, 3) := by decide +kernel
theorem dX9_extend_168 : decode cX9_extend 168 = .ok (.iload_n 3, 1) := by decide +kernel
theorem dX9_extend_169 : decode cX9_extend 169 = .ok (.iload_n 2, 1) := by decide +kernel
theorem dX9_extend_170 : decode cX9_extend 170 = .ok (.iastore, 1) := by decide +kernel
theorem dX9_extend_171 : decode cX9_extend 171 = .ok (.goto 27, 3) := by decide +kernel
theorem dX9_extend_174 : decode cX9_extend 174 = .ok (.aload_n 0, 1) := by decide +kernel
theorem dX9_extend_175 : decode cX9_extend 175 = .ok (.getfield 9, 3) := by decide +kernel
theorem dX9_extend_178 : decode cX9_extend 178 = .ok (.iload_n 3, 1) := by decide +kernel
theorem dX9_extend_179 : decode cX9_extend 179 = .ok (.aload_n 0, 1) := by decide +kernel
theorem dX9_extend_180 : decode cX9_extend 180 = .ok (.getfield 9, 3) := by decide +kernel
theorem dX9_extend_183 : decode cX9_extend 183 = .ok (.iload_n 3, 1) := by decide +kernel
theorem dX9_extend_184 : decode cX9_extend 184 = .ok (.iaload, 1) := by decide +kernel
theorem dX9_extend_185 : decode cX9_extend 185 = .ok (.bipush 60, 2) := by decide +kernel
theorem dX9_extend_187 : decode cX9_extend 187 = .ok (.if_icmp .ne 8, 3) := by decide +kernel
theorem dX9_extend_190 : decode cX9_extend 190 = .ok (.bipush (-5), 2) := by decide +kernel
theorem dX9_extend_192 : decode cX9_extend 192 = .ok (.goto 5, 3) := by decide +kernel
theorem dX9_extend_195 : decode cX9_extend 195 = .ok (.bipush (-6), 2) := by decide +kernel
theorem dX9_extend_197 : decode cX9_extend 197 = .ok (.iastore, 1) := by decide +kernel
theorem dX9_extend_198 : decode cX9_extend 198 = .ok (.return_, 1) := by decide +kernel
theorem dX10_init_0 : decode cX10_init 0 = .ok (.aload_n 0, 1) := by decide +kernel
theorem dX10_init_1 : decode cX10_init 1 = .ok (.invokespecial 3, 3) := by decide +kernel
theorem dX10_init_4 : decode cX10_init 4 = .ok (.aload_n 0, 1) := by decide +kernel
theorem dX10_init_5 : decode cX10_init 5 = .ok (.iconst 4, 1) := by decide +kernel
theorem dX10_init_6 : decode cX10_init 6 = .ok (.bipush 24, 2) := by decide +kernel
theorem dX10_init_8 : decode cX10_init 8 = .ok (.iload_n 1, 1) := by decide +kernel
