theorem dX11_safe_159 : decode cX11_safe 159 = .ok (.iload 12, 2) := by decide +kernel
theorem dX11_safe_161 : decode cX11_safe 161 = .ok (.iload 7, 2) := by decide +kernel
theorem dX11_safe_163 : decode cX11_safe 163 = .ok (.invokevirtual 287, 3) := by decide +kernel
theorem dX11_safe_166 : decode cX11_safe 166 = .ok (.ifCond .eq 16, 3) := by decide +kernel
theorem dX11_safe_169 : decode cX11_safe 169 = .ok (.iload 8, 2) := by decide +kernel
theorem dX11_safe_171 : decode cX11_safe 171 = .ok (.ifCond .ne 8, 3) := by decide +kernel
theorem dX11_safe_174 : decode cX11_safe 174 = .ok (.iload 11, 2) := by decide +kernel
theorem dX11_safe_176 : decode cX11_safe 176 = .ok (.goto 5, 3) := by decide +kernel
theorem dX11_safe_179 : decode cX11_safe 179 = .ok (.iload 12, 2) := by decide +kernel
theorem dX11_safe_181 : decode cX11_safe 181 = .ok (.ireturn, 1) := by decide +kernel
theorem dX11_safe_182 : decode cX11_safe 182 = .ok (.iinc 12 1, 3) := by decide +kernel
theorem dX11_safe_185 : decode cX11_safe 185 = .ok (.goto (-60), 3) := by decide +kernel
theorem dX11_safe_188 : decode cX11_safe 188 = .ok (.iinc 11 16, 3) := by decide +kernel
theorem dX11_safe_191 : decode cX11_safe 191 = .ok (.goto (-76), 3) := by decide +kernel
theorem dX11_safe_194 : decode cX11_safe 194 = .ok (.iconst (-1), 1) := by decide +kernel
theorem dX11_safe_195 : decode cX11_safe 195 = .ok (.ireturn, 1) := by decide +kernel
set_option maxRecDepth 20000 in
theorem ggX11_read_X11_isStanding : GoodIn wsX11_read wsX11_isStanding := goodIn_r _ [12, 1, 13, 14, 15, 16, 17, 18, 19, 20, 21, 11, 22, 23, 24, 25, 26, 27, 28, 29, 30, 31, 32, 33, 34, 35, 36, 37, 38, 39, 40, 41, 48, 49, 50, 51, 52, 53, 54, 55, 56] (by decide +kernel) (by decide +kernel)
set_option maxRecDepth 20000 in
theorem gX11_read_X11_isStanding : GoodIn wsX11_read (wsV RX11 147 RX11 yX11_isStanding wsX11_isStanding) := goodIn_app (goodIn_of _ (by decide +kernel)) ggX11_read_X11_isStanding
theorem dX11_read_0 : decode cX11_read 0 = .ok (.aload_n 0, 1) := by decide +kernel
theorem dX11_read_1 : decode cX11_read 1 = .ok (.getfield 14, 3) := by decide +kernel
theorem dX11_read_4 : decode cX11_read 4 = .ok (.getfield 291, 3) := by decide +kernel
theorem dX11_read_7 : decode cX11_read 7 = .ok (.astore 4, 2) := by decide +kernel
theorem dX11_read_9 : decode cX11_read 9 = .ok (.aload_n 0, 1) := by decide +kernel
theorem dX11_read_10 : decode cX11_read 10 = .ok (.iload_n 1, 1) := by decide +kernel
theorem dX11_read_11 : decode cX11_read 11 = .ok (.iload_n 2, 1) := by decide +kernel
theorem dX11_read_12 : decode cX11_read 12 = .ok (.iload_n 3, 1) := by decide +kernel
theorem dX11_read_13 : decode cX11_read 13 = .ok (.invokevirtual 147, 3) := by decide +kernel
theorem dX11_read_16 : decode cX11_read 16 = .ok (.ifCond .eq 13, 3) := by decide +kernel
theorem dX11_read_19 : decode cX11_read 19 = .ok (.aload 4, 2) := by decide +kernel
theorem dX11_read_21 : decode cX11_read 21 = .ok (.getfield 295, 3) := by decide +kernel
theorem dX11_read_24 : decode cX11_read 24 = .ok (.bipush 6, 2) := by decide +kernel
theorem dX11_read_26 : decode cX11_read 26 = .ok (.if_icmp .lt 5, 3) := by decide +kernel
theorem dX11_read_29 : decode cX11_read 29 = .ok (.iconst (-1), 1) := by decide +kernel
theorem dX11_read_30 : decode cX11_read 30 = .ok (.ireturn, 1) := by decide +kernel
theorem dX11_read_31 : decode cX11_read 31 = .ok (.aload 4, 2) := by decide +kernel
theorem dX11_read_33 : decode cX11_read 33 = .ok (.getfield 295, 3) := by decide +kernel
theorem dX11_read_36 : decode cX11_read 36 = .ok (.istore 5, 2) := by decide +kernel
theorem dX11_read_38 : decode cX11_read 38 = .ok (.aload 4, 2) := by decide +kernel
theorem dX11_read_40 : decode cX11_read 40 = .ok (.getfield 298, 3) := by decide +kernel
theorem dX11_read_43 : decode cX11_read 43 = .ok (.iload 5, 2) := by decide +kernel
theorem dX11_read_45 : decode cX11_read 45 = .ok (.iload_n 1, 1) := by decide +kernel
theorem dX11_read_46 : decode cX11_read 46 = .ok (.iastore, 1) := by decide +kernel
theorem dX11_read_47 : decode cX11_read 47 = .ok (.aload 4, 2) := by decide +kernel
theorem dX11_read_49 : decode cX11_read 49 = .ok (.getfield 300, 3) := by decide +kernel
theorem dX11_read_52 : decode cX11_read 52 = .ok (.iload 5, 2) := by decide +kernel
theorem dX11_read_54 : decode cX11_read 54 = .ok (.iload_n 2, 1) := by decide +kernel
theorem dX11_read_55 : decode cX11_read 55 = .ok (.iastore, 1) := by decide +kernel
theorem dX11_read_56 : decode cX11_read 56 = .ok (.aload 4, 2) := by decide +kernel
theorem dX11_read_58 : decode cX11_read 58 = .ok (.getfield 302, 3) := by decide +kernel
theorem dX11_read_61 : decode cX11_read 61 = .ok (.iload 5, 2) := by decide +kernel
theorem dX11_read_63 : decode cX11_read 63 = .ok (.iload_n 3, 1) := by decide +kernel
theorem dX11_read_64 : decode cX11_read 64 = .ok (.iastore, 1) := by decide +kernel
theorem dX11_read_65 : decode cX11_read 65 = .ok (.aload 4, 2) := by decide +kernel
theorem dX11_read_67 : decode cX11_read 67 = .ok (.getfield 304, 3) := by decide +kernel
theorem dX11_read_70 : decode cX11_read 70 = .ok (.iload 5, 2) := by decide +kernel
theorem dX11_read_72 : decode cX11_read 72 = .ok (.iconst 0, 1) := by decide +kernel
theorem dX11_read_73 : decode cX11_read 73 = .ok (.iastore, 1) := by decide +kernel
theorem dX11_read_74 : decode cX11_read 74 = .ok (.aload 4, 2) := by decide +kernel
theorem dX11_read_76 : decode cX11_read 76 = .ok (.iload 5, 2) := by decide +kernel
theorem dX11_read_78 : decode cX11_read 78 = .ok (.iconst 1, 1) := by decide +kernel
theorem dX11_read_79 : decode cX11_read 79 = .ok (.iadd, 1) := by decide +kernel
theorem dX11_read_80 : decode cX11_read 80 = .ok (.putfield 295, 3) := by decide +kernel
theorem dX11_read_83 : decode cX11_read 83 = .ok (.iload 5, 2) := by decide +kernel
theorem dX11_read_85 : decode cX11_read 85 = .ok (.ireturn, 1) := by decide +kernel
set_option maxRecDepth 20000 in
theorem ggX11_turned_X11_isWithin : GoodIn wsX11_turned wsX11_isWithin := goodIn_r _ [9] (by decide +kernel) (by decide +kernel)
set_option maxRecDepth 20000 in
theorem gX11_turned_X11_isWithin : GoodIn wsX11_turned (va_wsS RX11 63 yX11_isWithin wsX11_isWithin) := goodIn_app (goodIn_of _ (by decide +kernel)) ggX11_turned_X11_isWithin
theorem dX11_turned_0 : decode cX11_turned 0 = .ok (.aload_n 0, 1) := by decide +kernel
theorem dX11_turned_1 : decode cX11_turned 1 = .ok (.getfield 14, 3) := by decide +kernel
theorem dX11_turned_4 : decode cX11_turned 4 = .ok (.getfield 291, 3) := by decide +kernel
theorem dX11_turned_7 : decode cX11_turned 7 = .ok (.astore_n 3, 1) := by decide +kernel
theorem dX11_turned_8 : decode cX11_turned 8 = .ok (.iload_n 1, 1) := by decide +kernel
theorem dX11_turned_9 : decode cX11_turned 9 = .ok (.iconst 0, 1) := by decide +kernel
theorem dX11_turned_10 : decode cX11_turned 10 = .ok (.aload_n 3, 1) := by decide +kernel
theorem dX11_turned_11 : decode cX11_turned 11 = .ok (.getfield 295, 3) := by decide +kernel
theorem dX11_turned_14 : decode cX11_turned 14 = .ok (.iconst 1, 1) := by decide +kernel
theorem dX11_turned_15 : decode cX11_turned 15 = .ok (.isub, 1) := by decide +kernel
theorem dX11_turned_16 : decode cX11_turned 16 = .ok (.invokestatic 63, 3) := by decide +kernel
theorem dX11_turned_19 : decode cX11_turned 19 = .ok (.ifCond .eq 14, 3) := by decide +kernel
theorem dX11_turned_22 : decode cX11_turned 22 = .ok (.iload_n 2, 1) := by decide +kernel
theorem dX11_turned_23 : decode cX11_turned 23 = .ok (.bipush (-8), 2) := by decide +kernel
theorem dX11_turned_25 : decode cX11_turned 25 = .ok (.bipush 8, 2) := by decide +kernel
theorem dX11_turned_27 : decode cX11_turned 27 = .ok (.invokestatic 63, 3) := by decide +kernel
theorem dX11_turned_30 : decode cX11_turned 30 = .ok (.ifCond .ne 5, 3) := by decide +kernel
theorem dX11_turned_33 : decode cX11_turned 33 = .ok (.iconst (-1), 1) := by decide +kernel
theorem dX11_turned_34 : decode cX11_turned 34 = .ok (.ireturn, 1) := by decide +kernel
theorem dX11_turned_35 : decode cX11_turned 35 = .ok (.aload_n 3, 1) := by decide +kernel
theorem dX11_turned_36 : decode cX11_turned 36 = .ok (.getfield 304, 3) := by decide +kernel
theorem dX11_turned_39 : decode cX11_turned 39 = .ok (.iload_n 1, 1) := by decide +kernel
theorem dX11_turned_40 : decode cX11_turned 40 = .ok (.iaload, 1) := by decide +kernel
theorem dX11_turned_41 : decode cX11_turned 41 = .ok (.istore 4, 2) := by decide +kernel
theorem dX11_turned_43 : decode cX11_turned 43 = .ok (.iload 4, 2) := by decide +kernel
theorem dX11_turned_45 : decode cX11_turned 45 = .ok (.bipush 20, 2) := by decide +kernel
theorem dX11_turned_47 : decode cX11_turned 47 = .ok (.if_icmp .lt 5, 3) := by decide +kernel
theorem dX11_turned_50 : decode cX11_turned 50 = .ok (.iconst (-1), 1) := by decide +kernel
theorem dX11_turned_51 : decode cX11_turned 51 = .ok (.ireturn, 1) := by decide +kernel
theorem dX11_turned_52 : decode cX11_turned 52 = .ok (.aload_n 3, 1) := by decide +kernel
theorem dX11_turned_53 : decode cX11_turned 53 = .ok (.getfield 307, 3) := by decide +kernel
theorem dX11_turned_56 : decode cX11_turned 56 = .ok (.iload_n 1, 1) := by decide +kernel
theorem dX11_turned_57 : decode cX11_turned 57 = .ok (.bipush 20, 2) := by decide +kernel
theorem dX11_turned_59 : decode cX11_turned 59 = .ok (.imul, 1) := by decide +kernel
theorem dX11_turned_60 : decode cX11_turned 60 = .ok (.iload 4, 2) := by decide +kernel
theorem dX11_turned_62 : decode cX11_turned 62 = .ok (.iadd, 1) := by decide +kernel
theorem dX11_turned_63 : decode cX11_turned 63 = .ok (.iload_n 2, 1) := by decide +kernel
theorem dX11_turned_64 : decode cX11_turned 64 = .ok (.iastore, 1) := by decide +kernel
theorem dX11_turned_65 : decode cX11_turned 65 = .ok (.aload_n 3, 1) := by decide +kernel
theorem dX11_turned_66 : decode cX11_turned 66 = .ok (.getfield 304, 3) := by decide +kernel
theorem dX11_turned_69 : decode cX11_turned 69 = .ok (.iload_n 1, 1) := by decide +kernel
theorem dX11_turned_70 : decode cX11_turned 70 = .ok (.iload 4, 2) := by decide +kernel
theorem dX11_turned_72 : decode cX11_turned 72 = .ok (.iconst 1, 1) := by decide +kernel
theorem dX11_turned_73 : decode cX11_turned 73 = .ok (.iadd, 1) := by decide +kernel
theorem dX11_turned_74 : decode cX11_turned 74 = .ok (.iastore, 1) := by decide +kernel
theorem dX11_turned_75 : decode cX11_turned 75 = .ok (.iload 4, 2) := by decide +kernel
theorem dX11_turned_77 : decode cX11_turned 77 = .ok (.iconst 1, 1) := by decide +kernel
theorem dX11_turned_78 : decode cX11_turned 78 = .ok (.iadd, 1) := by decide +kernel
theorem dX11_turned_79 : decode cX11_turned 79 = .ok (.ireturn, 1) := by decide +kernel
set_option maxRecDepth 20000 in
theorem ggX11_kept_X3_bindTo : GoodIn wsX11_kept wsX3_bindTo := goodIn_r _ [8, 9, 10, 241, 242, 243, 244, 245, 246, 247, 248, 249, 250, 251, 252, 253] (by decide +kernel) (by decide +kernel)
set_option maxRecDepth 20000 in
theorem gX11_kept_X3_bindTo : GoodIn wsX11_kept (wsV RX11 233 RX3 yX3_bindTo wsX3_bindTo) := goodIn_app (goodIn_of _ (by decide +kernel)) ggX11_kept_X3_bindTo
set_option maxRecDepth 20000 in
theorem ggX11_kept_X8_isRule : GoodIn wsX11_kept wsX8_isRule := goodIn_r _ [15, 16, 17, 18, 19, 254, 255, 256, 257, 258, 259] (by decide +kernel) (by decide +kernel)
set_option maxRecDepth 20000 in
theorem gX11_kept_X8_isRule : GoodIn wsX11_kept (wsV RX11 226 RX8 yX8_isRule wsX8_isRule) := goodIn_app (goodIn_of _ (by decide +kernel)) ggX11_kept_X8_isRule
set_option maxRecDepth 20000 in
theorem ggX11_kept_X3_keepsAll : GoodIn wsX11_kept wsX3_keepsAll := goodIn_r _ [23, 24, 25, 26, 27, 28, 29, 30, 31, 32, 33, 34, 35, 36, 12, 13, 14, 15, 16, 17, 18, 19, 37, 38, 39, 40, 41, 42, 43, 44, 45, 46, 47, 48, 49, 50, 51, 52, 53, 54, 55, 56, 57, 58, 59, 60, 61, 62, 63, 64, 65, 66, 67, 68, 69, 7, 70, 71, 72, 73, 74, 75, 76, 77, 78, 79, 80, 81, 82, 83, 84, 85, 86, 9, 87, 88, 89, 90, 91, 92, 93, 94, 95, 96, 97, 98, 99, 100, 101, 102, 103, 104, 105, 106, 107, 108, 109, 110, 111, 112, 113, 114, 115, 116, 117, 118, 119, 120, 121, 122, 123, 124, 125, 126, 127, 128, 129, 130, 131, 132, 133, 134, 135, 136, 137, 138, 139, 140, 141, 142, 143, 144, 145, 146, 147, 148, 149, 150, 151, 152, 153, 154, 155, 156, 157, 158, 159, 160, 161, 162, 163, 164, 165, 166, 167, 168, 169, 170, 171, 172, 173, 174, 175, 176, 177, 178, 179, 180, 181, 182, 183, 184, 185, 186, 187, 188, 189, 190, 191, 192, 193, 194, 195, 196, 197, 198, 199, 200, 201, 202, 203, 204, 205, 206, 207, 208, 209, 210, 211, 212, 213, 214, 215, 216, 217, 218, 241, 242, 243, 244, 254, 255, 256, 257, 258, 259, 260, 261, 262, 263, 264, 265, 266, 267, 268, 269, 270, 271, 272, 273, 274, 275, 276, 277, 278, 279, 280, 281, 282, 283, 284, 285, 286, 287, 288, 289, 290, 291, 292, 293, 245, 246, 247, 248, 249, 250, 251, 252, 253, 294, 295, 296, 297, 298] (by decide +kernel) (by decide +kernel)
set_option maxRecDepth 20000 in
theorem gX11_kept_X3_keepsAll : GoodIn wsX11_kept (wsV RX11 310 RX3 yX3_keepsAll wsX3_keepsAll) := goodIn_app (goodIn_of _ (by decide +kernel)) ggX11_kept_X3_keepsAll
set_option maxRecDepth 20000 in
theorem ggX11_kept_X3_keptRules : GoodIn wsX11_kept wsX3_keptRules := goodIn_r _ [222, 24, 223, 224, 21, 22, 7, 23, 25, 26, 27, 28, 29, 30, 31, 32, 33, 34, 35, 36, 12, 13, 14, 15, 16, 17, 18, 19, 37, 38, 39, 40, 41, 42, 43, 44, 45, 46, 47, 48, 49, 50, 51, 52, 53, 54, 55, 56, 57, 58, 59, 60, 61, 62, 63, 64, 65, 66, 67, 68, 69, 70, 71, 72, 73, 74, 75, 76, 77, 78, 79, 80, 81, 82, 83, 84, 85, 86, 9, 87, 88, 89, 90, 91, 92, 93, 94, 95, 96, 97, 98, 99, 100, 101, 102, 103, 104, 105, 106, 107, 108, 109, 110, 111, 112, 113, 114, 115, 116, 117, 118, 119, 120, 121, 122, 123, 124, 125, 126, 127, 128, 129, 130, 131, 132, 133, 134, 135, 136, 137, 138, 139, 140, 141, 142, 143, 144, 145, 146, 147, 148, 149, 150, 151, 152, 153, 154, 155, 156, 157, 158, 159, 160, 161, 162, 163, 164, 165, 166, 167, 168, 169, 170, 171, 172, 173, 174, 175, 176, 177, 178, 179, 180, 181, 182, 183, 184, 185, 186, 187, 188, 189, 190, 191, 192, 193, 194, 195, 196, 197, 198, 199, 200, 201, 202, 203, 204, 205, 206, 207, 208, 209, 210, 211, 212, 213, 214, 215, 216, 217, 218, 241, 242, 243, 244, 254, 255, 256, 257, 258, 259, 260, 261, 262, 263, 264, 265, 266, 267, 268, 269, 270, 271, 272, 273, 274, 275, 276, 277, 278, 279, 280, 281, 282, 283, 284, 285, 286, 287, 288, 289, 290, 291, 292, 293, 245, 246, 247, 248, 249, 250, 251, 252, 253, 294, 295, 296, 297, 298] (by decide +kernel) (by decide +kernel)
set_option maxRecDepth 20000 in
theorem gX11_kept_X3_keptRules : GoodIn wsX11_kept (wsV RX11 313 RX3 yX3_keptRules wsX3_keptRules) := goodIn_app (goodIn_of _ (by decide +kernel)) ggX11_kept_X3_keptRules
set_option maxRecDepth 20000 in
theorem ggX11_kept_J6_bitCount_0f7a4 : GoodIn wsX11_kept wsJ6_bitCount_0f7a4 := goodIn_r _ [228, 229, 230, 231] (by decide +kernel) (by decide +kernel)
set_option maxRecDepth 20000 in
theorem gX11_kept_J6_bitCount_0f7a4 : GoodIn wsX11_kept (va_wsS RX11 316 yJ6_bitCount_0f7a4 wsJ6_bitCount_0f7a4) := goodIn_app (goodIn_of _ (by decide +kernel)) ggX11_kept_J6_bitCount_0f7a4
theorem dX11_kept_0 : decode cX11_kept 0 = .ok (.aload_n 0, 1) := by decide +kernel
theorem dX11_kept_1 : decode cX11_kept 1 = .ok (.getfield 39, 3) := by decide +kernel
theorem dX11_kept_4 : decode cX11_kept 4 = .ok (.ldc 232, 2) := by decide +kernel
theorem dX11_kept_6 : decode cX11_kept 6 = .ok (.invokevirtual 233, 3) := by decide +kernel
theorem dX11_kept_9 : decode cX11_kept 9 = .ok (.aload_n 0, 1) := by decide +kernel
theorem dX11_kept_10 : decode cX11_kept 10 = .ok (.getfield 14, 3) := by decide +kernel
theorem dX11_kept_13 : decode cX11_kept 13 = .ok (.iload_n 1, 1) := by decide +kernel
theorem dX11_kept_14 : decode cX11_kept 14 = .ok (.invokevirtual 226, 3) := by decide +kernel
theorem dX11_kept_17 : decode cX11_kept 17 = .ok (.ifCond .eq 20, 3) := by decide +kernel
theorem dX11_kept_20 : decode cX11_kept 20 = .ok (.aload_n 0, 1) := by decide +kernel
theorem dX11_kept_21 : decode cX11_kept 21 = .ok (.getfield 39, 3) := by decide +kernel
theorem dX11_kept_24 : decode cX11_kept 24 = .ok (.iload_n 1, 1) := by decide +kernel
theorem dX11_kept_25 : decode cX11_kept 25 = .ok (.invokevirtual 310, 3) := by decide +kernel
theorem dX11_kept_28 : decode cX11_kept 28 = .ok (.ifCond .eq 7, 3) := by decide +kernel
theorem dX11_kept_31 : decode cX11_kept 31 = .ok (.iconst 1, 1) := by decide +kernel
theorem dX11_kept_32 : decode cX11_kept 32 = .ok (.goto 4, 3) := by decide +kernel
theorem dX11_kept_35 : decode cX11_kept 35 = .ok (.iconst 0, 1) := by decide +kernel
theorem dX11_kept_36 : decode cX11_kept 36 = .ok (.ireturn, 1) := by decide +kernel
theorem dX11_kept_37 : decode cX11_kept 37 = .ok (.iload_n 1, 1) := by decide +kernel
theorem dX11_kept_38 : decode cX11_kept 38 = .ok (.iconst (-1), 1) := by decide +kernel
theorem dX11_kept_39 : decode cX11_kept 39 = .ok (.if_icmp .ne 16, 3) := by decide +kernel
theorem dX11_kept_42 : decode cX11_kept 42 = .ok (.aload_n 0, 1) := by decide +kernel
theorem dX11_kept_43 : decode cX11_kept 43 = .ok (.getfield 39, 3) := by decide +kernel
theorem dX11_kept_46 : decode cX11_kept 46 = .ok (.invokevirtual 313, 3) := by decide +kernel
theorem dX11_kept_49 : decode cX11_kept 49 = .ok (.invokestatic 316, 3) := by decide +kernel
theorem dX11_kept_52 : decode cX11_kept 52 = .ok (.goto 4, 3) := by decide +kernel
theorem dX11_kept_55 : decode cX11_kept 55 = .ok (.iconst (-1), 1) := by decide +kernel
theorem dX11_kept_56 : decode cX11_kept 56 = .ok (.ireturn, 1) := by decide +kernel
set_option maxRecDepth 20000 in
theorem ggX11_parts_X11_isWithin : GoodIn wsX11_parts wsX11_isWithin := goodIn_r _ [10] (by decide +kernel) (by decide +kernel)
set_option maxRecDepth 20000 in
theorem gX11_parts_X11_isWithin : GoodIn wsX11_parts (va_wsS RX11 63 yX11_isWithin wsX11_isWithin) := goodIn_app (goodIn_of _ (by decide +kernel)) ggX11_parts_X11_isWithin
set_option maxRecDepth 20000 in
theorem ggX11_parts_X3_bindTo : GoodIn wsX11_parts wsX3_bindTo := goodIn_r _ [15, 16, 17, 263, 264, 265, 266, 267, 268, 269, 270, 271, 272, 273, 274, 275] (by decide +kernel) (by decide +kernel)
set_option maxRecDepth 20000 in
theorem gX11_parts_X3_bindTo : GoodIn wsX11_parts (wsV RX11 233 RX3 yX3_bindTo wsX3_bindTo) := goodIn_app (goodIn_of _ (by decide +kernel)) ggX11_parts_X3_bindTo
set_option maxRecDepth 20000 in
theorem ggX11_parts_X3_keptRules : GoodIn wsX11_parts wsX3_keptRules := goodIn_r _ [21, 22, 23, 24, 25, 26, 14, 27, 28, 29, 30, 31, 32, 33, 34, 35, 36, 37, 38, 39, 40, 41, 42, 43, 44, 8, 9, 10, 45, 46, 47, 48, 49, 50, 51, 52, 53, 54, 55, 56, 57, 58, 59, 60, 61, 62, 63, 64, 65, 66, 67, 68, 69, 70, 71, 72, 73, 74, 75, 76, 77, 78, 79, 80, 81, 82, 83, 84, 85, 86, 87, 88, 89, 90, 91, 92, 93, 94, 16, 95, 96, 97, 98, 99, 100, 101, 102, 103, 104, 105, 106, 107, 108, 109, 110, 111, 112, 113, 114, 115, 116, 117, 118, 119, 120, 121, 122, 123, 124, 125, 126, 127, 128, 129, 130, 131, 132, 133, 134, 135, 136, 137, 138, 139, 140, 141, 142, 143, 144, 145, 146, 147, 148, 149, 150, 151, 152, 153, 154, 155, 156, 157, 158, 159, 160, 161, 162, 163, 164, 165, 166, 167, 168, 169, 170, 171, 172, 173, 174, 175, 176, 177, 178, 179, 180, 181, 182, 183, 184, 185, 186, 187, 188, 189, 190, 191, 192, 193, 194, 195, 196, 197, 198, 199, 200, 201, 202, 203, 204, 205, 206, 207, 208, 209, 210, 211, 212, 213, 214, 215, 216, 217, 218, 219, 220, 221, 222, 223, 224, 225, 226, 263, 264, 265, 266, 248, 249, 250, 251, 252, 253, 276, 277, 278, 279, 280, 281, 282, 283, 284, 285, 286, 287, 288, 289, 290, 291, 292, 293, 254, 255, 256, 257, 258, 259, 260, 261, 262, 294, 295, 296, 297, 298, 299, 300, 267, 268, 269, 270, 271, 272, 273, 274, 275, 301, 302, 303, 304, 305] (by decide +kernel) (by decide +kernel)
set_option maxRecDepth 20000 in
theorem gX11_parts_X3_keptRules : GoodIn wsX11_parts (wsV RX11 313 RX3 yX3_keptRules wsX3_keptRules) := goodIn_app (goodIn_of _ (by decide +kernel)) ggX11_parts_X3_keptRules
set_option maxRecDepth 20000 in
theorem ggX11_parts_X10_isFree : GoodIn wsX11_parts wsX10_isFree := goodIn_r _ [49, 50, 51, 52, 53, 48, 54, 55, 8, 9, 10, 56, 57, 58, 59, 60, 61, 62, 63, 64, 65, 66, 67, 68, 69, 70, 71, 72, 73, 74, 254, 255, 256, 257, 258, 259, 260, 261, 262] (by decide +kernel) (by decide +kernel)
set_option maxRecDepth 20000 in
theorem gX11_parts_X10_isFree : GoodIn wsX11_parts (wsV RX11 229 RX10 yX10_isFree wsX10_isFree) := goodIn_app (goodIn_of _ (by decide +kernel)) ggX11_parts_X10_isFree
set_option maxRecDepth 20000 in
theorem ggX11_parts_X3_unlikeTurns : GoodIn wsX11_parts wsX3_unlikeTurns := goodIn_r _ [231, 33, 22, 23, 16, 37, 96, 97, 75, 76, 77, 14, 78, 79, 36, 80, 81, 82, 83, 84, 85, 86, 87, 88, 89, 90, 99, 100, 101, 102, 103, 104, 105, 106, 107, 108, 109, 110, 111, 112, 113, 114, 115, 116, 117, 118, 119, 120, 121, 122, 123, 124, 64, 65, 48, 66, 67, 68, 69, 70, 50, 55, 125, 126, 127, 128, 129, 130, 131, 132, 133, 134, 135, 136, 137, 138, 139, 140, 141, 142, 143, 144, 145, 146, 147, 148, 149, 150, 151, 152, 153, 154, 155, 156, 157, 158, 159, 160, 161, 162, 163, 8, 9, 10, 164, 165, 166, 167, 168, 169, 170, 171, 172, 173, 174, 175, 176, 177, 178, 179, 180, 181, 182, 183, 184, 185, 186, 187, 188, 189, 190, 191, 192, 193, 194, 195, 196, 197, 198, 199, 200, 201, 202, 203, 204, 205, 206, 207, 208, 209, 232, 233, 234, 235, 236, 237, 238, 263, 264, 265, 266, 248, 249, 250, 251, 252, 253, 267, 268, 269, 270, 271, 272, 273, 274, 275, 282, 283, 284, 285, 286, 287, 288, 289, 290, 291, 292, 293, 294, 295, 296, 297, 298, 299, 300, 301, 302, 303, 304, 305, 254, 255, 256, 257, 258, 259, 260, 261, 262] (by decide +kernel) (by decide +kernel)
set_option maxRecDepth 20000 in
theorem gX11_parts_X3_unlikeTurns : GoodIn wsX11_parts (wsV RX11 321 RX3 yX3_unlikeTurns wsX3_unlikeTurns) := goodIn_app (goodIn_of _ (by decide +kernel)) ggX11_parts_X3_unlikeTurns
theorem dX11_parts_0 : decode cX11_parts 0 = .ok (.aload_n 0, 1) := by decide +kernel
theorem dX11_parts_1 : decode cX11_parts 1 = .ok (.getfield 14, 3) := by decide +kernel
theorem dX11_parts_4 : decode cX11_parts 4 = .ok (.getfield 23, 3) := by decide +kernel
theorem dX11_parts_7 : decode cX11_parts 7 = .ok (.astore_n 3, 1) := by decide +kernel
theorem dX11_parts_8 : decode cX11_parts 8 = .ok (.iload_n 1, 1) := by decide +kernel
theorem dX11_parts_9 : decode cX11_parts 9 = .ok (.iconst 0, 1) := by decide +kernel
theorem dX11_parts_10 : decode cX11_parts 10 = .ok (.aload_n 3, 1) := by decide +kernel
theorem dX11_parts_11 : decode cX11_parts 11 = .ok (.getfield 184, 3) := by decide +kernel
theorem dX11_parts_14 : decode cX11_parts 14 = .ok (.iconst 1, 1) := by decide +kernel
theorem dX11_parts_15 : decode cX11_parts 15 = .ok (.isub, 1) := by decide +kernel
theorem dX11_parts_16 : decode cX11_parts 16 = .ok (.invokestatic 63, 3) := by decide +kernel
theorem dX11_parts_19 : decode cX11_parts 19 = .ok (.ifCond .eq 12, 3) := by decide +kernel
theorem dX11_parts_22 : decode cX11_parts 22 = .ok (.iload_n 2, 1) := by decide +kernel
theorem dX11_parts_23 : decode cX11_parts 23 = .ok (.iconst 0, 1) := by decide +kernel
theorem dX11_parts_24 : decode cX11_parts 24 = .ok (.iconst 2, 1) := by decide +kernel
theorem dX11_parts_25 : decode cX11_parts 25 = .ok (.invokestatic 63, 3) := by decide +kernel
theorem dX11_parts_28 : decode cX11_parts 28 = .ok (.ifCond .ne 5, 3) := by decide +kernel
theorem dX11_parts_31 : decode cX11_parts 31 = .ok (.iconst (-1), 1) := by decide +kernel
theorem dX11_parts_32 : decode cX11_parts 32 = .ok (.ireturn, 1) := by decide +kernel
theorem dX11_parts_33 : decode cX11_parts 33 = .ok (.aload_n 0, 1) := by decide +kernel
theorem dX11_parts_34 : decode cX11_parts 34 = .ok (.getfield 39, 3) := by decide +kernel
theorem dX11_parts_37 : decode cX11_parts 37 = .ok (.ldc 232, 2) := by decide +kernel
theorem dX11_parts_39 : decode cX11_parts 39 = .ok (.invokevirtual 233, 3) := by decide +kernel
theorem dX11_parts_42 : decode cX11_parts 42 = .ok (.aload_n 0, 1) := by decide +kernel
theorem dX11_parts_43 : decode cX11_parts 43 = .ok (.getfield 39, 3) := by decide +kernel
theorem dX11_parts_46 : decode cX11_parts 46 = .ok (.invokevirtual 313, 3) := by decide +kernel
theorem dX11_parts_49 : decode cX11_parts 49 = .ok (.istore 4, 2) := by decide +kernel
theorem dX11_parts_51 : decode cX11_parts 51 = .ok (.iconst 1, 1) := by decide +kernel
theorem dX11_parts_52 : decode cX11_parts 52 = .ok (.istore 5, 2) := by decide +kernel
theorem dX11_parts_54 : decode cX11_parts 54 = .ok (.iconst (-1), 1) := by decide +kernel
theorem dX11_parts_55 : decode cX11_parts 55 = .ok (.istore 6, 2) := by decide +kernel
theorem dX11_parts_57 : decode cX11_parts 57 = .ok (.iconst (-1), 1) := by decide +kernel
theorem dX11_parts_58 : decode cX11_parts 58 = .ok (.istore 7, 2) := by decide +kernel
theorem dX11_parts_60 : decode cX11_parts 60 = .ok (.iload_n 1, 1) := by decide +kernel
theorem dX11_parts_61 : decode cX11_parts 61 = .ok (.bipush 16, 2) := by decide +kernel
theorem dX11_parts_63 : decode cX11_parts 63 = .ok (.imul, 1) := by decide +kernel
theorem dX11_parts_64 : decode cX11_parts 64 = .ok (.bipush 8, 2) := by decide +kernel
theorem dX11_parts_66 : decode cX11_parts 66 = .ok (.iadd, 1) := by decide +kernel
theorem dX11_parts_67 : decode cX11_parts 67 = .ok (.istore 8, 2) := by decide +kernel
theorem dX11_parts_69 : decode cX11_parts 69 = .ok (.bipush 8, 2) := by decide +kernel
theorem dX11_parts_71 : decode cX11_parts 71 = .ok (.istore 9, 2) := by decide +kernel
theorem dX11_parts_73 : decode cX11_parts 73 = .ok (.iload 9, 2) := by decide +kernel
theorem dX11_parts_75 : decode cX11_parts 75 = .ok (.aload_n 3, 1) := by decide +kernel
theorem dX11_parts_76 : decode cX11_parts 76 = .ok (.getfield 84, 3) := by decide +kernel
theorem dX11_parts_79 : decode cX11_parts 79 = .ok (.bipush 16, 2) := by decide +kernel
theorem dX11_parts_81 : decode cX11_parts 81 = .ok (.imul, 1) := by decide +kernel
theorem dX11_parts_82 : decode cX11_parts 82 = .ok (.if_icmp .ge 73, 3) := by decide +kernel
theorem dX11_parts_85 : decode cX11_parts 85 = .ok (.iconst 0, 1) := by decide +kernel
theorem dX11_parts_86 : decode cX11_parts 86 = .ok (.istore 10, 2) := by decide +kernel
theorem dX11_parts_88 : decode cX11_parts 88 = .ok (.iload 10, 2) := by decide +kernel
theorem dX11_parts_90 : decode cX11_parts 90 = .ok (.bipush 64, 2) := by decide +kernel
theorem dX11_parts_92 : decode cX11_parts 92 = .ok (.if_icmp .ge 57, 3) := by decide +kernel
theorem dX11_parts_95 : decode cX11_parts 95 = .ok (.aload_n 3, 1) := by decide +kernel
theorem dX11_parts_96 : decode cX11_parts 96 = .ok (.iload 9, 2) := by decide +kernel
theorem dX11_parts_98 : decode cX11_parts 98 = .ok (.iload 8, 2) := by decide +kernel
theorem dX11_parts_100 : decode cX11_parts 100 = .ok (.iconst 0, 1) := by decide +kernel
theorem dX11_parts_101 : decode cX11_parts 101 = .ok (.invokevirtual 229, 3) := by decide +kernel
theorem dX11_parts_104 : decode cX11_parts 104 = .ok (.ifCond .eq 45, 3) := by decide +kernel
theorem dX11_parts_107 : decode cX11_parts 107 = .ok (.aload_n 0, 1) := by decide +kernel
theorem dX11_parts_108 : decode cX11_parts 108 = .ok (.getfield 39, 3) := by decide +kernel
theorem dX11_parts_111 : decode cX11_parts 111 = .ok (.iload 4, 2) := by decide +kernel
theorem dX11_parts_113 : decode cX11_parts 113 = .ok (.iload 9, 2) := by decide +kernel
theorem dX11_parts_115 : decode cX11_parts 115 = .ok (.iload 8, 2) := by decide +kernel
theorem dX11_parts_117 : decode cX11_parts 117 = .ok (.iload 10, 2) := by decide +kernel
theorem dX11_parts_119 : decode cX11_parts 119 = .ok (.invokevirtual 321, 3) := by decide +kernel
theorem dX11_parts_122 : decode cX11_parts 122 = .ok (.istore 11, 2) := by decide +kernel
theorem dX11_parts_124 : decode cX11_parts 124 = .ok (.iload 11, 2) := by decide +kernel
theorem dX11_parts_126 : decode cX11_parts 126 = .ok (.iload 5, 2) := by decide +kernel
theorem dX11_parts_128 : decode cX11_parts 128 = .ok (.if_icmp .le 15, 3) := by decide +kernel
theorem dX11_parts_131 : decode cX11_parts 131 = .ok (.iload 11, 2) := by decide +kernel
theorem dX11_parts_133 : decode cX11_parts 133 = .ok (.istore 5, 2) := by decide +kernel
theorem dX11_parts_135 : decode cX11_parts 135 = .ok (.iload 9, 2) := by decide +kernel
theorem dX11_parts_137 : decode cX11_parts 137 = .ok (.istore 6, 2) := by decide +kernel
theorem dX11_parts_139 : decode cX11_parts 139 = .ok (.iload 10, 2) := by decide +kernel
theorem dX11_parts_141 : decode cX11_parts 141 = .ok (.istore 7, 2) := by decide +kernel
theorem dX11_parts_143 : decode cX11_parts 143 = .ok (.iinc 10 8, 3) := by decide +kernel
theorem dX11_parts_146 : decode cX11_parts 146 = .ok (.goto (-58), 3) := by decide +kernel
theorem dX11_parts_149 : decode cX11_parts 149 = .ok (.iinc 9 16, 3) := by decide +kernel
theorem dX11_parts_152 : decode cX11_parts 152 = .ok (.goto (-79), 3) := by decide +kernel
theorem dX11_parts_155 : decode cX11_parts 155 = .ok (.iload 6, 2) := by decide +kernel
theorem dX11_parts_157 : decode cX11_parts 157 = .ok (.iconst (-1), 1) := by decide +kernel
theorem dX11_parts_158 : decode cX11_parts 158 = .ok (.if_icmp .eq 7, 3) := by decide +kernel
theorem dX11_parts_161 : decode cX11_parts 161 = .ok (.iload_n 2, 1) := by decide +kernel
theorem dX11_parts_162 : decode cX11_parts 162 = .ok (.ifCond .ne 6, 3) := by decide +kernel
theorem dX11_parts_165 : decode cX11_parts 165 = .ok (.iload 6, 2) := by decide +kernel
theorem dX11_parts_167 : decode cX11_parts 167 = .ok (.ireturn, 1) := by decide +kernel
theorem dX11_parts_168 : decode cX11_parts 168 = .ok (.iload_n 2, 1) := by decide +kernel
theorem dX11_parts_169 : decode cX11_parts 169 = .ok (.iconst 1, 1) := by decide +kernel
theorem dX11_parts_170 : decode cX11_parts 170 = .ok (.if_icmp .ne 8, 3) := by decide +kernel
theorem dX11_parts_173 : decode cX11_parts 173 = .ok (.iload 7, 2) := by decide +kernel
theorem dX11_parts_175 : decode cX11_parts 175 = .ok (.goto 5, 3) := by decide +kernel
theorem dX11_parts_178 : decode cX11_parts 178 = .ok (.iload 5, 2) := by decide +kernel
theorem dX11_parts_180 : decode cX11_parts 180 = .ok (.ireturn, 1) := by decide +kernel
set_option maxRecDepth 20000 in
theorem ggX11_image_X8_copyFrom : GoodIn wsX11_image wsX8_copyFrom := goodIn_r _ [8, 9, 10, 11, 12, 13, 14, 15, 16, 17, 18, 19, 20, 21, 22, 23, 24, 25, 26, 27, 28, 29, 30, 31, 32, 33, 34, 35, 36, 37, 38, 39, 40, 41, 42, 43, 44, 45, 46, 47, 48, 49, 50, 51, 52, 53, 54, 55, 56, 57, 58, 59, 60, 61, 62, 63, 64, 65, 66, 67, 68, 69, 70, 71, 72, 73, 74, 75, 76, 77, 87, 88, 89, 90, 91, 92, 93, 94, 95, 96, 97, 98, 99, 100, 101, 102, 103, 104, 105, 106, 107, 108, 109, 110, 111, 112, 113, 114, 115, 116, 117, 118, 119, 120, 121, 122, 123, 124, 125, 126] (by decide +kernel) (by decide +kernel)
set_option maxRecDepth 20000 in
theorem gX11_image_X8_copyFrom : GoodIn wsX11_image (wsV RX11 325 RX8 yX8_copyFrom wsX8_copyFrom) := goodIn_app (goodIn_of _ (by decide +kernel)) ggX11_image_X8_copyFrom
theorem dX11_image_0 : decode cX11_image 0 = .ok (.aload_n 0, 1) := by decide +kernel
theorem dX11_image_1 : decode cX11_image 1 = .ok (.getfield 18, 3) := by decide +kernel
theorem dX11_image_4 : decode cX11_image 4 = .ok (.aload_n 0, 1) := by decide +kernel
theorem dX11_image_5 : decode cX11_image 5 = .ok (.getfield 14, 3) := by decide +kernel
theorem dX11_image_8 : decode cX11_image 8 = .ok (.invokevirtual 325, 3) := by decide +kernel
theorem dX11_image_11 : decode cX11_image 11 = .ok (.aload_n 0, 1) := by decide +kernel
theorem dX11_image_12 : decode cX11_image 12 = .ok (.getfield 14, 3) := by decide +kernel
theorem dX11_image_15 : decode cX11_image 15 = .ok (.getfield 202, 3) := by decide +kernel
theorem dX11_image_18 : decode cX11_image 18 = .ok (.ireturn, 1) := by decide +kernel
set_option maxRecDepth 20000 in
theorem ggX11_back_X8_copyFrom : GoodIn wsX11_back wsX8_copyFrom := goodIn_r _ [8, 9, 10, 11, 12, 13, 14, 15, 16, 17, 18, 19, 20, 21, 22, 23, 24, 25, 26, 27, 28, 29, 30, 31, 32, 33, 34, 35, 36, 37, 38, 39, 40, 41, 42, 43, 44, 45, 46, 47, 48, 49, 50, 51, 52, 53, 54, 55, 56, 57, 58, 59, 60, 61, 62, 63, 64, 65, 66, 67, 68, 69, 70, 71, 72, 73, 74, 75, 76, 77, 87, 88, 89, 90, 91, 92, 93, 94, 95, 96, 97, 98, 99, 100, 101, 102, 103, 104, 105, 106, 107, 108, 109, 110, 111, 112, 113, 114, 115, 116, 117, 118, 119, 120, 121, 122, 123, 124, 125, 126] (by decide +kernel) (by decide +kernel)
set_option maxRecDepth 20000 in
theorem gX11_back_X8_copyFrom : GoodIn wsX11_back (wsV RX11 325 RX8 yX8_copyFrom wsX8_copyFrom) := goodIn_app (goodIn_of _ (by decide +kernel)) ggX11_back_X8_copyFrom
theorem dX11_back_0 : decode cX11_back 0 = .ok (.aload_n 0, 1) := by decide +kernel
theorem dX11_back_1 : decode cX11_back 1 = .ok (.getfield 14, 3) := by decide +kernel
theorem dX11_back_4 : decode cX11_back 4 = .ok (.aload_n 0, 1) := by decide +kernel
theorem dX11_back_5 : decode cX11_back 5 = .ok (.getfield 18, 3) := by decide +kernel
theorem dX11_back_8 : decode cX11_back 8 = .ok (.invokevirtual 325, 3) := by decide +kernel
theorem dX11_back_11 : decode cX11_back 11 = .ok (.aload_n 0, 1) := by decide +kernel
theorem dX11_back_12 : decode cX11_back 12 = .ok (.getfield 14, 3) := by decide +kernel
theorem dX11_back_15 : decode cX11_back 15 = .ok (.getfield 202, 3) := by decide +kernel
theorem dX11_back_18 : decode cX11_back 18 = .ok (.ireturn, 1) := by decide +kernel
set_option maxRecDepth 20000 in
theorem ggX11_about_X10_countOwnMarks : GoodIn wsX11_about wsX10_countOwnMarks := goodIn_r _ [17, 18, 34, 35, 36, 37, 38, 39, 40, 41, 42] (by decide +kernel) (by decide +kernel)
set_option maxRecDepth 20000 in
theorem gX11_about_X10_countOwnMarks : GoodIn wsX11_about (wsV RX11 329 RX10 yX10_countOwnMarks wsX10_countOwnMarks) := goodIn_app (goodIn_of _ (by decide +kernel)) ggX11_about_X10_countOwnMarks
theorem dX11_about_0 : decode cX11_about 0 = .ok (.iload_n 1, 1) := by decide +kernel
theorem dX11_about_1 : decode cX11_about 1 = .ok (.tableswitch 141 0 8 #[51, 62, 73, 84, 95, 106, 114, 125, 130], 51) := by decide +kernel
theorem dX11_about_52 : decode cX11_about 52 = .ok (.aload_n 0, 1) := by decide +kernel
theorem dX11_about_53 : decode cX11_about 53 = .ok (.getfield 14, 3) := by decide +kernel
theorem dX11_about_56 : decode cX11_about 56 = .ok (.getfield 23, 3) := by decide +kernel
theorem dX11_about_59 : decode cX11_about 59 = .ok (.getfield 84, 3) := by decide +kernel
theorem dX11_about_62 : decode cX11_about 62 = .ok (.ireturn, 1) := by decide +kernel
theorem dX11_about_63 : decode cX11_about 63 = .ok (.aload_n 0, 1) := by decide +kernel
theorem dX11_about_64 : decode cX11_about 64 = .ok (.getfield 14, 3) := by decide +kernel
theorem dX11_about_67 : decode cX11_about 67 = .ok (.getfield 23, 3) := by decide +kernel
theorem dX11_about_70 : decode cX11_about 70 = .ok (.getfield 184, 3) := by decide +kernel
theorem dX11_about_73 : decode cX11_about 73 = .ok (.ireturn, 1) := by decide +kernel
theorem dX11_about_74 : decode cX11_about 74 = .ok (.aload_n 0, 1) := by decide +kernel
theorem dX11_about_75 : decode cX11_about 75 = .ok (.getfield 14, 3) := by decide +kernel
theorem dX11_about_78 : decode cX11_about 78 = .ok (.getfield 23, 3) := by decide +kernel
theorem dX11_about_81 : decode cX11_about 81 = .ok (.getfield 70, 3) := by decide +kernel
theorem dX11_about_84 : decode cX11_about 84 = .ok (.ireturn, 1) := by decide +kernel
theorem dX11_about_85 : decode cX11_about 85 = .ok (.aload_n 0, 1) := by decide +kernel
theorem dX11_about_86 : decode cX11_about 86 = .ok (.getfield 14, 3) := by decide +kernel
theorem dX11_about_89 : decode cX11_about 89 = .ok (.getfield 103, 3) := by decide +kernel
theorem dX11_about_92 : decode cX11_about 92 = .ok (.getfield 110, 3) := by decide +kernel
theorem dX11_about_95 : decode cX11_about 95 = .ok (.ireturn, 1) := by decide +kernel
theorem dX11_about_96 : decode cX11_about 96 = .ok (.aload_n 0, 1) := by decide +kernel
theorem dX11_about_97 : decode cX11_about 97 = .ok (.getfield 14, 3) := by decide +kernel
theorem dX11_about_100 : decode cX11_about 100 = .ok (.getfield 103, 3) := by decide +kernel
theorem dX11_about_103 : decode cX11_about 103 = .ok (.getfield 124, 3) := by decide +kernel
theorem dX11_about_106 : decode cX11_about 106 = .ok (.ireturn, 1) := by decide +kernel
theorem dX11_about_107 : decode cX11_about 107 = .ok (.aload_n 0, 1) := by decide +kernel
theorem dX11_about_108 : decode cX11_about 108 = .ok (.getfield 14, 3) := by decide +kernel
theorem dX11_about_111 : decode cX11_about 111 = .ok (.getfield 202, 3) := by decide +kernel
theorem dX11_about_114 : decode cX11_about 114 = .ok (.ireturn, 1) := by decide +kernel
theorem dX11_about_115 : decode cX11_about 115 = .ok (.aload_n 0, 1) := by decide +kernel
theorem dX11_about_116 : decode cX11_about 116 = .ok (.getfield 14, 3) := by decide +kernel
theorem dX11_about_119 : decode cX11_about 119 = .ok (.getfield 291, 3) := by decide +kernel
theorem dX11_about_122 : decode cX11_about 122 = .ok (.getfield 295, 3) := by decide +kernel
theorem dX11_about_125 : decode cX11_about 125 = .ok (.ireturn, 1) := by decide +kernel
theorem dX11_about_126 : decode cX11_about 126 = .ok (.aload_n 0, 1) := by decide +kernel
theorem dX11_about_127 : decode cX11_about 127 = .ok (.getfield 195, 3) := by decide +kernel
theorem dX11_about_130 : decode cX11_about 130 = .ok (.ireturn, 1) := by decide +kernel
theorem dX11_about_131 : decode cX11_about 131 = .ok (.aload_n 0, 1) := by decide +kernel
theorem dX11_about_132 : decode cX11_about 132 = .ok (.getfield 14, 3) := by decide +kernel
theorem dX11_about_135 : decode cX11_about 135 = .ok (.getfield 23, 3) := by decide +kernel
theorem dX11_about_138 : decode cX11_about 138 = .ok (.invokevirtual 329, 3) := by decide +kernel
theorem dX11_about_141 : decode cX11_about 141 = .ok (.ireturn, 1) := by decide +kernel
theorem dX11_about_142 : decode cX11_about 142 = .ok (.iconst (-1), 1) := by decide +kernel
theorem dX11_about_143 : decode cX11_about 143 = .ok (.ireturn, 1) := by decide +kernel
theorem dX11_putBytes_0 : decode cX11_putBytes 0 = .ok (.bipush 24, 2) := by decide +kernel
theorem dX11_putBytes_2 : decode cX11_putBytes 2 = .ok (.istore_n 2, 1) := by decide +kernel
theorem dX11_putBytes_3 : decode cX11_putBytes 3 = .ok (.iload_n 2, 1) := by decide +kernel
theorem dX11_putBytes_4 : decode cX11_putBytes 4 = .ok (.ifCond .lt 47, 3) := by decide +kernel
theorem dX11_putBytes_7 : decode cX11_putBytes 7 = .ok (.aload_n 0, 1) := by decide +kernel
theorem dX11_putBytes_8 : decode cX11_putBytes 8 = .ok (.getfield 195, 3) := by decide +kernel
theorem dX11_putBytes_11 : decode cX11_putBytes 11 = .ok (.aload_n 0, 1) := by decide +kernel
theorem dX11_putBytes_12 : decode cX11_putBytes 12 = .ok (.getfield 50, 3) := by decide +kernel
theorem dX11_putBytes_15 : decode cX11_putBytes 15 = .ok (.arraylength, 1) := by decide +kernel
theorem dX11_putBytes_16 : decode cX11_putBytes 16 = .ok (.if_icmp .ge 35, 3) := by decide +kernel
theorem dX11_putBytes_19 : decode cX11_putBytes 19 = .ok (.aload_n 0, 1) := by decide +kernel
theorem dX11_putBytes_20 : decode cX11_putBytes 20 = .ok (.getfield 50, 3) := by decide +kernel
theorem dX11_putBytes_23 : decode cX11_putBytes 23 = .ok (.aload_n 0, 1) := by decide +kernel
theorem dX11_putBytes_24 : decode cX11_putBytes 24 = .ok (.getfield 195, 3) := by decide +kernel
theorem dX11_putBytes_27 : decode cX11_putBytes 27 = .ok (.iload_n 1, 1) := by decide +kernel
theorem dX11_putBytes_28 : decode cX11_putBytes 28 = .ok (.iload_n 2, 1) := by decide +kernel
theorem dX11_putBytes_29 : decode cX11_putBytes 29 = .ok (.iushr, 1) := by decide +kernel
theorem dX11_putBytes_30 : decode cX11_putBytes 30 = .ok (.sipush 255, 3) := by decide +kernel
theorem dX11_putBytes_33 : decode cX11_putBytes 33 = .ok (.iand, 1) := by decide +kernel
theorem dX11_putBytes_34 : decode cX11_putBytes 34 = .ok (.iastore, 1) := by decide +kernel
theorem dX11_putBytes_35 : decode cX11_putBytes 35 = .ok (.aload_n 0, 1) := by decide +kernel
theorem dX11_putBytes_36 : decode cX11_putBytes 36 = .ok (.dup, 1) := by decide +kernel
theorem dX11_putBytes_37 : decode cX11_putBytes 37 = .ok (.getfield 195, 3) := by decide +kernel
theorem dX11_putBytes_40 : decode cX11_putBytes 40 = .ok (.iconst 1, 1) := by decide +kernel
theorem dX11_putBytes_41 : decode cX11_putBytes 41 = .ok (.iadd, 1) := by decide +kernel
theorem dX11_putBytes_42 : decode cX11_putBytes 42 = .ok (.putfield 195, 3) := by decide +kernel
theorem dX11_putBytes_45 : decode cX11_putBytes 45 = .ok (.iinc 2 (-8), 3) := by decide +kernel
theorem dX11_putBytes_48 : decode cX11_putBytes 48 = .ok (.goto (-45), 3) := by decide +kernel
theorem dX11_putBytes_51 : decode cX11_putBytes 51 = .ok (.return_, 1) := by decide +kernel
set_option maxRecDepth 20000 in
theorem ggX11_fillTakes_X7_weigh : GoodIn wsX11_fillTakes wsX7_weigh := goodIn_r _ [11, 12, 13, 14, 15, 16, 17, 18, 19, 10, 20, 21, 22, 23, 24, 25, 26, 27, 28, 29, 30, 53, 54, 55, 56, 57, 58, 59, 60, 61, 62, 63, 64, 65, 66] (by decide +kernel) (by decide +kernel)
set_option maxRecDepth 20000 in
theorem gX11_fillTakes_X7_weigh : GoodIn wsX11_fillTakes (wsV RX11 150 RX7 yX7_weigh wsX7_weigh) := goodIn_app (goodIn_of _ (by decide +kernel)) ggX11_fillTakes_X7_weigh
theorem dX11_fillTakes_0 : decode cX11_fillTakes 0 = .ok (.aload_n 0, 1) := by decide +kernel
theorem dX11_fillTakes_1 : decode cX11_fillTakes 1 = .ok (.getfield 14, 3) := by decide +kernel
theorem dX11_fillTakes_4 : decode cX11_fillTakes 4 = .ok (.getfield 103, 3) := by decide +kernel
theorem dX11_fillTakes_7 : decode cX11_fillTakes 7 = .ok (.astore_n 3, 1) := by decide +kernel
theorem dX11_fillTakes_8 : decode cX11_fillTakes 8 = .ok (.iconst 0, 1) := by decide +kernel
theorem dX11_fillTakes_9 : decode cX11_fillTakes 9 = .ok (.istore 4, 2) := by decide +kernel
theorem dX11_fillTakes_11 : decode cX11_fillTakes 11 = .ok (.iload 4, 2) := by decide +kernel
theorem dX11_fillTakes_13 : decode cX11_fillTakes 13 = .ok (.aload_n 3, 1) := by decide +kernel
theorem dX11_fillTakes_14 : decode cX11_fillTakes 14 = .ok (.getfield 110, 3) := by decide +kernel
theorem dX11_fillTakes_17 : decode cX11_fillTakes 17 = .ok (.if_icmp .ge 42, 3) := by decide +kernel
theorem dX11_fillTakes_20 : decode cX11_fillTakes 20 = .ok (.iload 4, 2) := by decide +kernel
theorem dX11_fillTakes_22 : decode cX11_fillTakes 22 = .ok (.aload_n 1, 1) := by decide +kernel
theorem dX11_fillTakes_23 : decode cX11_fillTakes 23 = .ok (.arraylength, 1) := by decide +kernel
theorem dX11_fillTakes_24 : decode cX11_fillTakes 24 = .ok (.if_icmp .ge 35, 3) := by decide +kernel
theorem dX11_fillTakes_27 : decode cX11_fillTakes 27 = .ok (.aload_n 1, 1) := by decide +kernel
theorem dX11_fillTakes_28 : decode cX11_fillTakes 28 = .ok (.iload 4, 2) := by decide +kernel
theorem dX11_fillTakes_30 : decode cX11_fillTakes 30 = .ok (.aload_n 0, 1) := by decide +kernel
theorem dX11_fillTakes_31 : decode cX11_fillTakes 31 = .ok (.getfield 30, 3) := by decide +kernel
theorem dX11_fillTakes_34 : decode cX11_fillTakes 34 = .ok (.aload_n 3, 1) := by decide +kernel
theorem dX11_fillTakes_35 : decode cX11_fillTakes 35 = .ok (.getfield 115, 3) := by decide +kernel
theorem dX11_fillTakes_38 : decode cX11_fillTakes 38 = .ok (.iload 4, 2) := by decide +kernel
theorem dX11_fillTakes_40 : decode cX11_fillTakes 40 = .ok (.iaload, 1) := by decide +kernel
theorem dX11_fillTakes_41 : decode cX11_fillTakes 41 = .ok (.aload_n 3, 1) := by decide +kernel
theorem dX11_fillTakes_42 : decode cX11_fillTakes 42 = .ok (.getfield 118, 3) := by decide +kernel
theorem dX11_fillTakes_45 : decode cX11_fillTakes 45 = .ok (.iload 4, 2) := by decide +kernel
theorem dX11_fillTakes_47 : decode cX11_fillTakes 47 = .ok (.iaload, 1) := by decide +kernel
theorem dX11_fillTakes_48 : decode cX11_fillTakes 48 = .ok (.iload_n 2, 1) := by decide +kernel
theorem dX11_fillTakes_49 : decode cX11_fillTakes 49 = .ok (.invokevirtual 150, 3) := by decide +kernel
theorem dX11_fillTakes_52 : decode cX11_fillTakes 52 = .ok (.iastore, 1) := by decide +kernel
theorem dX11_fillTakes_53 : decode cX11_fillTakes 53 = .ok (.iinc 4 1, 3) := by decide +kernel
theorem dX11_fillTakes_56 : decode cX11_fillTakes 56 = .ok (.goto (-45), 3) := by decide +kernel
theorem dX11_fillTakes_59 : decode cX11_fillTakes 59 = .ok (.return_, 1) := by decide +kernel
set_option maxRecDepth 20000 in
theorem ggX11_hasTakes_X7_weigh : GoodIn wsX11_hasTakes wsX7_weigh := goodIn_r _ [11, 12, 13, 14, 15, 16, 17, 18, 19, 10, 20, 21, 22, 23, 24, 25, 26, 27, 28, 29, 30, 53, 54, 55, 56, 57, 58, 59, 60, 61, 62, 63, 64, 65, 66] (by decide +kernel) (by decide +kernel)
set_option maxRecDepth 20000 in
theorem gX11_hasTakes_X7_weigh : GoodIn wsX11_hasTakes (wsV RX11 150 RX7 yX7_weigh wsX7_weigh) := goodIn_app (goodIn_of _ (by decide +kernel)) ggX11_hasTakes_X7_weigh
theorem dX11_hasTakes_0 : decode cX11_hasTakes 0 = .ok (.aload_n 0, 1) := by decide +kernel
theorem dX11_hasTakes_1 : decode cX11_hasTakes 1 = .ok (.getfield 14, 3) := by decide +kernel
theorem dX11_hasTakes_4 : decode cX11_hasTakes 4 = .ok (.getfield 103, 3) := by decide +kernel
theorem dX11_hasTakes_7 : decode cX11_hasTakes 7 = .ok (.astore_n 3, 1) := by decide +kernel
theorem dX11_hasTakes_8 : decode cX11_hasTakes 8 = .ok (.iconst 0, 1) := by decide +kernel
theorem dX11_hasTakes_9 : decode cX11_hasTakes 9 = .ok (.istore 4, 2) := by decide +kernel
theorem dX11_hasTakes_11 : decode cX11_hasTakes 11 = .ok (.iload 4, 2) := by decide +kernel
theorem dX11_hasTakes_13 : decode cX11_hasTakes 13 = .ok (.aload_n 3, 1) := by decide +kernel
theorem dX11_hasTakes_14 : decode cX11_hasTakes 14 = .ok (.getfield 110, 3) := by decide +kernel
theorem dX11_hasTakes_17 : decode cX11_hasTakes 17 = .ok (.if_icmp .ge 47, 3) := by decide +kernel
theorem dX11_hasTakes_20 : decode cX11_hasTakes 20 = .ok (.iload 4, 2) := by decide +kernel
theorem dX11_hasTakes_22 : decode cX11_hasTakes 22 = .ok (.aload_n 1, 1) := by decide +kernel
theorem dX11_hasTakes_23 : decode cX11_hasTakes 23 = .ok (.arraylength, 1) := by decide +kernel
theorem dX11_hasTakes_24 : decode cX11_hasTakes 24 = .ok (.if_icmp .ge 40, 3) := by decide +kernel
theorem dX11_hasTakes_27 : decode cX11_hasTakes 27 = .ok (.aload_n 1, 1) := by decide +kernel
theorem dX11_hasTakes_28 : decode cX11_hasTakes 28 = .ok (.iload 4, 2) := by decide +kernel
theorem dX11_hasTakes_30 : decode cX11_hasTakes 30 = .ok (.iaload, 1) := by decide +kernel
theorem dX11_hasTakes_31 : decode cX11_hasTakes 31 = .ok (.aload_n 0, 1) := by decide +kernel
theorem dX11_hasTakes_32 : decode cX11_hasTakes 32 = .ok (.getfield 30, 3) := by decide +kernel
theorem dX11_hasTakes_35 : decode cX11_hasTakes 35 = .ok (.aload_n 3, 1) := by decide +kernel
theorem dX11_hasTakes_36 : decode cX11_hasTakes 36 = .ok (.getfield 115, 3) := by decide +kernel
theorem dX11_hasTakes_39 : decode cX11_hasTakes 39 = .ok (.iload 4, 2) := by decide +kernel
theorem dX11_hasTakes_41 : decode cX11_hasTakes 41 = .ok (.iaload, 1) := by decide +kernel
theorem dX11_hasTakes_42 : decode cX11_hasTakes 42 = .ok (.aload_n 3, 1) := by decide +kernel
theorem dX11_hasTakes_43 : decode cX11_hasTakes 43 = .ok (.getfield 118, 3) := by decide +kernel
theorem dX11_hasTakes_46 : decode cX11_hasTakes 46 = .ok (.iload 4, 2) := by decide +kernel
theorem dX11_hasTakes_48 : decode cX11_hasTakes 48 = .ok (.iaload, 1) := by decide +kernel
theorem dX11_hasTakes_49 : decode cX11_hasTakes 49 = .ok (.iload_n 2, 1) := by decide +kernel
theorem dX11_hasTakes_50 : decode cX11_hasTakes 50 = .ok (.invokevirtual 150, 3) := by decide +kernel
theorem dX11_hasTakes_53 : decode cX11_hasTakes 53 = .ok (.if_icmp .eq 5, 3) := by decide +kernel
theorem dX11_hasTakes_56 : decode cX11_hasTakes 56 = .ok (.iconst 0, 1) := by decide +kernel
theorem dX11_hasTakes_57 : decode cX11_hasTakes 57 = .ok (.ireturn, 1) := by decide +kernel
theorem dX11_hasTakes_58 : decode cX11_hasTakes 58 = .ok (.iinc 4 1, 3) := by decide +kernel
theorem dX11_hasTakes_61 : decode cX11_hasTakes 61 = .ok (.goto (-50), 3) := by decide +kernel
theorem dX11_hasTakes_64 : decode cX11_hasTakes 64 = .ok (.iconst 1, 1) := by decide +kernel
theorem dX11_hasTakes_65 : decode cX11_hasTakes 65 = .ok (.ireturn, 1) := by decide +kernel
set_option maxRecDepth 20000 in
theorem ggX11_isStanding_X10_isPlace : GoodIn wsX11_isStanding wsX10_isPlace := goodIn_r _ [7, 8, 9, 10, 11, 12, 32, 33, 34, 35, 36, 37, 38, 39, 40] (by decide +kernel) (by decide +kernel)
set_option maxRecDepth 20000 in
theorem gX11_isStanding_X10_isPlace : GoodIn wsX11_isStanding (wsV RX11 136 RX10 yX10_isPlace wsX10_isPlace) := goodIn_app (goodIn_of _ (by decide +kernel)) ggX11_isStanding_X10_isPlace
set_option maxRecDepth 20000 in
theorem ggX11_isStanding_X11_isSide : GoodIn wsX11_isStanding wsX11_isSide := goodIn_r _ [15, 16, 10, 11, 12] (by decide +kernel) (by decide +kernel)
set_option maxRecDepth 20000 in
theorem gX11_isStanding_X11_isSide : GoodIn wsX11_isStanding (va_wsS RX11 107 yX11_isSide wsX11_isSide) := goodIn_app (goodIn_of _ (by decide +kernel)) ggX11_isStanding_X11_isSide
theorem dX11_isStanding_0 : decode cX11_isStanding 0 = .ok (.aload_n 0, 1) := by decide +kernel
theorem dX11_isStanding_1 : decode cX11_isStanding 1 = .ok (.getfield 14, 3) := by decide +kernel
theorem dX11_isStanding_4 : decode cX11_isStanding 4 = .ok (.getfield 23, 3) := by decide +kernel
theorem dX11_isStanding_7 : decode cX11_isStanding 7 = .ok (.iload_n 1, 1) := by decide +kernel
theorem dX11_isStanding_8 : decode cX11_isStanding 8 = .ok (.iload_n 2, 1) := by decide +kernel
theorem dX11_isStanding_9 : decode cX11_isStanding 9 = .ok (.invokevirtual 136, 3) := by decide +kernel
theorem dX11_isStanding_12 : decode cX11_isStanding 12 = .ok (.ifCond .eq 14, 3) := by decide +kernel
theorem dX11_isStanding_15 : decode cX11_isStanding 15 = .ok (.iload_n 3, 1) := by decide +kernel
theorem dX11_isStanding_16 : decode cX11_isStanding 16 = .ok (.invokestatic 107, 3) := by decide +kernel
theorem dX11_isStanding_19 : decode cX11_isStanding 19 = .ok (.ifCond .eq 7, 3) := by decide +kernel
theorem dX11_isStanding_22 : decode cX11_isStanding 22 = .ok (.iconst 1, 1) := by decide +kernel
theorem dX11_isStanding_23 : decode cX11_isStanding 23 = .ok (.goto 4, 3) := by decide +kernel
theorem dX11_isStanding_26 : decode cX11_isStanding 26 = .ok (.iconst 0, 1) := by decide +kernel
theorem dX11_isStanding_27 : decode cX11_isStanding 27 = .ok (.ireturn, 1) := by decide +kernel
theorem dX11_isWithin_0 : decode cX11_isWithin 0 = .ok (.iload_n 0, 1) := by decide +kernel
theorem dX11_isWithin_1 : decode cX11_isWithin 1 = .ok (.iload_n 1, 1) := by decide +kernel
theorem dX11_isWithin_2 : decode cX11_isWithin 2 = .ok (.if_icmp .lt 12, 3) := by decide +kernel
theorem dX11_isWithin_5 : decode cX11_isWithin 5 = .ok (.iload_n 0, 1) := by decide +kernel
theorem dX11_isWithin_6 : decode cX11_isWithin 6 = .ok (.iload_n 2, 1) := by decide +kernel
theorem dX11_isWithin_7 : decode cX11_isWithin 7 = .ok (.if_icmp .gt 7, 3) := by decide +kernel
theorem dX11_isWithin_10 : decode cX11_isWithin 10 = .ok (.iconst 1, 1) := by decide +kernel
theorem dX11_isWithin_11 : decode cX11_isWithin 11 = .ok (.goto 4, 3) := by decide +kernel
theorem dX11_isWithin_14 : decode cX11_isWithin 14 = .ok (.iconst 0, 1) := by decide +kernel
theorem dX11_isWithin_15 : decode cX11_isWithin 15 = .ok (.ireturn, 1) := by decide +kernel
set_option maxRecDepth 20000 in
theorem ggX11_isSide_X11_isWithin : GoodIn wsX11_isSide wsX11_isWithin := goodIn_r _ [4] (by decide +kernel) (by decide +kernel)
set_option maxRecDepth 20000 in
theorem gX11_isSide_X11_isWithin : GoodIn wsX11_isSide (va_wsS RX11 63 yX11_isWithin wsX11_isWithin) := goodIn_app (goodIn_of _ (by decide +kernel)) ggX11_isSide_X11_isWithin
theorem dX11_isSide_0 : decode cX11_isSide 0 = .ok (.iload_n 0, 1) := by decide +kernel
theorem dX11_isSide_1 : decode cX11_isSide 1 = .ok (.iconst 0, 1) := by decide +kernel
theorem dX11_isSide_2 : decode cX11_isSide 2 = .ok (.bipush 63, 2) := by decide +kernel
theorem dX11_isSide_4 : decode cX11_isSide 4 = .ok (.invokestatic 63, 3) := by decide +kernel
theorem dX11_isSide_7 : decode cX11_isSide 7 = .ok (.ireturn, 1) := by decide +kernel
set_option maxRecDepth 20000 in
theorem ggX11_isTick_X11_isWithin : GoodIn wsX11_isTick wsX11_isWithin := goodIn_r _ [4] (by decide +kernel) (by decide +kernel)
set_option maxRecDepth 20000 in
theorem gX11_isTick_X11_isWithin : GoodIn wsX11_isTick (va_wsS RX11 63 yX11_isWithin wsX11_isWithin) := goodIn_app (goodIn_of _ (by decide +kernel)) ggX11_isTick_X11_isWithin
theorem dX11_isTick_0 : decode cX11_isTick 0 = .ok (.iload_n 0, 1) := by decide +kernel
theorem dX11_isTick_1 : decode cX11_isTick 1 = .ok (.iconst 0, 1) := by decide +kernel
theorem dX11_isTick_2 : decode cX11_isTick 2 = .ok (.sipush 999, 3) := by decide +kernel
theorem dX11_isTick_5 : decode cX11_isTick 5 = .ok (.invokestatic 63, 3) := by decide +kernel
theorem dX11_isTick_8 : decode cX11_isTick 8 = .ok (.ireturn, 1) := by decide +kernel
set_option maxRecDepth 20000 in
theorem ggX11_ceilDiv_J9_floorDiv_7cf53 : GoodIn wsX11_ceilDiv wsJ9_floorDiv_7cf53 := goodIn_r _ [4] (by decide +kernel) (by decide +kernel)
set_option maxRecDepth 20000 in
theorem gX11_ceilDiv_J9_floorDiv_7cf53 : GoodIn wsX11_ceilDiv (va_wsS RX11 332 yJ9_floorDiv_7cf53 wsJ9_floorDiv_7cf53) := goodIn_app (goodIn_of _ (by decide +kernel)) ggX11_ceilDiv_J9_floorDiv_7cf53
theorem dX11_ceilDiv_0 : decode cX11_ceilDiv 0 = .ok (.iload_n 1, 1) := by decide +kernel
theorem dX11_ceilDiv_1 : decode cX11_ceilDiv 1 = .ok (.ifCond .le 13, 3) := by decide +kernel
theorem dX11_ceilDiv_4 : decode cX11_ceilDiv 4 = .ok (.iload_n 0, 1) := by decide +kernel
theorem dX11_ceilDiv_5 : decode cX11_ceilDiv 5 = .ok (.ineg, 1) := by decide +kernel
theorem dX11_ceilDiv_6 : decode cX11_ceilDiv 6 = .ok (.iload_n 1, 1) := by decide +kernel
theorem dX11_ceilDiv_7 : decode cX11_ceilDiv 7 = .ok (.invokestatic 332, 3) := by decide +kernel
theorem dX11_ceilDiv_10 : decode cX11_ceilDiv 10 = .ok (.ineg, 1) := by decide +kernel
theorem dX11_ceilDiv_11 : decode cX11_ceilDiv 11 = .ok (.goto 4, 3) := by decide +kernel
theorem dX11_ceilDiv_14 : decode cX11_ceilDiv 14 = .ok (.iconst 0, 1) := by decide +kernel
theorem dX11_ceilDiv_15 : decode cX11_ceilDiv 15 = .ok (.ireturn, 1) := by decide +kernel
theorem dX11_copyRow_0 : decode cX11_copyRow 0 = .ok (.aload_n 0, 1) := by decide +kernel
theorem dX11_copyRow_1 : decode cX11_copyRow 1 = .ok (.iconst 0, 1) := by decide +kernel
theorem dX11_copyRow_2 : decode cX11_copyRow 2 = .ok (.aload_n 1, 1) := by decide +kernel
theorem dX11_copyRow_3 : decode cX11_copyRow 3 = .ok (.iconst 0, 1) := by decide +kernel
theorem dX11_copyRow_4 : decode cX11_copyRow 4 = .ok (.aload_n 0, 1) := by decide +kernel
theorem dX11_copyRow_5 : decode cX11_copyRow 5 = .ok (.arraylength, 1) := by decide +kernel
theorem dX11_copyRow_6 : decode cX11_copyRow 6 = .ok (.aload_n 1, 1) := by decide +kernel
theorem dX11_copyRow_7 : decode cX11_copyRow 7 = .ok (.arraylength, 1) := by decide +kernel
theorem dX11_copyRow_8 : decode cX11_copyRow 8 = .ok (.invokestatic 175, 3) := by decide +kernel
theorem dX11_copyRow_11 : decode cX11_copyRow 11 = .ok (.invokestatic 335, 3) := by decide +kernel
theorem dX11_copyRow_14 : decode cX11_copyRow 14 = .ok (.return_, 1) := by decide +kernel
set_option maxRecDepth 20000 in
theorem ggX12_init_X12_copy : GoodIn wsX12_init wsX12_copy := goodIn_r _ [28] (by decide +kernel) (by decide +kernel)
set_option maxRecDepth 20000 in
theorem gX12_init_X12_copy : GoodIn wsX12_init (va_wsS RX12 67 yX12_copy wsX12_copy) := goodIn_app (goodIn_of _ (by decide +kernel)) ggX12_init_X12_copy
theorem dX12_init_0 : decode cX12_init 0 = .ok (.aload_n 0, 1) := by decide +kernel
theorem dX12_init_1 : decode cX12_init 1 = .ok (.invokespecial 1, 3) := by decide +kernel
theorem dX12_init_4 : decode cX12_init 4 = .ok (.aload_n 0, 1) := by decide +kernel
theorem dX12_init_5 : decode cX12_init 5 = .ok (.sipush 3170, 3) := by decide +kernel
theorem dX12_init_8 : decode cX12_init 8 = .ok (.newarray .int, 2) := by decide +kernel
theorem dX12_init_10 : decode cX12_init 10 = .ok (.putfield 7, 3) := by decide +kernel
theorem dX12_init_13 : decode cX12_init 13 = .ok (.aload_n 0, 1) := by decide +kernel
theorem dX12_init_14 : decode cX12_init 14 = .ok (.sipush 3170, 3) := by decide +kernel
theorem dX12_init_17 : decode cX12_init 17 = .ok (.newarray .int, 2) := by decide +kernel
theorem dX12_init_19 : decode cX12_init 19 = .ok (.putfield 13, 3) := by decide +kernel
theorem dX12_init_22 : decode cX12_init 22 = .ok (.aload_n 0, 1) := by decide +kernel
theorem dX12_init_23 : decode cX12_init 23 = .ok (.sipush 6400, 3) := by decide +kernel
theorem dX12_init_26 : decode cX12_init 26 = .ok (.newarray .int, 2) := by decide +kernel
theorem dX12_init_28 : decode cX12_init 28 = .ok (.putfield 16, 3) := by decide +kernel
theorem dX12_init_31 : decode cX12_init 31 = .ok (.aload_n 0, 1) := by decide +kernel
theorem dX12_init_32 : decode cX12_init 32 = .ok (.sipush 576, 3) := by decide +kernel
theorem dX12_init_35 : decode cX12_init 35 = .ok (.newarray .int, 2) := by decide +kernel
theorem dX12_init_37 : decode cX12_init 37 = .ok (.putfield 19, 3) := by decide +kernel
theorem dX12_init_40 : decode cX12_init 40 = .ok (.aload_n 0, 1) := by decide +kernel
theorem dX12_init_41 : decode cX12_init 41 = .ok (.bipush 64, 2) := by decide +kernel
theorem dX12_init_43 : decode cX12_init 43 = .ok (.newarray .int, 2) := by decide +kernel
theorem dX12_init_45 : decode cX12_init 45 = .ok (.putfield 22, 3) := by decide +kernel
theorem dX12_init_48 : decode cX12_init 48 = .ok (.aload_n 0, 1) := by decide +kernel
theorem dX12_init_49 : decode cX12_init 49 = .ok (.bipush 64, 2) := by decide +kernel
theorem dX12_init_51 : decode cX12_init 51 = .ok (.newarray .int, 2) := by decide +kernel
theorem dX12_init_53 : decode cX12_init 53 = .ok (.putfield 25, 3) := by decide +kernel
theorem dX12_init_56 : decode cX12_init 56 = .ok (.aload_n 0, 1) := by decide +kernel
theorem dX12_init_57 : decode cX12_init 57 = .ok (.bipush 16, 2) := by decide +kernel
theorem dX12_init_59 : decode cX12_init 59 = .ok (.newarray .int, 2) := by decide +kernel
theorem dX12_init_61 : decode cX12_init 61 = .ok (.putfield 28, 3) := by decide +kernel
theorem dX12_init_64 : decode cX12_init 64 = .ok (.aload_n 0, 1) := by decide +kernel
theorem dX12_init_65 : decode cX12_init 65 = .ok (.sipush 300, 3) := by decide +kernel
theorem dX12_init_68 : decode cX12_init 68 = .ok (.newarray .int, 2) := by decide +kernel
theorem dX12_init_70 : decode cX12_init 70 = .ok (.putfield 31, 3) := by decide +kernel
theorem dX12_init_73 : decode cX12_init 73 = .ok (.aload_n 0, 1) := by decide +kernel
theorem dX12_init_74 : decode cX12_init 74 = .ok (.iconst (-1), 1) := by decide +kernel
theorem dX12_init_75 : decode cX12_init 75 = .ok (.putfield 34, 3) := by decide +kernel
theorem dX12_init_78 : decode cX12_init 78 = .ok (.aload_n 0, 1) := by decide +kernel
theorem dX12_init_79 : decode cX12_init 79 = .ok (.iconst (-1), 1) := by decide +kernel
theorem dX12_init_80 : decode cX12_init 80 = .ok (.putfield 38, 3) := by decide +kernel
theorem dX12_init_83 : decode cX12_init 83 = .ok (.aload_n 0, 1) := by decide +kernel
theorem dX12_init_84 : decode cX12_init 84 = .ok (.sipush 160, 3) := by decide +kernel
theorem dX12_init_87 : decode cX12_init 87 = .ok (.newarray .int, 2) := by decide +kernel
theorem dX12_init_89 : decode cX12_init 89 = .ok (.putfield 41, 3) := by decide +kernel
theorem dX12_init_92 : decode cX12_init 92 = .ok (.aload_n 0, 1) := by decide +kernel
theorem dX12_init_93 : decode cX12_init 93 = .ok (.sipush 2280, 3) := by decide +kernel
theorem dX12_init_96 : decode cX12_init 96 = .ok (.newarray .int, 2) := by decide +kernel
theorem dX12_init_98 : decode cX12_init 98 = .ok (.putfield 44, 3) := by decide +kernel
theorem dX12_init_101 : decode cX12_init 101 = .ok (.aload_n 0, 1) := by decide +kernel
theorem dX12_init_102 : decode cX12_init 102 = .ok (.bipush 8, 2) := by decide +kernel
theorem dX12_init_104 : decode cX12_init 104 = .ok (.newarray .int, 2) := by decide +kernel
theorem dX12_init_106 : decode cX12_init 106 = .ok (.putfield 47, 3) := by decide +kernel
theorem dX12_init_109 : decode cX12_init 109 = .ok (.aload_n 0, 1) := by decide +kernel
theorem dX12_init_110 : decode cX12_init 110 = .ok (.sipush 330, 3) := by decide +kernel
theorem dX12_init_113 : decode cX12_init 113 = .ok (.newarray .long, 2) := by decide +kernel
theorem dX12_init_115 : decode cX12_init 115 = .ok (.putfield 50, 3) := by decide +kernel
theorem dX12_init_118 : decode cX12_init 118 = .ok (.aload_n 0, 1) := by decide +kernel
theorem dX12_init_119 : decode cX12_init 119 = .ok (.sipush 330, 3) := by decide +kernel
theorem dX12_init_122 : decode cX12_init 122 = .ok (.newarray .boolean, 2) := by decide +kernel
theorem dX12_init_124 : decode cX12_init 124 = .ok (.putfield 54, 3) := by decide +kernel
theorem dX12_init_127 : decode cX12_init 127 = .ok (.aload_n 0, 1) := by decide +kernel
theorem dX12_init_128 : decode cX12_init 128 = .ok (.bipush 8, 2) := by decide +kernel
theorem dX12_init_130 : decode cX12_init 130 = .ok (.newarray .boolean, 2) := by decide +kernel
theorem dX12_init_132 : decode cX12_init 132 = .ok (.putfield 58, 3) := by decide +kernel
theorem dX12_init_135 : decode cX12_init 135 = .ok (.aload_n 0, 1) := by decide +kernel
theorem dX12_init_136 : decode cX12_init 136 = .ok (.iload_n 1, 1) := by decide +kernel
theorem dX12_init_137 : decode cX12_init 137 = .ok (.iconst 4, 1) := by decide +kernel
theorem dX12_init_138 : decode cX12_init 138 = .ok (.if_icmp .ge 7, 3) := by decide +kernel
theorem dX12_init_141 : decode cX12_init 141 = .ok (.iconst 4, 1) := by decide +kernel
theorem dX12_init_142 : decode cX12_init 142 = .ok (.goto 15, 3) := by decide +kernel
theorem dX12_init_145 : decode cX12_init 145 = .ok (.iload_n 1, 1) := by decide +kernel
theorem dX12_init_146 : decode cX12_init 146 = .ok (.bipush 24, 2) := by decide +kernel
theorem dX12_init_148 : decode cX12_init 148 = .ok (.if_icmp .le 8, 3) := by decide +kernel
theorem dX12_init_151 : decode cX12_init 151 = .ok (.bipush 24, 2) := by decide +kernel
theorem dX12_init_153 : decode cX12_init 153 = .ok (.goto 4, 3) := by decide +kernel
theorem dX12_init_156 : decode cX12_init 156 = .ok (.iload_n 1, 1) := by decide +kernel
theorem dX12_init_157 : decode cX12_init 157 = .ok (.putfield 61, 3) := by decide +kernel
theorem dX12_init_160 : decode cX12_init 160 = .ok (.aload_n 0, 1) := by decide +kernel
theorem dX12_init_161 : decode cX12_init 161 = .ok (.iload_n 2, 1) := by decide +kernel
theorem dX12_init_162 : decode cX12_init 162 = .ok (.iconst 4, 1) := by decide +kernel
theorem dX12_init_163 : decode cX12_init 163 = .ok (.if_icmp .ge 7, 3) := by decide +kernel
theorem dX12_init_166 : decode cX12_init 166 = .ok (.iconst 4, 1) := by decide +kernel
theorem dX12_init_167 : decode cX12_init 167 = .ok (.goto 15, 3) := by decide +kernel
theorem dX12_init_170 : decode cX12_init 170 = .ok (.iload_n 2, 1) := by decide +kernel
theorem dX12_init_171 : decode cX12_init 171 = .ok (.bipush 24, 2) := by decide +kernel
theorem dX12_init_173 : decode cX12_init 173 = .ok (.if_icmp .le 8, 3) := by decide +kernel
theorem dX12_init_176 : decode cX12_init 176 = .ok (.bipush 24, 2) := by decide +kernel
theorem dX12_init_178 : decode cX12_init 178 = .ok (.goto 4, 3) := by decide +kernel
theorem dX12_init_181 : decode cX12_init 181 = .ok (.iload_n 2, 1) := by decide +kernel
theorem dX12_init_182 : decode cX12_init 182 = .ok (.putfield 64, 3) := by decide +kernel
theorem dX12_init_185 : decode cX12_init 185 = .ok (.aload_n 0, 1) := by decide +kernel
theorem dX12_init_186 : decode cX12_init 186 = .ok (.getfield 7, 3) := by decide +kernel
theorem dX12_init_189 : decode cX12_init 189 = .ok (.sipush 880, 3) := by decide +kernel
theorem dX12_init_192 : decode cX12_init 192 = .ok (.iconst (-1), 1) := by decide +kernel
theorem dX12_init_193 : decode cX12_init 193 = .ok (.iastore, 1) := by decide +kernel
theorem dX12_init_194 : decode cX12_init 194 = .ok (.aload_n 0, 1) := by decide +kernel
theorem dX12_init_195 : decode cX12_init 195 = .ok (.getfield 7, 3) := by decide +kernel
theorem dX12_init_198 : decode cX12_init 198 = .ok (.aload_n 0, 1) := by decide +kernel
theorem dX12_init_199 : decode cX12_init 199 = .ok (.getfield 13, 3) := by decide +kernel
theorem dX12_init_202 : decode cX12_init 202 = .ok (.invokestatic 67, 3) := by decide +kernel
theorem dX12_init_205 : decode cX12_init 205 = .ok (.return_, 1) := by decide +kernel
theorem dX12_copy_0 : decode cX12_copy 0 = .ok (.iconst 0, 1) := by decide +kernel
theorem dX12_copy_1 : decode cX12_copy 1 = .ok (.istore_n 2, 1) := by decide +kernel
theorem dX12_copy_2 : decode cX12_copy 2 = .ok (.iload_n 2, 1) := by decide +kernel
theorem dX12_copy_3 : decode cX12_copy 3 = .ok (.sipush 3170, 3) := by decide +kernel
theorem dX12_copy_6 : decode cX12_copy 6 = .ok (.if_icmp .ge 15, 3) := by decide +kernel
theorem dX12_copy_9 : decode cX12_copy 9 = .ok (.aload_n 1, 1) := by decide +kernel
theorem dX12_copy_10 : decode cX12_copy 10 = .ok (.iload_n 2, 1) := by decide +kernel
theorem dX12_copy_11 : decode cX12_copy 11 = .ok (.aload_n 0, 1) := by decide +kernel
theorem dX12_copy_12 : decode cX12_copy 12 = .ok (.iload_n 2, 1) := by decide +kernel
theorem dX12_copy_13 : decode cX12_copy 13 = .ok (.iaload, 1) := by decide +kernel
theorem dX12_copy_14 : decode cX12_copy 14 = .ok (.iastore, 1) := by decide +kernel
theorem dX12_copy_15 : decode cX12_copy 15 = .ok (.iinc 2 1, 3) := by decide +kernel
theorem dX12_copy_18 : decode cX12_copy 18 = .ok (.goto (-16), 3) := by decide +kernel
theorem dX12_copy_21 : decode cX12_copy 21 = .ok (.return_, 1) := by decide +kernel
theorem dX12_isIn_0 : decode cX12_isIn 0 = .ok (.iload_n 0, 1) := by decide +kernel
theorem dX12_isIn_1 : decode cX12_isIn 1 = .ok (.iload_n 1, 1) := by decide +kernel
theorem dX12_isIn_2 : decode cX12_isIn 2 = .ok (.if_icmp .lt 12, 3) := by decide +kernel
theorem dX12_isIn_5 : decode cX12_isIn 5 = .ok (.iload_n 0, 1) := by decide +kernel
theorem dX12_isIn_6 : decode cX12_isIn 6 = .ok (.iload_n 2, 1) := by decide +kernel
theorem dX12_isIn_7 : decode cX12_isIn 7 = .ok (.if_icmp .gt 7, 3) := by decide +kernel
theorem dX12_isIn_10 : decode cX12_isIn 10 = .ok (.iconst 1, 1) := by decide +kernel
theorem dX12_isIn_11 : decode cX12_isIn 11 = .ok (.goto 4, 3) := by decide +kernel
theorem dX12_isIn_14 : decode cX12_isIn 14 = .ok (.iconst 0, 1) := by decide +kernel
theorem dX12_isIn_15 : decode cX12_isIn 15 = .ok (.ireturn, 1) := by decide +kernel
set_option maxRecDepth 20000 in
theorem ggX12_isCell_X12_isIn : GoodIn wsX12_isCell wsX12_isIn := goodIn_r _ [6] (by decide +kernel) (by decide +kernel)
set_option maxRecDepth 20000 in
theorem gX12_isCell_X12_isIn : GoodIn wsX12_isCell (va_wsS RX12 71 yX12_isIn wsX12_isIn) := goodIn_app (goodIn_of _ (by decide +kernel)) ggX12_isCell_X12_isIn
theorem dX12_isCell_0 : decode cX12_isCell 0 = .ok (.iload_n 1, 1) := by decide +kernel
theorem dX12_isCell_1 : decode cX12_isCell 1 = .ok (.iconst 0, 1) := by decide +kernel
theorem dX12_isCell_2 : decode cX12_isCell 2 = .ok (.aload_n 0, 1) := by decide +kernel
theorem dX12_isCell_3 : decode cX12_isCell 3 = .ok (.getfield 61, 3) := by decide +kernel
theorem dX12_isCell_6 : decode cX12_isCell 6 = .ok (.aload_n 0, 1) := by decide +kernel
theorem dX12_isCell_7 : decode cX12_isCell 7 = .ok (.getfield 64, 3) := by decide +kernel
theorem dX12_isCell_10 : decode cX12_isCell 10 = .ok (.imul, 1) := by decide +kernel
theorem dX12_isCell_11 : decode cX12_isCell 11 = .ok (.iconst 1, 1) := by decide +kernel
theorem dX12_isCell_12 : decode cX12_isCell 12 = .ok (.isub, 1) := by decide +kernel
theorem dX12_isCell_13 : decode cX12_isCell 13 = .ok (.invokestatic 71, 3) := by decide +kernel
theorem dX12_isCell_16 : decode cX12_isCell 16 = .ok (.ireturn, 1) := by decide +kernel
set_option maxRecDepth 20000 in
theorem ggX12_isSide_X12_isIn : GoodIn wsX12_isSide wsX12_isIn := goodIn_r _ [4] (by decide +kernel) (by decide +kernel)
set_option maxRecDepth 20000 in
theorem gX12_isSide_X12_isIn : GoodIn wsX12_isSide (va_wsS RX12 71 yX12_isIn wsX12_isIn) := goodIn_app (goodIn_of _ (by decide +kernel)) ggX12_isSide_X12_isIn
theorem dX12_isSide_0 : decode cX12_isSide 0 = .ok (.iload_n 0, 1) := by decide +kernel
theorem dX12_isSide_1 : decode cX12_isSide 1 = .ok (.iconst 0, 1) := by decide +kernel
theorem dX12_isSide_2 : decode cX12_isSide 2 = .ok (.bipush 63, 2) := by decide +kernel
theorem dX12_isSide_4 : decode cX12_isSide 4 = .ok (.invokestatic 71, 3) := by decide +kernel
theorem dX12_isSide_7 : decode cX12_isSide 7 = .ok (.ireturn, 1) := by decide +kernel
set_option maxRecDepth 20000 in
theorem ggX12_isTick_X12_isIn : GoodIn wsX12_isTick wsX12_isIn := goodIn_r _ [4] (by decide +kernel) (by decide +kernel)
set_option maxRecDepth 20000 in
theorem gX12_isTick_X12_isIn : GoodIn wsX12_isTick (va_wsS RX12 71 yX12_isIn wsX12_isIn) := goodIn_app (goodIn_of _ (by decide +kernel)) ggX12_isTick_X12_isIn
theorem dX12_isTick_0 : decode cX12_isTick 0 = .ok (.iload_n 0, 1) := by decide +kernel
theorem dX12_isTick_1 : decode cX12_isTick 1 = .ok (.iconst 0, 1) := by decide +kernel
theorem dX12_isTick_2 : decode cX12_isTick 2 = .ok (.sipush 999, 3) := by decide +kernel
theorem dX12_isTick_5 : decode cX12_isTick 5 = .ok (.invokestatic 71, 3) := by decide +kernel
theorem dX12_isTick_8 : decode cX12_isTick 8 = .ok (.ireturn, 1) := by decide +kernel
set_option maxRecDepth 20000 in
theorem ggX12_isPlace_X12_isIn : GoodIn wsX12_isPlace wsX12_isIn := goodIn_r _ [6] (by decide +kernel) (by decide +kernel)
set_option maxRecDepth 20000 in
theorem gX12_isPlace_X12_isIn : GoodIn wsX12_isPlace (va_wsS RX12 71 yX12_isIn wsX12_isIn) := goodIn_app (goodIn_of _ (by decide +kernel)) ggX12_isPlace_X12_isIn
theorem dX12_isPlace_0 : decode cX12_isPlace 0 = .ok (.iload_n 1, 1) := by decide +kernel
theorem dX12_isPlace_1 : decode cX12_isPlace 1 = .ok (.iconst 0, 1) := by decide +kernel
theorem dX12_isPlace_2 : decode cX12_isPlace 2 = .ok (.bipush 16, 2) := by decide +kernel
theorem dX12_isPlace_4 : decode cX12_isPlace 4 = .ok (.aload_n 0, 1) := by decide +kernel
theorem dX12_isPlace_5 : decode cX12_isPlace 5 = .ok (.getfield 61, 3) := by decide +kernel
theorem dX12_isPlace_8 : decode cX12_isPlace 8 = .ok (.imul, 1) := by decide +kernel
theorem dX12_isPlace_9 : decode cX12_isPlace 9 = .ok (.iconst 1, 1) := by decide +kernel
theorem dX12_isPlace_10 : decode cX12_isPlace 10 = .ok (.isub, 1) := by decide +kernel
theorem dX12_isPlace_11 : decode cX12_isPlace 11 = .ok (.invokestatic 71, 3) := by decide +kernel
theorem dX12_isPlace_14 : decode cX12_isPlace 14 = .ok (.ifCond .eq 24, 3) := by decide +kernel
theorem dX12_isPlace_17 : decode cX12_isPlace 17 = .ok (.iload_n 2, 1) := by decide +kernel
theorem dX12_isPlace_18 : decode cX12_isPlace 18 = .ok (.iconst 0, 1) := by decide +kernel
theorem dX12_isPlace_19 : decode cX12_isPlace 19 = .ok (.bipush 16, 2) := by decide +kernel
theorem dX12_isPlace_21 : decode cX12_isPlace 21 = .ok (.aload_n 0, 1) := by decide +kernel
theorem dX12_isPlace_22 : decode cX12_isPlace 22 = .ok (.getfield 64, 3) := by decide +kernel
theorem dX12_isPlace_25 : decode cX12_isPlace 25 = .ok (.imul, 1) := by decide +kernel
theorem dX12_isPlace_26 : decode cX12_isPlace 26 = .ok (.iconst 1, 1) := by decide +kernel
theorem dX12_isPlace_27 : decode cX12_isPlace 27 = .ok (.isub, 1) := by decide +kernel
theorem dX12_isPlace_28 : decode cX12_isPlace 28 = .ok (.invokestatic 71, 3) := by decide +kernel
theorem dX12_isPlace_31 : decode cX12_isPlace 31 = .ok (.ifCond .eq 7, 3) := by decide +kernel
theorem dX12_isPlace_34 : decode cX12_isPlace 34 = .ok (.iconst 1, 1) := by decide +kernel
theorem dX12_isPlace_35 : decode cX12_isPlace 35 = .ok (.goto 4, 3) := by decide +kernel
theorem dX12_isPlace_38 : decode cX12_isPlace 38 = .ok (.iconst 0, 1) := by decide +kernel
theorem dX12_isPlace_39 : decode cX12_isPlace 39 = .ok (.ireturn, 1) := by decide +kernel
theorem dX12_abs_0 : decode cX12_abs 0 = .ok (.iload_n 0, 1) := by decide +kernel
theorem dX12_abs_1 : decode cX12_abs 1 = .ok (.ifCond .ge 8, 3) := by decide +kernel
theorem dX12_abs_4 : decode cX12_abs 4 = .ok (.iload_n 0, 1) := by decide +kernel
theorem dX12_abs_5 : decode cX12_abs 5 = .ok (.ineg, 1) := by decide +kernel
theorem dX12_abs_6 : decode cX12_abs 6 = .ok (.goto 4, 3) := by decide +kernel
theorem dX12_abs_9 : decode cX12_abs 9 = .ok (.iload_n 0, 1) := by decide +kernel
theorem dX12_abs_10 : decode cX12_abs 10 = .ok (.ireturn, 1) := by decide +kernel
theorem dX12_floor_0 : decode cX12_floor 0 = .ok (.iload_n 0, 1) := by decide +kernel
theorem dX12_floor_1 : decode cX12_floor 1 = .ok (.ifCond .lt 9, 3) := by decide +kernel
theorem dX12_floor_4 : decode cX12_floor 4 = .ok (.iload_n 0, 1) := by decide +kernel
theorem dX12_floor_5 : decode cX12_floor 5 = .ok (.iload_n 1, 1) := by decide +kernel
theorem dX12_floor_6 : decode cX12_floor 6 = .ok (.idiv, 1) := by decide +kernel
theorem dX12_floor_7 : decode cX12_floor 7 = .ok (.goto 11, 3) := by decide +kernel
theorem dX12_floor_10 : decode cX12_floor 10 = .ok (.iload_n 1, 1) := by decide +kernel
theorem dX12_floor_11 : decode cX12_floor 11 = .ok (.iconst 1, 1) := by decide +kernel
theorem dX12_floor_12 : decode cX12_floor 12 = .ok (.isub, 1) := by decide +kernel
theorem dX12_floor_13 : decode cX12_floor 13 = .ok (.iload_n 0, 1) := by decide +kernel
theorem dX12_floor_14 : decode cX12_floor 14 = .ok (.isub, 1) := by decide +kernel
theorem dX12_floor_15 : decode cX12_floor 15 = .ok (.iload_n 1, 1) := by decide +kernel
theorem dX12_floor_16 : decode cX12_floor 16 = .ok (.idiv, 1) := by decide +kernel
theorem dX12_floor_17 : decode cX12_floor 17 = .ok (.ineg, 1) := by decide +kernel
theorem dX12_floor_18 : decode cX12_floor 18 = .ok (.ireturn, 1) := by decide +kernel
set_option maxRecDepth 20000 in
theorem ggX12_mark_X12_isCell : GoodIn wsX12_mark wsX12_isCell := goodIn_r _ [6, 7, 8, 9, 10, 5, 11, 12, 13, 14, 15, 16, 17, 18, 19, 20, 21, 22, 23, 24, 25, 26, 27, 28, 29, 30, 31, 32, 33, 34, 35, 36, 37, 38, 39, 40, 41, 42, 43, 44, 45, 46, 47, 48, 49, 50, 51, 52, 53, 54] (by decide +kernel) (by decide +kernel)
set_option maxRecDepth 20000 in
theorem gX12_mark_X12_isCell : GoodIn wsX12_mark (wsV RX12 75 RX12 yX12_isCell wsX12_isCell) := goodIn_app (goodIn_of _ (by decide +kernel)) ggX12_mark_X12_isCell
set_option maxRecDepth 20000 in
theorem ggX12_mark_X12_isIn : GoodIn wsX12_mark wsX12_isIn := goodIn_r _ [11] (by decide +kernel) (by decide +kernel)
set_option maxRecDepth 20000 in
theorem gX12_mark_X12_isIn : GoodIn wsX12_mark (va_wsS RX12 71 yX12_isIn wsX12_isIn) := goodIn_app (goodIn_of _ (by decide +kernel)) ggX12_mark_X12_isIn
theorem dX12_mark_0 : decode cX12_mark 0 = .ok (.aload_n 0, 1) := by decide +kernel
theorem dX12_mark_1 : decode cX12_mark 1 = .ok (.iload_n 1, 1) := by decide +kernel
theorem dX12_mark_2 : decode cX12_mark 2 = .ok (.invokevirtual 75, 3) := by decide +kernel
theorem dX12_mark_5 : decode cX12_mark 5 = .ok (.ifCond .eq 14, 3) := by decide +kernel
theorem dX12_mark_8 : decode cX12_mark 8 = .ok (.iload_n 2, 1) := by decide +kernel
theorem dX12_mark_9 : decode cX12_mark 9 = .ok (.iconst 0, 1) := by decide +kernel
theorem dX12_mark_10 : decode cX12_mark 10 = .ok (.sipush 255, 3) := by decide +kernel
theorem dX12_mark_13 : decode cX12_mark 13 = .ok (.invokestatic 71, 3) := by decide +kernel
theorem dX12_mark_16 : decode cX12_mark 16 = .ok (.ifCond .ne 5, 3) := by decide +kernel
theorem dX12_mark_19 : decode cX12_mark 19 = .ok (.iconst 0, 1) := by decide +kernel
theorem dX12_mark_20 : decode cX12_mark 20 = .ok (.ireturn, 1) := by decide +kernel
theorem dX12_mark_21 : decode cX12_mark 21 = .ok (.aload_n 0, 1) := by decide +kernel
theorem dX12_mark_22 : decode cX12_mark 22 = .ok (.getfield 7, 3) := by decide +kernel
theorem dX12_mark_25 : decode cX12_mark 25 = .ok (.bipush 10, 2) := by decide +kernel
theorem dX12_mark_27 : decode cX12_mark 27 = .ok (.iload_n 1, 1) := by decide +kernel
theorem dX12_mark_28 : decode cX12_mark 28 = .ok (.iadd, 1) := by decide +kernel
theorem dX12_mark_29 : decode cX12_mark 29 = .ok (.iload_n 2, 1) := by decide +kernel
theorem dX12_mark_30 : decode cX12_mark 30 = .ok (.iastore, 1) := by decide +kernel
theorem dX12_mark_31 : decode cX12_mark 31 = .ok (.iconst 1, 1) := by decide +kernel
theorem dX12_mark_32 : decode cX12_mark 32 = .ok (.ireturn, 1) := by decide +kernel
set_option maxRecDepth 20000 in
theorem ggX12_body_X12_isCell : GoodIn wsX12_body wsX12_isCell := goodIn_r _ [6, 7, 8, 9, 10, 5, 11, 12, 13, 14, 15, 16, 17, 18, 19, 20, 21, 22, 23, 24, 25, 26, 27, 28, 29, 30, 31, 32, 33, 34, 35, 36, 37, 38, 39, 40, 41, 42, 43, 44, 45, 46, 47, 48, 49, 50, 51, 52, 53, 54] (by decide +kernel) (by decide +kernel)
set_option maxRecDepth 20000 in
theorem gX12_body_X12_isCell : GoodIn wsX12_body (wsV RX12 75 RX12 yX12_isCell wsX12_isCell) := goodIn_app (goodIn_of _ (by decide +kernel)) ggX12_body_X12_isCell
set_option maxRecDepth 20000 in
theorem ggX12_body_X12_isIn : GoodIn wsX12_body wsX12_isIn := goodIn_r _ [11] (by decide +kernel) (by decide +kernel)
set_option maxRecDepth 20000 in
theorem gX12_body_X12_isIn : GoodIn wsX12_body (va_wsS RX12 71 yX12_isIn wsX12_isIn) := goodIn_app (goodIn_of _ (by decide +kernel)) ggX12_body_X12_isIn
theorem dX12_body_0 : decode cX12_body 0 = .ok (.aload_n 0, 1) := by decide +kernel
theorem dX12_body_1 : decode cX12_body 1 = .ok (.iload_n 1, 1) := by decide +kernel
theorem dX12_body_2 : decode cX12_body 2 = .ok (.invokevirtual 75, 3) := by decide +kernel
theorem dX12_body_5 : decode cX12_body 5 = .ok (.ifCond .eq 46, 3) := by decide +kernel
theorem dX12_body_8 : decode cX12_body 8 = .ok (.iload_n 2, 1) := by decide +kernel
theorem dX12_body_9 : decode cX12_body 9 = .ok (.bipush (-2), 2) := by decide +kernel
theorem dX12_body_11 : decode cX12_body 11 = .ok (.iconst 2, 1) := by decide +kernel
theorem dX12_body_12 : decode cX12_body 12 = .ok (.invokestatic 71, 3) := by decide +kernel
theorem dX12_body_15 : decode cX12_body 15 = .ok (.ifCond .eq 36, 3) := by decide +kernel
theorem dX12_body_18 : decode cX12_body 18 = .ok (.iload_n 3, 1) := by decide +kernel
theorem dX12_body_19 : decode cX12_body 19 = .ok (.bipush (-2), 2) := by decide +kernel
theorem dX12_body_21 : decode cX12_body 21 = .ok (.iconst 2, 1) := by decide +kernel
theorem dX12_body_22 : decode cX12_body 22 = .ok (.invokestatic 71, 3) := by decide +kernel
theorem dX12_body_25 : decode cX12_body 25 = .ok (.ifCond .eq 26, 3) := by decide +kernel
theorem dX12_body_28 : decode cX12_body 28 = .ok (.iload 4, 2) := by decide +kernel
theorem dX12_body_30 : decode cX12_body 30 = .ok (.iconst 1, 1) := by decide +kernel
theorem dX12_body_31 : decode cX12_body 31 = .ok (.sipush 255, 3) := by decide +kernel
theorem dX12_body_34 : decode cX12_body 34 = .ok (.invokestatic 71, 3) := by decide +kernel
theorem dX12_body_37 : decode cX12_body 37 = .ok (.ifCond .eq 14, 3) := by decide +kernel
theorem dX12_body_40 : decode cX12_body 40 = .ok (.aload_n 0, 1) := by decide +kernel
theorem dX12_body_41 : decode cX12_body 41 = .ok (.getfield 7, 3) := by decide +kernel
theorem dX12_body_44 : decode cX12_body 44 = .ok (.iconst 0, 1) := by decide +kernel
theorem dX12_body_45 : decode cX12_body 45 = .ok (.iaload, 1) := by decide +kernel
theorem dX12_body_46 : decode cX12_body 46 = .ok (.bipush 6, 2) := by decide +kernel
theorem dX12_body_48 : decode cX12_body 48 = .ok (.if_icmp .ne 5, 3) := by decide +kernel
theorem dX12_body_51 : decode cX12_body 51 = .ok (.iconst (-1), 1) := by decide +kernel
theorem dX12_body_52 : decode cX12_body 52 = .ok (.ireturn, 1) := by decide +kernel
theorem dX12_body_53 : decode cX12_body 53 = .ok (.sipush 590, 3) := by decide +kernel
theorem dX12_body_56 : decode cX12_body 56 = .ok (.iconst 4, 1) := by decide +kernel
theorem dX12_body_57 : decode cX12_body 57 = .ok (.aload_n 0, 1) := by decide +kernel
theorem dX12_body_58 : decode cX12_body 58 = .ok (.getfield 7, 3) := by decide +kernel
theorem dX12_body_61 : decode cX12_body 61 = .ok (.iconst 0, 1) := by decide +kernel
theorem dX12_body_62 : decode cX12_body 62 = .ok (.iaload, 1) := by decide +kernel
theorem dX12_body_63 : decode cX12_body 63 = .ok (.imul, 1) := by decide +kernel
theorem dX12_body_64 : decode cX12_body 64 = .ok (.iadd, 1) := by decide +kernel
theorem dX12_body_65 : decode cX12_body 65 = .ok (.istore 5, 2) := by decide +kernel
theorem dX12_body_67 : decode cX12_body 67 = .ok (.aload_n 0, 1) := by decide +kernel
theorem dX12_body_68 : decode cX12_body 68 = .ok (.getfield 7, 3) := by decide +kernel
theorem dX12_body_71 : decode cX12_body 71 = .ok (.iload 5, 2) := by decide +kernel
theorem dX12_body_73 : decode cX12_body 73 = .ok (.iload_n 1, 1) := by decide +kernel
theorem dX12_body_74 : decode cX12_body 74 = .ok (.iastore, 1) := by decide +kernel
theorem dX12_body_75 : decode cX12_body 75 = .ok (.aload_n 0, 1) := by decide +kernel
theorem dX12_body_76 : decode cX12_body 76 = .ok (.getfield 7, 3) := by decide +kernel
theorem dX12_body_79 : decode cX12_body 79 = .ok (.iload 5, 2) := by decide +kernel
theorem dX12_body_81 : decode cX12_body 81 = .ok (.iconst 1, 1) := by decide +kernel
theorem dX12_body_82 : decode cX12_body 82 = .ok (.iadd, 1) := by decide +kernel
theorem dX12_body_83 : decode cX12_body 83 = .ok (.iload_n 2, 1) := by decide +kernel
theorem dX12_body_84 : decode cX12_body 84 = .ok (.iastore, 1) := by decide +kernel
theorem dX12_body_85 : decode cX12_body 85 = .ok (.aload_n 0, 1) := by decide +kernel
theorem dX12_body_86 : decode cX12_body 86 = .ok (.getfield 7, 3) := by decide +kernel
theorem dX12_body_89 : decode cX12_body 89 = .ok (.iload 5, 2) := by decide +kernel
theorem dX12_body_91 : decode cX12_body 91 = .ok (.iconst 2, 1) := by decide +kernel
theorem dX12_body_92 : decode cX12_body 92 = .ok (.iadd, 1) := by decide +kernel
theorem dX12_body_93 : decode cX12_body 93 = .ok (.iload_n 3, 1) := by decide +kernel
theorem dX12_body_94 : decode cX12_body 94 = .ok (.iastore, 1) := by decide +kernel
theorem dX12_body_95 : decode cX12_body 95 = .ok (.aload_n 0, 1) := by decide +kernel
theorem dX12_body_96 : decode cX12_body 96 = .ok (.getfield 7, 3) := by decide +kernel
theorem dX12_body_99 : decode cX12_body 99 = .ok (.iload 5, 2) := by decide +kernel
theorem dX12_body_101 : decode cX12_body 101 = .ok (.iconst 3, 1) := by decide +kernel
theorem dX12_body_102 : decode cX12_body 102 = .ok (.iadd, 1) := by decide +kernel
theorem dX12_body_103 : decode cX12_body 103 = .ok (.iload 4, 2) := by decide +kernel
theorem dX12_body_105 : decode cX12_body 105 = .ok (.iastore, 1) := by decide +kernel
theorem dX12_body_106 : decode cX12_body 106 = .ok (.aload_n 0, 1) := by decide +kernel
theorem dX12_body_107 : decode cX12_body 107 = .ok (.getfield 7, 3) := by decide +kernel
theorem dX12_body_110 : decode cX12_body 110 = .ok (.iconst 0, 1) := by decide +kernel
theorem dX12_body_111 : decode cX12_body 111 = .ok (.dup2, 1) := by decide +kernel
theorem dX12_body_112 : decode cX12_body 112 = .ok (.iaload, 1) := by decide +kernel
theorem dX12_body_113 : decode cX12_body 113 = .ok (.iconst 1, 1) := by decide +kernel
theorem dX12_body_114 : decode cX12_body 114 = .ok (.iadd, 1) := by decide +kernel
theorem dX12_body_115 : decode cX12_body 115 = .ok (.iastore, 1) := by decide +kernel
theorem dX12_body_116 : decode cX12_body 116 = .ok (.aload_n 0, 1) := by decide +kernel
theorem dX12_body_117 : decode cX12_body 117 = .ok (.getfield 7, 3) := by decide +kernel
theorem dX12_body_120 : decode cX12_body 120 = .ok (.iconst 0, 1) := by decide +kernel
theorem dX12_body_121 : decode cX12_body 121 = .ok (.iaload, 1) := by decide +kernel
theorem dX12_body_122 : decode cX12_body 122 = .ok (.iconst 1, 1) := by decide +kernel
theorem dX12_body_123 : decode cX12_body 123 = .ok (.isub, 1) := by decide +kernel
theorem dX12_body_124 : decode cX12_body 124 = .ok (.ireturn, 1) := by decide +kernel
set_option maxRecDepth 20000 in
theorem ggX12_bodyAt_X12_isIn : GoodIn wsX12_bodyAt wsX12_isIn := goodIn_r _ [7] (by decide +kernel) (by decide +kernel)
set_option maxRecDepth 20000 in
theorem gX12_bodyAt_X12_isIn : GoodIn wsX12_bodyAt (va_wsS RX12 71 yX12_isIn wsX12_isIn) := goodIn_app (goodIn_of _ (by decide +kernel)) ggX12_bodyAt_X12_isIn
theorem dX12_bodyAt_0 : decode cX12_bodyAt 0 = .ok (.aload_n 0, 1) := by decide +kernel
theorem dX12_bodyAt_1 : decode cX12_bodyAt 1 = .ok (.getfield 7, 3) := by decide +kernel
theorem dX12_bodyAt_4 : decode cX12_bodyAt 4 = .ok (.sipush 590, 3) := by decide +kernel
theorem dX12_bodyAt_7 : decode cX12_bodyAt 7 = .ok (.iconst 4, 1) := by decide +kernel
theorem dX12_bodyAt_8 : decode cX12_bodyAt 8 = .ok (.iload_n 1, 1) := by decide +kernel
theorem dX12_bodyAt_9 : decode cX12_bodyAt 9 = .ok (.imul, 1) := by decide +kernel
theorem dX12_bodyAt_10 : decode cX12_bodyAt 10 = .ok (.iadd, 1) := by decide +kernel
theorem dX12_bodyAt_11 : decode cX12_bodyAt 11 = .ok (.iaload, 1) := by decide +kernel
theorem dX12_bodyAt_12 : decode cX12_bodyAt 12 = .ok (.aload_n 0, 1) := by decide +kernel
theorem dX12_bodyAt_13 : decode cX12_bodyAt 13 = .ok (.getfield 61, 3) := by decide +kernel
theorem dX12_bodyAt_16 : decode cX12_bodyAt 16 = .ok (.irem, 1) := by decide +kernel
theorem dX12_bodyAt_17 : decode cX12_bodyAt 17 = .ok (.iload_n 2, 1) := by decide +kernel
theorem dX12_bodyAt_18 : decode cX12_bodyAt 18 = .ok (.aload_n 0, 1) := by decide +kernel
theorem dX12_bodyAt_19 : decode cX12_bodyAt 19 = .ok (.getfield 7, 3) := by decide +kernel
theorem dX12_bodyAt_22 : decode cX12_bodyAt 22 = .ok (.sipush 590, 3) := by decide +kernel
theorem dX12_bodyAt_25 : decode cX12_bodyAt 25 = .ok (.iconst 4, 1) := by decide +kernel
theorem dX12_bodyAt_26 : decode cX12_bodyAt 26 = .ok (.iload_n 1, 1) := by decide +kernel
theorem dX12_bodyAt_27 : decode cX12_bodyAt 27 = .ok (.imul, 1) := by decide +kernel
theorem dX12_bodyAt_28 : decode cX12_bodyAt 28 = .ok (.iadd, 1) := by decide +kernel
theorem dX12_bodyAt_29 : decode cX12_bodyAt 29 = .ok (.iconst 1, 1) := by decide +kernel
theorem dX12_bodyAt_30 : decode cX12_bodyAt 30 = .ok (.iadd, 1) := by decide +kernel
theorem dX12_bodyAt_31 : decode cX12_bodyAt 31 = .ok (.iaload, 1) := by decide +kernel
theorem dX12_bodyAt_32 : decode cX12_bodyAt 32 = .ok (.imul, 1) := by decide +kernel
theorem dX12_bodyAt_33 : decode cX12_bodyAt 33 = .ok (.iadd, 1) := by decide +kernel
theorem dX12_bodyAt_34 : decode cX12_bodyAt 34 = .ok (.istore_n 3, 1) := by decide +kernel
theorem dX12_bodyAt_35 : decode cX12_bodyAt 35 = .ok (.aload_n 0, 1) := by decide +kernel
theorem dX12_bodyAt_36 : decode cX12_bodyAt 36 = .ok (.getfield 7, 3) := by decide +kernel
theorem dX12_bodyAt_39 : decode cX12_bodyAt 39 = .ok (.sipush 590, 3) := by decide +kernel
theorem dX12_bodyAt_42 : decode cX12_bodyAt 42 = .ok (.iconst 4, 1) := by decide +kernel
theorem dX12_bodyAt_43 : decode cX12_bodyAt 43 = .ok (.iload_n 1, 1) := by decide +kernel
theorem dX12_bodyAt_44 : decode cX12_bodyAt 44 = .ok (.imul, 1) := by decide +kernel
theorem dX12_bodyAt_45 : decode cX12_bodyAt 45 = .ok (.iadd, 1) := by decide +kernel
theorem dX12_bodyAt_46 : decode cX12_bodyAt 46 = .ok (.iaload, 1) := by decide +kernel
theorem dX12_bodyAt_47 : decode cX12_bodyAt 47 = .ok (.aload_n 0, 1) := by decide +kernel
theorem dX12_bodyAt_48 : decode cX12_bodyAt 48 = .ok (.getfield 61, 3) := by decide +kernel
theorem dX12_bodyAt_51 : decode cX12_bodyAt 51 = .ok (.idiv, 1) := by decide +kernel
theorem dX12_bodyAt_52 : decode cX12_bodyAt 52 = .ok (.iload_n 2, 1) := by decide +kernel
theorem dX12_bodyAt_53 : decode cX12_bodyAt 53 = .ok (.aload_n 0, 1) := by decide +kernel
theorem dX12_bodyAt_54 : decode cX12_bodyAt 54 = .ok (.getfield 7, 3) := by decide +kernel
theorem dX12_bodyAt_57 : decode cX12_bodyAt 57 = .ok (.sipush 590, 3) := by decide +kernel
theorem dX12_bodyAt_60 : decode cX12_bodyAt 60 = .ok (.iconst 4, 1) := by decide +kernel
theorem dX12_bodyAt_61 : decode cX12_bodyAt 61 = .ok (.iload_n 1, 1) := by decide +kernel
theorem dX12_bodyAt_62 : decode cX12_bodyAt 62 = .ok (.imul, 1) := by decide +kernel
theorem dX12_bodyAt_63 : decode cX12_bodyAt 63 = .ok (.iadd, 1) := by decide +kernel
theorem dX12_bodyAt_64 : decode cX12_bodyAt 64 = .ok (.iconst 2, 1) := by decide +kernel
theorem dX12_bodyAt_65 : decode cX12_bodyAt 65 = .ok (.iadd, 1) := by decide +kernel
theorem dX12_bodyAt_66 : decode cX12_bodyAt 66 = .ok (.iaload, 1) := by decide +kernel
theorem dX12_bodyAt_67 : decode cX12_bodyAt 67 = .ok (.imul, 1) := by decide +kernel
theorem dX12_bodyAt_68 : decode cX12_bodyAt 68 = .ok (.iadd, 1) := by decide +kernel
theorem dX12_bodyAt_69 : decode cX12_bodyAt 69 = .ok (.istore 4, 2) := by decide +kernel
theorem dX12_bodyAt_71 : decode cX12_bodyAt 71 = .ok (.iload_n 3, 1) := by decide +kernel
theorem dX12_bodyAt_72 : decode cX12_bodyAt 72 = .ok (.iconst 0, 1) := by decide +kernel
theorem dX12_bodyAt_73 : decode cX12_bodyAt 73 = .ok (.aload_n 0, 1) := by decide +kernel
theorem dX12_bodyAt_74 : decode cX12_bodyAt 74 = .ok (.getfield 61, 3) := by decide +kernel
theorem dX12_bodyAt_77 : decode cX12_bodyAt 77 = .ok (.iconst 1, 1) := by decide +kernel
theorem dX12_bodyAt_78 : decode cX12_bodyAt 78 = .ok (.isub, 1) := by decide +kernel
theorem dX12_bodyAt_79 : decode cX12_bodyAt 79 = .ok (.invokestatic 71, 3) := by decide +kernel
theorem dX12_bodyAt_82 : decode cX12_bodyAt 82 = .ok (.ifCond .eq 30, 3) := by decide +kernel
theorem dX12_bodyAt_85 : decode cX12_bodyAt 85 = .ok (.iload 4, 2) := by decide +kernel
theorem dX12_bodyAt_87 : decode cX12_bodyAt 87 = .ok (.iconst 0, 1) := by decide +kernel
theorem dX12_bodyAt_88 : decode cX12_bodyAt 88 = .ok (.aload_n 0, 1) := by decide +kernel
theorem dX12_bodyAt_89 : decode cX12_bodyAt 89 = .ok (.getfield 64, 3) := by decide +kernel
theorem dX12_bodyAt_92 : decode cX12_bodyAt 92 = .ok (.iconst 1, 1) := by decide +kernel
theorem dX12_bodyAt_93 : decode cX12_bodyAt 93 = .ok (.isub, 1) := by decide +kernel
theorem dX12_bodyAt_94 : decode cX12_bodyAt 94 = .ok (.invokestatic 71, 3) := by decide +kernel
theorem dX12_bodyAt_97 : decode cX12_bodyAt 97 = .ok (.ifCond .eq 15, 3) := by decide +kernel
theorem dX12_bodyAt_100 : decode cX12_bodyAt 100 = .ok (.iload 4, 2) := by decide +kernel
theorem dX12_bodyAt_102 : decode cX12_bodyAt 102 = .ok (.aload_n 0, 1) := by decide +kernel
theorem dX12_bodyAt_103 : decode cX12_bodyAt 103 = .ok (.getfield 61, 3) := by decide +kernel
theorem dX12_bodyAt_106 : decode cX12_bodyAt 106 = .ok (.imul, 1) := by decide +kernel
theorem dX12_bodyAt_107 : decode cX12_bodyAt 107 = .ok (.iload_n 3, 1) := by decide +kernel
theorem dX12_bodyAt_108 : decode cX12_bodyAt 108 = .ok (.iadd, 1) := by decide +kernel
theorem dX12_bodyAt_109 : decode cX12_bodyAt 109 = .ok (.goto 4, 3) := by decide +kernel
theorem dX12_bodyAt_112 : decode cX12_bodyAt 112 = .ok (.iconst (-1), 1) := by decide +kernel
theorem dX12_bodyAt_113 : decode cX12_bodyAt 113 = .ok (.ireturn, 1) := by decide +kernel
set_option maxRecDepth 20000 in
theorem ggX12_markAt_X12_bodyAt : GoodIn wsX12_markAt wsX12_bodyAt := goodIn_r _ [6, 1, 7, 8, 9, 10, 5, 11, 12, 13, 14, 15, 16, 17, 18, 19, 20, 21, 22, 23, 24, 25, 26, 27, 28, 29, 30, 31, 32, 33, 34, 35, 36, 37, 38, 39, 40, 41, 42, 43, 44, 45, 46, 47, 48, 49, 50, 51, 52, 53, 54] (by decide +kernel) (by decide +kernel)
set_option maxRecDepth 20000 in
theorem gX12_markAt_X12_bodyAt : GoodIn wsX12_markAt (wsV RX12 79 RX12 yX12_bodyAt wsX12_bodyAt) := goodIn_app (goodIn_of _ (by decide +kernel)) ggX12_markAt_X12_bodyAt
theorem dX12_markAt_0 : decode cX12_markAt 0 = .ok (.iconst 0, 1) := by decide +kernel
theorem dX12_markAt_1 : decode cX12_markAt 1 = .ok (.istore_n 3, 1) := by decide +kernel
theorem dX12_markAt_2 : decode cX12_markAt 2 = .ok (.iload_n 3, 1) := by decide +kernel
theorem dX12_markAt_3 : decode cX12_markAt 3 = .ok (.aload_n 0, 1) := by decide +kernel
theorem dX12_markAt_4 : decode cX12_markAt 4 = .ok (.getfield 7, 3) := by decide +kernel
theorem dX12_markAt_7 : decode cX12_markAt 7 = .ok (.iconst 0, 1) := by decide +kernel
theorem dX12_markAt_8 : decode cX12_markAt 8 = .ok (.iaload, 1) := by decide +kernel
theorem dX12_markAt_9 : decode cX12_markAt 9 = .ok (.if_icmp .ge 34, 3) := by decide +kernel
theorem dX12_markAt_12 : decode cX12_markAt 12 = .ok (.aload_n 0, 1) := by decide +kernel
theorem dX12_markAt_13 : decode cX12_markAt 13 = .ok (.iload_n 3, 1) := by decide +kernel
theorem dX12_markAt_14 : decode cX12_markAt 14 = .ok (.iload_n 2, 1) := by decide +kernel
theorem dX12_markAt_15 : decode cX12_markAt 15 = .ok (.invokevirtual 79, 3) := by decide +kernel
theorem dX12_markAt_18 : decode cX12_markAt 18 = .ok (.iload_n 1, 1) := by decide +kernel
theorem dX12_markAt_19 : decode cX12_markAt 19 = .ok (.if_icmp .ne 18, 3) := by decide +kernel
theorem dX12_markAt_22 : decode cX12_markAt 22 = .ok (.aload_n 0, 1) := by decide +kernel
theorem dX12_markAt_23 : decode cX12_markAt 23 = .ok (.getfield 7, 3) := by decide +kernel
theorem dX12_markAt_26 : decode cX12_markAt 26 = .ok (.sipush 590, 3) := by decide +kernel
theorem dX12_markAt_29 : decode cX12_markAt 29 = .ok (.iconst 4, 1) := by decide +kernel
theorem dX12_markAt_30 : decode cX12_markAt 30 = .ok (.iload_n 3, 1) := by decide +kernel
theorem dX12_markAt_31 : decode cX12_markAt 31 = .ok (.imul, 1) := by decide +kernel
theorem dX12_markAt_32 : decode cX12_markAt 32 = .ok (.iadd, 1) := by decide +kernel
theorem dX12_markAt_33 : decode cX12_markAt 33 = .ok (.iconst 3, 1) := by decide +kernel
theorem dX12_markAt_34 : decode cX12_markAt 34 = .ok (.iadd, 1) := by decide +kernel
theorem dX12_markAt_35 : decode cX12_markAt 35 = .ok (.iaload, 1) := by decide +kernel
theorem dX12_markAt_36 : decode cX12_markAt 36 = .ok (.ireturn, 1) := by decide +kernel
theorem dX12_markAt_37 : decode cX12_markAt 37 = .ok (.iinc 3 1, 3) := by decide +kernel
theorem dX12_markAt_40 : decode cX12_markAt 40 = .ok (.goto (-38), 3) := by decide +kernel
theorem dX12_markAt_43 : decode cX12_markAt 43 = .ok (.aload_n 0, 1) := by decide +kernel
theorem dX12_markAt_44 : decode cX12_markAt 44 = .ok (.getfield 7, 3) := by decide +kernel
theorem dX12_markAt_47 : decode cX12_markAt 47 = .ok (.bipush 10, 2) := by decide +kernel
theorem dX12_markAt_49 : decode cX12_markAt 49 = .ok (.iload_n 1, 1) := by decide +kernel
theorem dX12_markAt_50 : decode cX12_markAt 50 = .ok (.iadd, 1) := by decide +kernel
theorem dX12_markAt_51 : decode cX12_markAt 51 = .ok (.iaload, 1) := by decide +kernel
theorem dX12_markAt_52 : decode cX12_markAt 52 = .ok (.ireturn, 1) := by decide +kernel
set_option maxRecDepth 20000 in
theorem ggX12_markOf_X12_isCell : GoodIn wsX12_markOf wsX12_isCell := goodIn_r _ [5, 6, 7, 8, 9, 4, 10, 23, 24, 25, 26, 27, 28, 29, 30, 31, 32, 33, 34, 35, 36, 37, 38, 39, 40, 41, 42, 43, 44, 45, 46, 47, 48, 49, 50, 51, 52, 53, 54, 55, 56, 57, 58, 59, 60, 61, 62, 63, 64, 65] (by decide +kernel) (by decide +kernel)
set_option maxRecDepth 20000 in
theorem gX12_markOf_X12_isCell : GoodIn wsX12_markOf (wsV RX12 75 RX12 yX12_isCell wsX12_isCell) := goodIn_app (goodIn_of _ (by decide +kernel)) ggX12_markOf_X12_isCell
set_option maxRecDepth 20000 in
theorem ggX12_markOf_X12_isTick : GoodIn wsX12_markOf wsX12_isTick := goodIn_r _ [13, 8, 9, 4, 10] (by decide +kernel) (by decide +kernel)
set_option maxRecDepth 20000 in
theorem gX12_markOf_X12_isTick : GoodIn wsX12_markOf (va_wsS RX12 83 yX12_isTick wsX12_isTick) := goodIn_app (goodIn_of _ (by decide +kernel)) ggX12_markOf_X12_isTick
set_option maxRecDepth 20000 in
theorem ggX12_markOf_X12_markAt : GoodIn wsX12_markOf wsX12_markAt := goodIn_r _ [17, 18, 19, 20, 21, 4, 22, 6, 7, 8, 9, 10, 23, 24, 25, 26, 27, 28, 29, 30, 31, 32, 33, 34, 35, 36, 37, 38, 39, 40, 41, 42, 43, 44, 45, 46, 47, 48, 49, 50, 51, 52, 53, 54, 55, 56, 57, 58, 59, 60, 61, 62, 63, 64, 65] (by decide +kernel) (by decide +kernel)
set_option maxRecDepth 20000 in
theorem gX12_markOf_X12_markAt : GoodIn wsX12_markOf (wsV RX12 86 RX12 yX12_markAt wsX12_markAt) := goodIn_app (goodIn_of _ (by decide +kernel)) ggX12_markOf_X12_markAt
theorem dX12_markOf_0 : decode cX12_markOf 0 = .ok (.aload_n 0, 1) := by decide +kernel
theorem dX12_markOf_1 : decode cX12_markOf 1 = .ok (.iload_n 1, 1) := by decide +kernel
theorem dX12_markOf_2 : decode cX12_markOf 2 = .ok (.invokevirtual 75, 3) := by decide +kernel
theorem dX12_markOf_5 : decode cX12_markOf 5 = .ok (.ifCond .eq 19, 3) := by decide +kernel
theorem dX12_markOf_8 : decode cX12_markOf 8 = .ok (.iload_n 2, 1) := by decide +kernel
theorem dX12_markOf_9 : decode cX12_markOf 9 = .ok (.invokestatic 83, 3) := by decide +kernel
theorem dX12_markOf_12 : decode cX12_markOf 12 = .ok (.ifCond .eq 12, 3) := by decide +kernel
theorem dX12_markOf_15 : decode cX12_markOf 15 = .ok (.aload_n 0, 1) := by decide +kernel
theorem dX12_markOf_16 : decode cX12_markOf 16 = .ok (.iload_n 1, 1) := by decide +kernel
theorem dX12_markOf_17 : decode cX12_markOf 17 = .ok (.iload_n 2, 1) := by decide +kernel
theorem dX12_markOf_18 : decode cX12_markOf 18 = .ok (.invokevirtual 86, 3) := by decide +kernel
theorem dX12_markOf_21 : decode cX12_markOf 21 = .ok (.goto 4, 3) := by decide +kernel
theorem dX12_markOf_24 : decode cX12_markOf 24 = .ok (.iconst (-1), 1) := by decide +kernel
theorem dX12_markOf_25 : decode cX12_markOf 25 = .ok (.ireturn, 1) := by decide +kernel
set_option maxRecDepth 20000 in
theorem ggX12_lay_X12_bodyAt : GoodIn wsX12_lay wsX12_bodyAt := goodIn_r _ [9, 4, 1, 2, 10, 11, 8, 12, 13, 14, 15, 16, 17, 18, 19, 20, 21, 22, 23, 24, 25, 26, 27, 28, 29, 30, 31, 32, 33, 34, 35, 36, 37, 38, 39, 40, 41, 42, 43, 44, 45, 46, 47, 48, 49, 50, 51, 52, 53, 54, 55] (by decide +kernel) (by decide +kernel)
set_option maxRecDepth 20000 in
theorem gX12_lay_X12_bodyAt : GoodIn wsX12_lay (wsV RX12 79 RX12 yX12_bodyAt wsX12_bodyAt) := goodIn_app (goodIn_of _ (by decide +kernel)) ggX12_lay_X12_bodyAt
theorem dX12_lay_0 : decode cX12_lay 0 = .ok (.iconst 0, 1) := by decide +kernel
theorem dX12_lay_1 : decode cX12_lay 1 = .ok (.istore_n 2, 1) := by decide +kernel
theorem dX12_lay_2 : decode cX12_lay 2 = .ok (.iload_n 2, 1) := by decide +kernel
theorem dX12_lay_3 : decode cX12_lay 3 = .ok (.aload_n 0, 1) := by decide +kernel
theorem dX12_lay_4 : decode cX12_lay 4 = .ok (.getfield 61, 3) := by decide +kernel
theorem dX12_lay_7 : decode cX12_lay 7 = .ok (.aload_n 0, 1) := by decide +kernel
theorem dX12_lay_8 : decode cX12_lay 8 = .ok (.getfield 64, 3) := by decide +kernel
theorem dX12_lay_11 : decode cX12_lay 11 = .ok (.imul, 1) := by decide +kernel
theorem dX12_lay_12 : decode cX12_lay 12 = .ok (.if_icmp .ge 24, 3) := by decide +kernel
theorem dX12_lay_15 : decode cX12_lay 15 = .ok (.aload_n 0, 1) := by decide +kernel
theorem dX12_lay_16 : decode cX12_lay 16 = .ok (.getfield 19, 3) := by decide +kernel
theorem dX12_lay_19 : decode cX12_lay 19 = .ok (.iload_n 2, 1) := by decide +kernel
theorem dX12_lay_20 : decode cX12_lay 20 = .ok (.aload_n 0, 1) := by decide +kernel
theorem dX12_lay_21 : decode cX12_lay 21 = .ok (.getfield 7, 3) := by decide +kernel
theorem dX12_lay_24 : decode cX12_lay 24 = .ok (.bipush 10, 2) := by decide +kernel
theorem dX12_lay_26 : decode cX12_lay 26 = .ok (.iload_n 2, 1) := by decide +kernel
theorem dX12_lay_27 : decode cX12_lay 27 = .ok (.iadd, 1) := by decide +kernel
theorem dX12_lay_28 : decode cX12_lay 28 = .ok (.iaload, 1) := by decide +kernel
theorem dX12_lay_29 : decode cX12_lay 29 = .ok (.iastore, 1) := by decide +kernel
theorem dX12_lay_30 : decode cX12_lay 30 = .ok (.iinc 2 1, 3) := by decide +kernel
theorem dX12_lay_33 : decode cX12_lay 33 = .ok (.goto (-31), 3) := by decide +kernel
theorem dX12_lay_36 : decode cX12_lay 36 = .ok (.aload_n 0, 1) := by decide +kernel
theorem dX12_lay_37 : decode cX12_lay 37 = .ok (.getfield 7, 3) := by decide +kernel
theorem dX12_lay_40 : decode cX12_lay 40 = .ok (.iconst 0, 1) := by decide +kernel
theorem dX12_lay_41 : decode cX12_lay 41 = .ok (.iaload, 1) := by decide +kernel
theorem dX12_lay_42 : decode cX12_lay 42 = .ok (.iconst 1, 1) := by decide +kernel
theorem dX12_lay_43 : decode cX12_lay 43 = .ok (.isub, 1) := by decide +kernel
theorem dX12_lay_44 : decode cX12_lay 44 = .ok (.istore_n 2, 1) := by decide +kernel
theorem dX12_lay_45 : decode cX12_lay 45 = .ok (.iload_n 2, 1) := by decide +kernel
theorem dX12_lay_46 : decode cX12_lay 46 = .ok (.ifCond .lt 43, 3) := by decide +kernel
theorem dX12_lay_49 : decode cX12_lay 49 = .ok (.aload_n 0, 1) := by decide +kernel
theorem dX12_lay_50 : decode cX12_lay 50 = .ok (.iload_n 2, 1) := by decide +kernel
theorem dX12_lay_51 : decode cX12_lay 51 = .ok (.iload_n 1, 1) := by decide +kernel
theorem dX12_lay_52 : decode cX12_lay 52 = .ok (.invokevirtual 79, 3) := by decide +kernel
theorem dX12_lay_55 : decode cX12_lay 55 = .ok (.ifCond .lt 28, 3) := by decide +kernel
theorem dX12_lay_58 : decode cX12_lay 58 = .ok (.aload_n 0, 1) := by decide +kernel
theorem dX12_lay_59 : decode cX12_lay 59 = .ok (.getfield 19, 3) := by decide +kernel
theorem dX12_lay_62 : decode cX12_lay 62 = .ok (.aload_n 0, 1) := by decide +kernel
theorem dX12_lay_63 : decode cX12_lay 63 = .ok (.iload_n 2, 1) := by decide +kernel
theorem dX12_lay_64 : decode cX12_lay 64 = .ok (.iload_n 1, 1) := by decide +kernel
theorem dX12_lay_65 : decode cX12_lay 65 = .ok (.invokevirtual 79, 3) := by decide +kernel
theorem dX12_lay_68 : decode cX12_lay 68 = .ok (.aload_n 0, 1) := by decide +kernel
theorem dX12_lay_69 : decode cX12_lay 69 = .ok (.getfield 7, 3) := by decide +kernel
theorem dX12_lay_72 : decode cX12_lay 72 = .ok (.sipush 590, 3) := by decide +kernel
theorem dX12_lay_75 : decode cX12_lay 75 = .ok (.iconst 4, 1) := by decide +kernel
theorem dX12_lay_76 : decode cX12_lay 76 = .ok (.iload_n 2, 1) := by decide +kernel
theorem dX12_lay_77 : decode cX12_lay 77 = .ok (.imul, 1) := by decide +kernel
theorem dX12_lay_78 : decode cX12_lay 78 = .ok (.iadd, 1) := by decide +kernel
theorem dX12_lay_79 : decode cX12_lay 79 = .ok (.iconst 3, 1) := by decide +kernel
theorem dX12_lay_80 : decode cX12_lay 80 = .ok (.iadd, 1) := by decide +kernel
theorem dX12_lay_81 : decode cX12_lay 81 = .ok (.iaload, 1) := by decide +kernel
theorem dX12_lay_82 : decode cX12_lay 82 = .ok (.iastore, 1) := by decide +kernel
theorem dX12_lay_83 : decode cX12_lay 83 = .ok (.iinc 2 (-1), 3) := by decide +kernel
theorem dX12_lay_86 : decode cX12_lay 86 = .ok (.goto (-41), 3) := by decide +kernel
theorem dX12_lay_89 : decode cX12_lay 89 = .ok (.return_, 1) := by decide +kernel
theorem dX12_wayX_0 : decode cX12_wayX 0 = .ok (.iconst 2, 1) := by decide +kernel
theorem dX12_wayX_1 : decode cX12_wayX 1 = .ok (.iload_n 0, 1) := by decide +kernel
theorem dX12_wayX_2 : decode cX12_wayX 2 = .ok (.bipush 16, 2) := by decide +kernel
theorem dX12_wayX_4 : decode cX12_wayX 4 = .ok (.irem, 1) := by decide +kernel
theorem dX12_wayX_5 : decode cX12_wayX 5 = .ok (.imul, 1) := by decide +kernel
theorem dX12_wayX_6 : decode cX12_wayX 6 = .ok (.bipush 16, 2) := by decide +kernel
theorem dX12_wayX_8 : decode cX12_wayX 8 = .ok (.isub, 1) := by decide +kernel
theorem dX12_wayX_9 : decode cX12_wayX 9 = .ok (.istore_n 1, 1) := by decide +kernel
theorem dX12_wayX_10 : decode cX12_wayX 10 = .ok (.iload_n 0, 1) := by decide +kernel
theorem dX12_wayX_11 : decode cX12_wayX 11 = .ok (.bipush 16, 2) := by decide +kernel
theorem dX12_wayX_13 : decode cX12_wayX 13 = .ok (.idiv, 1) := by decide +kernel
theorem dX12_wayX_14 : decode cX12_wayX 14 = .ok (.istore_n 2, 1) := by decide +kernel
theorem dX12_wayX_15 : decode cX12_wayX 15 = .ok (.iload_n 2, 1) := by decide +kernel
theorem dX12_wayX_16 : decode cX12_wayX 16 = .ok (.ifCond .ne 8, 3) := by decide +kernel
theorem dX12_wayX_19 : decode cX12_wayX 19 = .ok (.bipush 16, 2) := by decide +kernel
theorem dX12_wayX_21 : decode cX12_wayX 21 = .ok (.goto 24, 3) := by decide +kernel
theorem dX12_wayX_24 : decode cX12_wayX 24 = .ok (.iload_n 2, 1) := by decide +kernel
theorem dX12_wayX_25 : decode cX12_wayX 25 = .ok (.iconst 1, 1) := by decide +kernel
theorem dX12_wayX_26 : decode cX12_wayX 26 = .ok (.if_icmp .ne 8, 3) := by decide +kernel
theorem dX12_wayX_29 : decode cX12_wayX 29 = .ok (.iload_n 1, 1) := by decide +kernel
theorem dX12_wayX_30 : decode cX12_wayX 30 = .ok (.ineg, 1) := by decide +kernel
theorem dX12_wayX_31 : decode cX12_wayX 31 = .ok (.goto 14, 3) := by decide +kernel
theorem dX12_wayX_34 : decode cX12_wayX 34 = .ok (.iload_n 2, 1) := by decide +kernel
theorem dX12_wayX_35 : decode cX12_wayX 35 = .ok (.iconst 2, 1) := by decide +kernel
theorem dX12_wayX_36 : decode cX12_wayX 36 = .ok (.if_icmp .ne 8, 3) := by decide +kernel
theorem dX12_wayX_39 : decode cX12_wayX 39 = .ok (.bipush (-16), 2) := by decide +kernel
theorem dX12_wayX_41 : decode cX12_wayX 41 = .ok (.goto 4, 3) := by decide +kernel
theorem dX12_wayX_44 : decode cX12_wayX 44 = .ok (.iload_n 1, 1) := by decide +kernel
theorem dX12_wayX_45 : decode cX12_wayX 45 = .ok (.ireturn, 1) := by decide +kernel
theorem dX12_wayY_0 : decode cX12_wayY 0 = .ok (.iconst 2, 1) := by decide +kernel
theorem dX12_wayY_1 : decode cX12_wayY 1 = .ok (.iload_n 0, 1) := by decide +kernel
theorem dX12_wayY_2 : decode cX12_wayY 2 = .ok (.bipush 16, 2) := by decide +kernel
theorem dX12_wayY_4 : decode cX12_wayY 4 = .ok (.irem, 1) := by decide +kernel
theorem dX12_wayY_5 : decode cX12_wayY 5 = .ok (.imul, 1) := by decide +kernel
theorem dX12_wayY_6 : decode cX12_wayY 6 = .ok (.bipush 16, 2) := by decide +kernel
theorem dX12_wayY_8 : decode cX12_wayY 8 = .ok (.isub, 1) := by decide +kernel
theorem dX12_wayY_9 : decode cX12_wayY 9 = .ok (.istore_n 1, 1) := by decide +kernel
theorem dX12_wayY_10 : decode cX12_wayY 10 = .ok (.iload_n 0, 1) := by decide +kernel
theorem dX12_wayY_11 : decode cX12_wayY 11 = .ok (.bipush 16, 2) := by decide +kernel
theorem dX12_wayY_13 : decode cX12_wayY 13 = .ok (.idiv, 1) := by decide +kernel
theorem dX12_wayY_14 : decode cX12_wayY 14 = .ok (.istore_n 2, 1) := by decide +kernel
theorem dX12_wayY_15 : decode cX12_wayY 15 = .ok (.iload_n 2, 1) := by decide +kernel
theorem dX12_wayY_16 : decode cX12_wayY 16 = .ok (.ifCond .ne 7, 3) := by decide +kernel
theorem dX12_wayY_19 : decode cX12_wayY 19 = .ok (.iload_n 1, 1) := by decide +kernel
theorem dX12_wayY_20 : decode cX12_wayY 20 = .ok (.goto 25, 3) := by decide +kernel
theorem dX12_wayY_23 : decode cX12_wayY 23 = .ok (.iload_n 2, 1) := by decide +kernel
theorem dX12_wayY_24 : decode cX12_wayY 24 = .ok (.iconst 1, 1) := by decide +kernel
theorem dX12_wayY_25 : decode cX12_wayY 25 = .ok (.if_icmp .ne 8, 3) := by decide +kernel
theorem dX12_wayY_28 : decode cX12_wayY 28 = .ok (.bipush 16, 2) := by decide +kernel
theorem dX12_wayY_30 : decode cX12_wayY 30 = .ok (.goto 15, 3) := by decide +kernel
theorem dX12_wayY_33 : decode cX12_wayY 33 = .ok (.iload_n 2, 1) := by decide +kernel
theorem dX12_wayY_34 : decode cX12_wayY 34 = .ok (.iconst 2, 1) := by decide +kernel
theorem dX12_wayY_35 : decode cX12_wayY 35 = .ok (.if_icmp .ne 8, 3) := by decide +kernel
theorem dX12_wayY_38 : decode cX12_wayY 38 = .ok (.iload_n 1, 1) := by decide +kernel
theorem dX12_wayY_39 : decode cX12_wayY 39 = .ok (.ineg, 1) := by decide +kernel
theorem dX12_wayY_40 : decode cX12_wayY 40 = .ok (.goto 5, 3) := by decide +kernel
theorem dX12_wayY_43 : decode cX12_wayY 43 = .ok (.bipush (-16), 2) := by decide +kernel
theorem dX12_wayY_45 : decode cX12_wayY 45 = .ok (.ireturn, 1) := by decide +kernel
set_option maxRecDepth 20000 in
theorem ggX12_shoot_X12_wayX : GoodIn wsX12_shoot wsX12_wayX := goodIn_r _ [9] (by decide +kernel) (by decide +kernel)
set_option maxRecDepth 20000 in
theorem gX12_shoot_X12_wayX : GoodIn wsX12_shoot (va_wsS RX12 89 yX12_wayX wsX12_wayX) := goodIn_app (goodIn_of _ (by decide +kernel)) ggX12_shoot_X12_wayX
set_option maxRecDepth 20000 in
theorem ggX12_shoot_X12_floor : GoodIn wsX12_shoot wsX12_floor := goodIn_r _ [12] (by decide +kernel) (by decide +kernel)
set_option maxRecDepth 20000 in
theorem gX12_shoot_X12_floor : GoodIn wsX12_shoot (va_wsS RX12 93 yX12_floor wsX12_floor) := goodIn_app (goodIn_of _ (by decide +kernel)) ggX12_shoot_X12_floor
set_option maxRecDepth 20000 in
theorem ggX12_shoot_X12_wayY : GoodIn wsX12_shoot wsX12_wayY := goodIn_r _ [15] (by decide +kernel) (by decide +kernel)
set_option maxRecDepth 20000 in
theorem gX12_shoot_X12_wayY : GoodIn wsX12_shoot (va_wsS RX12 96 yX12_wayY wsX12_wayY) := goodIn_app (goodIn_of _ (by decide +kernel)) ggX12_shoot_X12_wayY
set_option maxRecDepth 20000 in
theorem ggX12_shoot_X12_isIn : GoodIn wsX12_shoot wsX12_isIn := goodIn_r _ [18] (by decide +kernel) (by decide +kernel)
set_option maxRecDepth 20000 in
theorem gX12_shoot_X12_isIn : GoodIn wsX12_shoot (va_wsS RX12 71 yX12_isIn wsX12_isIn) := goodIn_app (goodIn_of _ (by decide +kernel)) ggX12_shoot_X12_isIn
theorem dX12_shoot_0 : decode cX12_shoot 0 = .ok (.aload_n 0, 1) := by decide +kernel
theorem dX12_shoot_1 : decode cX12_shoot 1 = .ok (.getfield 22, 3) := by decide +kernel
theorem dX12_shoot_4 : decode cX12_shoot 4 = .ok (.iload_n 3, 1) := by decide +kernel
theorem dX12_shoot_5 : decode cX12_shoot 5 = .ok (.iconst 0, 1) := by decide +kernel
theorem dX12_shoot_6 : decode cX12_shoot 6 = .ok (.iastore, 1) := by decide +kernel
theorem dX12_shoot_7 : decode cX12_shoot 7 = .ok (.aload_n 0, 1) := by decide +kernel
theorem dX12_shoot_8 : decode cX12_shoot 8 = .ok (.getfield 25, 3) := by decide +kernel
theorem dX12_shoot_11 : decode cX12_shoot 11 = .ok (.iload_n 3, 1) := by decide +kernel
theorem dX12_shoot_12 : decode cX12_shoot 12 = .ok (.bipush 41, 2) := by decide +kernel
theorem dX12_shoot_14 : decode cX12_shoot 14 = .ok (.iastore, 1) := by decide +kernel
theorem dX12_shoot_15 : decode cX12_shoot 15 = .ok (.iconst 1, 1) := by decide +kernel
theorem dX12_shoot_16 : decode cX12_shoot 16 = .ok (.istore 4, 2) := by decide +kernel
theorem dX12_shoot_18 : decode cX12_shoot 18 = .ok (.iload 4, 2) := by decide +kernel
theorem dX12_shoot_20 : decode cX12_shoot 20 = .ok (.bipush 40, 2) := by decide +kernel
theorem dX12_shoot_22 : decode cX12_shoot 22 = .ok (.if_icmp .gt 123, 3) := by decide +kernel
theorem dX12_shoot_25 : decode cX12_shoot 25 = .ok (.iload_n 1, 1) := by decide +kernel
theorem dX12_shoot_26 : decode cX12_shoot 26 = .ok (.iload 4, 2) := by decide +kernel
theorem dX12_shoot_28 : decode cX12_shoot 28 = .ok (.iload_n 3, 1) := by decide +kernel
theorem dX12_shoot_29 : decode cX12_shoot 29 = .ok (.invokestatic 89, 3) := by decide +kernel
theorem dX12_shoot_32 : decode cX12_shoot 32 = .ok (.imul, 1) := by decide +kernel
theorem dX12_shoot_33 : decode cX12_shoot 33 = .ok (.iadd, 1) := by decide +kernel
theorem dX12_shoot_34 : decode cX12_shoot 34 = .ok (.bipush 16, 2) := by decide +kernel
theorem dX12_shoot_36 : decode cX12_shoot 36 = .ok (.invokestatic 93, 3) := by decide +kernel
theorem dX12_shoot_39 : decode cX12_shoot 39 = .ok (.istore 5, 2) := by decide +kernel
theorem dX12_shoot_41 : decode cX12_shoot 41 = .ok (.iload_n 2, 1) := by decide +kernel
theorem dX12_shoot_42 : decode cX12_shoot 42 = .ok (.iload 4, 2) := by decide +kernel
theorem dX12_shoot_44 : decode cX12_shoot 44 = .ok (.iload_n 3, 1) := by decide +kernel
theorem dX12_shoot_45 : decode cX12_shoot 45 = .ok (.invokestatic 96, 3) := by decide +kernel
theorem dX12_shoot_48 : decode cX12_shoot 48 = .ok (.imul, 1) := by decide +kernel
theorem dX12_shoot_49 : decode cX12_shoot 49 = .ok (.iadd, 1) := by decide +kernel
theorem dX12_shoot_50 : decode cX12_shoot 50 = .ok (.bipush 16, 2) := by decide +kernel
theorem dX12_shoot_52 : decode cX12_shoot 52 = .ok (.invokestatic 93, 3) := by decide +kernel
theorem dX12_shoot_55 : decode cX12_shoot 55 = .ok (.istore 6, 2) := by decide +kernel
theorem dX12_shoot_57 : decode cX12_shoot 57 = .ok (.iload 5, 2) := by decide +kernel
theorem dX12_shoot_59 : decode cX12_shoot 59 = .ok (.iconst 0, 1) := by decide +kernel
theorem dX12_shoot_60 : decode cX12_shoot 60 = .ok (.aload_n 0, 1) := by decide +kernel
theorem dX12_shoot_61 : decode cX12_shoot 61 = .ok (.getfield 61, 3) := by decide +kernel
theorem dX12_shoot_64 : decode cX12_shoot 64 = .ok (.iconst 1, 1) := by decide +kernel
theorem dX12_shoot_65 : decode cX12_shoot 65 = .ok (.isub, 1) := by decide +kernel
theorem dX12_shoot_66 : decode cX12_shoot 66 = .ok (.invokestatic 71, 3) := by decide +kernel
theorem dX12_shoot_69 : decode cX12_shoot 69 = .ok (.ifCond .eq 18, 3) := by decide +kernel
theorem dX12_shoot_72 : decode cX12_shoot 72 = .ok (.iload 6, 2) := by decide +kernel
theorem dX12_shoot_74 : decode cX12_shoot 74 = .ok (.iconst 0, 1) := by decide +kernel
theorem dX12_shoot_75 : decode cX12_shoot 75 = .ok (.aload_n 0, 1) := by decide +kernel
theorem dX12_shoot_76 : decode cX12_shoot 76 = .ok (.getfield 64, 3) := by decide +kernel
theorem dX12_shoot_79 : decode cX12_shoot 79 = .ok (.iconst 1, 1) := by decide +kernel
theorem dX12_shoot_80 : decode cX12_shoot 80 = .ok (.isub, 1) := by decide +kernel
theorem dX12_shoot_81 : decode cX12_shoot 81 = .ok (.invokestatic 71, 3) := by decide +kernel
theorem dX12_shoot_84 : decode cX12_shoot 84 = .ok (.ifCond .ne 4, 3) := by decide +kernel
theorem dX12_shoot_87 : decode cX12_shoot 87 = .ok (.return_, 1) := by decide +kernel
theorem dX12_shoot_88 : decode cX12_shoot 88 = .ok (.aload_n 0, 1) := by decide +kernel
theorem dX12_shoot_89 : decode cX12_shoot 89 = .ok (.getfield 19, 3) := by decide +kernel
theorem dX12_shoot_92 : decode cX12_shoot 92 = .ok (.iload 6, 2) := by decide +kernel
theorem dX12_shoot_94 : decode cX12_shoot 94 = .ok (.aload_n 0, 1) := by decide +kernel
theorem dX12_shoot_95 : decode cX12_shoot 95 = .ok (.getfield 61, 3) := by decide +kernel
theorem dX12_shoot_98 : decode cX12_shoot 98 = .ok (.imul, 1) := by decide +kernel
theorem dX12_shoot_99 : decode cX12_shoot 99 = .ok (.iload 5, 2) := by decide +kernel
theorem dX12_shoot_101 : decode cX12_shoot 101 = .ok (.iadd, 1) := by decide +kernel
theorem dX12_shoot_102 : decode cX12_shoot 102 = .ok (.iaload, 1) := by decide +kernel
theorem dX12_shoot_103 : decode cX12_shoot 103 = .ok (.ifCond .ne 6, 3) := by decide +kernel
theorem dX12_shoot_106 : decode cX12_shoot 106 = .ok (.goto 33, 3) := by decide +kernel
theorem dX12_shoot_109 : decode cX12_shoot 109 = .ok (.aload_n 0, 1) := by decide +kernel
theorem dX12_shoot_110 : decode cX12_shoot 110 = .ok (.getfield 22, 3) := by decide +kernel
theorem dX12_shoot_113 : decode cX12_shoot 113 = .ok (.iload_n 3, 1) := by decide +kernel
theorem dX12_shoot_114 : decode cX12_shoot 114 = .ok (.aload_n 0, 1) := by decide +kernel
theorem dX12_shoot_115 : decode cX12_shoot 115 = .ok (.getfield 19, 3) := by decide +kernel
theorem dX12_shoot_118 : decode cX12_shoot 118 = .ok (.iload 6, 2) := by decide +kernel
theorem dX12_shoot_120 : decode cX12_shoot 120 = .ok (.aload_n 0, 1) := by decide +kernel
theorem dX12_shoot_121 : decode cX12_shoot 121 = .ok (.getfield 61, 3) := by decide +kernel
theorem dX12_shoot_124 : decode cX12_shoot 124 = .ok (.imul, 1) := by decide +kernel
theorem dX12_shoot_125 : decode cX12_shoot 125 = .ok (.iload 5, 2) := by decide +kernel
theorem dX12_shoot_127 : decode cX12_shoot 127 = .ok (.iadd, 1) := by decide +kernel
theorem dX12_shoot_128 : decode cX12_shoot 128 = .ok (.iaload, 1) := by decide +kernel
theorem dX12_shoot_129 : decode cX12_shoot 129 = .ok (.iastore, 1) := by decide +kernel
theorem dX12_shoot_130 : decode cX12_shoot 130 = .ok (.aload_n 0, 1) := by decide +kernel
theorem dX12_shoot_131 : decode cX12_shoot 131 = .ok (.getfield 25, 3) := by decide +kernel
theorem dX12_shoot_134 : decode cX12_shoot 134 = .ok (.iload_n 3, 1) := by decide +kernel
theorem dX12_shoot_135 : decode cX12_shoot 135 = .ok (.iload 4, 2) := by decide +kernel
theorem dX12_shoot_137 : decode cX12_shoot 137 = .ok (.iastore, 1) := by decide +kernel
theorem dX12_shoot_138 : decode cX12_shoot 138 = .ok (.return_, 1) := by decide +kernel
theorem dX12_shoot_139 : decode cX12_shoot 139 = .ok (.iinc 4 1, 3) := by decide +kernel
theorem dX12_shoot_142 : decode cX12_shoot 142 = .ok (.goto (-124), 3) := by decide +kernel
theorem dX12_shoot_145 : decode cX12_shoot 145 = .ok (.return_, 1) := by decide +kernel
set_option maxRecDepth 20000 in
theorem ggX12_look_X12_lay : GoodIn wsX12_look wsX12_lay := goodIn_r _ [5, 6, 7, 8, 9, 10, 11, 12, 4, 13, 14, 15, 16, 32, 33, 34, 35, 36, 37, 38, 39, 40, 41, 42, 43, 44, 45, 46, 47, 48, 49, 50, 51, 52, 53, 54, 55, 56, 57, 58, 59, 60, 61, 62, 63, 64, 65, 66, 67, 68, 69, 70, 71, 72, 73, 74] (by decide +kernel) (by decide +kernel)
set_option maxRecDepth 20000 in
theorem gX12_look_X12_lay : GoodIn wsX12_look (wsV RX12 99 RX12 yX12_lay wsX12_lay) := goodIn_app (goodIn_of _ (by decide +kernel)) ggX12_look_X12_lay
set_option maxRecDepth 20000 in
theorem ggX12_look_X12_shoot : GoodIn wsX12_look wsX12_shoot := goodIn_r _ [20, 21, 22, 6, 7, 8, 23, 24, 4, 25, 26, 27, 28, 29, 30, 31, 14, 15, 16, 32, 33, 34, 35, 36, 37, 38, 39, 40, 41, 42, 43, 44, 45, 46, 47, 48, 49, 50, 51, 52, 53, 54, 55, 56, 57, 58, 59, 60, 61, 62, 63, 64, 65, 66, 67, 68, 69, 70, 71, 72, 73, 74] (by decide +kernel) (by decide +kernel)
set_option maxRecDepth 20000 in
theorem gX12_look_X12_shoot : GoodIn wsX12_look (wsV RX12 103 RX12 yX12_shoot wsX12_shoot) := goodIn_app (goodIn_of _ (by decide +kernel)) ggX12_look_X12_shoot
theorem dX12_look_0 : decode cX12_look 0 = .ok (.aload_n 0, 1) := by decide +kernel
theorem dX12_look_1 : decode cX12_look 1 = .ok (.iload_n 3, 1) := by decide +kernel
theorem dX12_look_2 : decode cX12_look 2 = .ok (.invokevirtual 99, 3) := by decide +kernel
theorem dX12_look_5 : decode cX12_look 5 = .ok (.iconst 0, 1) := by decide +kernel
theorem dX12_look_6 : decode cX12_look 6 = .ok (.istore 4, 2) := by decide +kernel
theorem dX12_look_8 : decode cX12_look 8 = .ok (.iload 4, 2) := by decide +kernel
theorem dX12_look_10 : decode cX12_look 10 = .ok (.bipush 64, 2) := by decide +kernel
theorem dX12_look_12 : decode cX12_look 12 = .ok (.if_icmp .ge 17, 3) := by decide +kernel
theorem dX12_look_15 : decode cX12_look 15 = .ok (.aload_n 0, 1) := by decide +kernel
theorem dX12_look_16 : decode cX12_look 16 = .ok (.iload_n 1, 1) := by decide +kernel
theorem dX12_look_17 : decode cX12_look 17 = .ok (.iload_n 2, 1) := by decide +kernel
theorem dX12_look_18 : decode cX12_look 18 = .ok (.iload 4, 2) := by decide +kernel
theorem dX12_look_20 : decode cX12_look 20 = .ok (.invokevirtual 103, 3) := by decide +kernel
theorem dX12_look_23 : decode cX12_look 23 = .ok (.iinc 4 1, 3) := by decide +kernel
theorem dX12_look_26 : decode cX12_look 26 = .ok (.goto (-18), 3) := by decide +kernel
theorem dX12_look_29 : decode cX12_look 29 = .ok (.return_, 1) := by decide +kernel
set_option maxRecDepth 20000 in
theorem ggX12_ray_X12_isPlace : GoodIn wsX12_ray wsX12_isPlace := goodIn_r _ [7, 8, 9, 10, 11, 6, 12, 42, 43, 44, 45, 46, 47, 48, 49, 50, 51, 52, 53, 54, 55, 56, 57, 58, 59, 60, 61, 62, 63, 64, 65, 66, 67, 68, 69, 70, 71, 72, 73, 74, 75, 76, 77, 78, 79, 80, 81, 82, 83, 84] (by decide +kernel) (by decide +kernel)
set_option maxRecDepth 20000 in
theorem gX12_ray_X12_isPlace : GoodIn wsX12_ray (wsV RX12 107 RX12 yX12_isPlace wsX12_isPlace) := goodIn_app (goodIn_of _ (by decide +kernel)) ggX12_ray_X12_isPlace
set_option maxRecDepth 20000 in
theorem ggX12_ray_X12_isSide : GoodIn wsX12_ray wsX12_isSide := goodIn_r _ [15, 10, 11, 6, 12] (by decide +kernel) (by decide +kernel)
set_option maxRecDepth 20000 in
theorem gX12_ray_X12_isSide : GoodIn wsX12_ray (va_wsS RX12 111 yX12_isSide wsX12_isSide) := goodIn_app (goodIn_of _ (by decide +kernel)) ggX12_ray_X12_isSide
set_option maxRecDepth 20000 in
theorem ggX12_ray_X12_isTick : GoodIn wsX12_ray wsX12_isTick := goodIn_r _ [18, 10, 11, 6, 12] (by decide +kernel) (by decide +kernel)
set_option maxRecDepth 20000 in
theorem gX12_ray_X12_isTick : GoodIn wsX12_ray (va_wsS RX12 83 yX12_isTick wsX12_isTick) := goodIn_app (goodIn_of _ (by decide +kernel)) ggX12_ray_X12_isTick
set_option maxRecDepth 20000 in
theorem ggX12_ray_X12_lay : GoodIn wsX12_ray wsX12_lay := goodIn_r _ [22, 8, 9, 23, 24, 25, 26, 27, 6, 28, 10, 11, 12, 42, 43, 44, 45, 46, 47, 48, 49, 50, 51, 52, 53, 54, 55, 56, 57, 58, 59, 60, 61, 62, 63, 64, 65, 66, 67, 68, 69, 70, 71, 72, 73, 74, 75, 76, 77, 78, 79, 80, 81, 82, 83, 84] (by decide +kernel) (by decide +kernel)
set_option maxRecDepth 20000 in
theorem gX12_ray_X12_lay : GoodIn wsX12_ray (wsV RX12 99 RX12 yX12_lay wsX12_lay) := goodIn_app (goodIn_of _ (by decide +kernel)) ggX12_ray_X12_lay
set_option maxRecDepth 20000 in
theorem ggX12_ray_X12_shoot : GoodIn wsX12_ray wsX12_shoot := goodIn_r _ [32, 2, 1, 8, 9, 23, 33, 34, 6, 35, 36, 37, 38, 39, 40, 41, 10, 11, 12, 42, 43, 44, 45, 46, 47, 48, 49, 50, 51, 52, 53, 54, 55, 56, 57, 58, 59, 60, 61, 62, 63, 64, 65, 66, 67, 68, 69, 70, 71, 72, 73, 74, 75, 76, 77, 78, 79, 80, 81, 82, 83, 84] (by decide +kernel) (by decide +kernel)
set_option maxRecDepth 20000 in
theorem gX12_ray_X12_shoot : GoodIn wsX12_ray (wsV RX12 103 RX12 yX12_shoot wsX12_shoot) := goodIn_app (goodIn_of _ (by decide +kernel)) ggX12_ray_X12_shoot
theorem dX12_ray_0 : decode cX12_ray 0 = .ok (.aload_n 0, 1) := by decide +kernel
theorem dX12_ray_1 : decode cX12_ray 1 = .ok (.iload_n 1, 1) := by decide +kernel
theorem dX12_ray_2 : decode cX12_ray 2 = .ok (.iload_n 2, 1) := by decide +kernel
theorem dX12_ray_3 : decode cX12_ray 3 = .ok (.invokevirtual 107, 3) := by decide +kernel
theorem dX12_ray_6 : decode cX12_ray 6 = .ok (.ifCond .eq 18, 3) := by decide +kernel
theorem dX12_ray_9 : decode cX12_ray 9 = .ok (.iload_n 3, 1) := by decide +kernel
theorem dX12_ray_10 : decode cX12_ray 10 = .ok (.invokestatic 111, 3) := by decide +kernel
theorem dX12_ray_13 : decode cX12_ray 13 = .ok (.ifCond .eq 11, 3) := by decide +kernel
theorem dX12_ray_16 : decode cX12_ray 16 = .ok (.iload 4, 2) := by decide +kernel
theorem dX12_ray_18 : decode cX12_ray 18 = .ok (.invokestatic 83, 3) := by decide +kernel
theorem dX12_ray_21 : decode cX12_ray 21 = .ok (.ifCond .ne 5, 3) := by decide +kernel
theorem dX12_ray_24 : decode cX12_ray 24 = .ok (.iconst (-1), 1) := by decide +kernel
theorem dX12_ray_25 : decode cX12_ray 25 = .ok (.ireturn, 1) := by decide +kernel
theorem dX12_ray_26 : decode cX12_ray 26 = .ok (.aload_n 0, 1) := by decide +kernel
theorem dX12_ray_27 : decode cX12_ray 27 = .ok (.iload 4, 2) := by decide +kernel
theorem dX12_ray_29 : decode cX12_ray 29 = .ok (.invokevirtual 99, 3) := by decide +kernel
theorem dX12_ray_32 : decode cX12_ray 32 = .ok (.aload_n 0, 1) := by decide +kernel
theorem dX12_ray_33 : decode cX12_ray 33 = .ok (.iload_n 1, 1) := by decide +kernel
theorem dX12_ray_34 : decode cX12_ray 34 = .ok (.iload_n 2, 1) := by decide +kernel
theorem dX12_ray_35 : decode cX12_ray 35 = .ok (.iload_n 3, 1) := by decide +kernel
theorem dX12_ray_36 : decode cX12_ray 36 = .ok (.invokevirtual 103, 3) := by decide +kernel
theorem dX12_ray_39 : decode cX12_ray 39 = .ok (.iload 5, 2) := by decide +kernel
theorem dX12_ray_41 : decode cX12_ray 41 = .ok (.ifCond .eq 12, 3) := by decide +kernel
theorem dX12_ray_44 : decode cX12_ray 44 = .ok (.aload_n 0, 1) := by decide +kernel
theorem dX12_ray_45 : decode cX12_ray 45 = .ok (.getfield 25, 3) := by decide +kernel
theorem dX12_ray_48 : decode cX12_ray 48 = .ok (.iload_n 3, 1) := by decide +kernel
theorem dX12_ray_49 : decode cX12_ray 49 = .ok (.iaload, 1) := by decide +kernel
theorem dX12_ray_50 : decode cX12_ray 50 = .ok (.goto 9, 3) := by decide +kernel
theorem dX12_ray_53 : decode cX12_ray 53 = .ok (.aload_n 0, 1) := by decide +kernel
theorem dX12_ray_54 : decode cX12_ray 54 = .ok (.getfield 22, 3) := by decide +kernel
theorem dX12_ray_57 : decode cX12_ray 57 = .ok (.iload_n 3, 1) := by decide +kernel
theorem dX12_ray_58 : decode cX12_ray 58 = .ok (.iaload, 1) := by decide +kernel
theorem dX12_ray_59 : decode cX12_ray 59 = .ok (.ireturn, 1) := by decide +kernel
set_option maxRecDepth 20000 in
theorem ggX12_lens_X12_isSide : GoodIn wsX12_lens wsX12_isSide := goodIn_r _ [5, 6, 7, 4, 8] (by decide +kernel) (by decide +kernel)
set_option maxRecDepth 20000 in
theorem gX12_lens_X12_isSide : GoodIn wsX12_lens (va_wsS RX12 111 yX12_isSide wsX12_isSide) := goodIn_app (goodIn_of _ (by decide +kernel)) ggX12_lens_X12_isSide
set_option maxRecDepth 20000 in
theorem ggX12_lens_X12_isIn : GoodIn wsX12_lens wsX12_isIn := goodIn_r _ [8] (by decide +kernel) (by decide +kernel)
set_option maxRecDepth 20000 in
theorem gX12_lens_X12_isIn : GoodIn wsX12_lens (va_wsS RX12 71 yX12_isIn wsX12_isIn) := goodIn_app (goodIn_of _ (by decide +kernel)) ggX12_lens_X12_isIn
theorem dX12_lens_0 : decode cX12_lens 0 = .ok (.iload_n 1, 1) := by decide +kernel
theorem dX12_lens_1 : decode cX12_lens 1 = .ok (.invokestatic 111, 3) := by decide +kernel
theorem dX12_lens_4 : decode cX12_lens 4 = .ok (.ifCond .eq 24, 3) := by decide +kernel
theorem dX12_lens_7 : decode cX12_lens 7 = .ok (.iload_n 2, 1) := by decide +kernel
theorem dX12_lens_8 : decode cX12_lens 8 = .ok (.iconst 0, 1) := by decide +kernel
theorem dX12_lens_9 : decode cX12_lens 9 = .ok (.bipush 7, 2) := by decide +kernel
theorem dX12_lens_11 : decode cX12_lens 11 = .ok (.invokestatic 71, 3) := by decide +kernel
theorem dX12_lens_14 : decode cX12_lens 14 = .ok (.ifCond .eq 14, 3) := by decide +kernel
theorem dX12_lens_17 : decode cX12_lens 17 = .ok (.aload_n 0, 1) := by decide +kernel
theorem dX12_lens_18 : decode cX12_lens 18 = .ok (.getfield 7, 3) := by decide +kernel
theorem dX12_lens_21 : decode cX12_lens 21 = .ok (.iconst 1, 1) := by decide +kernel
theorem dX12_lens_22 : decode cX12_lens 22 = .ok (.iaload, 1) := by decide +kernel
theorem dX12_lens_23 : decode cX12_lens 23 = .ok (.bipush 16, 2) := by decide +kernel
theorem dX12_lens_25 : decode cX12_lens 25 = .ok (.if_icmp .ne 5, 3) := by decide +kernel
theorem dX12_lens_28 : decode cX12_lens 28 = .ok (.iconst (-1), 1) := by decide +kernel
theorem dX12_lens_29 : decode cX12_lens 29 = .ok (.ireturn, 1) := by decide +kernel
theorem dX12_lens_30 : decode cX12_lens 30 = .ok (.aload_n 0, 1) := by decide +kernel
theorem dX12_lens_31 : decode cX12_lens 31 = .ok (.getfield 7, 3) := by decide +kernel
theorem dX12_lens_34 : decode cX12_lens 34 = .ok (.sipush 620, 3) := by decide +kernel
theorem dX12_lens_37 : decode cX12_lens 37 = .ok (.iconst 2, 1) := by decide +kernel
theorem dX12_lens_38 : decode cX12_lens 38 = .ok (.aload_n 0, 1) := by decide +kernel
theorem dX12_lens_39 : decode cX12_lens 39 = .ok (.getfield 7, 3) := by decide +kernel
theorem dX12_lens_42 : decode cX12_lens 42 = .ok (.iconst 1, 1) := by decide +kernel
theorem dX12_lens_43 : decode cX12_lens 43 = .ok (.iaload, 1) := by decide +kernel
theorem dX12_lens_44 : decode cX12_lens 44 = .ok (.imul, 1) := by decide +kernel
theorem dX12_lens_45 : decode cX12_lens 45 = .ok (.iadd, 1) := by decide +kernel
theorem dX12_lens_46 : decode cX12_lens 46 = .ok (.iload_n 1, 1) := by decide +kernel
theorem dX12_lens_47 : decode cX12_lens 47 = .ok (.iastore, 1) := by decide +kernel
theorem dX12_lens_48 : decode cX12_lens 48 = .ok (.aload_n 0, 1) := by decide +kernel
theorem dX12_lens_49 : decode cX12_lens 49 = .ok (.getfield 7, 3) := by decide +kernel
theorem dX12_lens_52 : decode cX12_lens 52 = .ok (.sipush 620, 3) := by decide +kernel
theorem dX12_lens_55 : decode cX12_lens 55 = .ok (.iconst 2, 1) := by decide +kernel
theorem dX12_lens_56 : decode cX12_lens 56 = .ok (.aload_n 0, 1) := by decide +kernel
theorem dX12_lens_57 : decode cX12_lens 57 = .ok (.getfield 7, 3) := by decide +kernel
theorem dX12_lens_60 : decode cX12_lens 60 = .ok (.iconst 1, 1) := by decide +kernel
theorem dX12_lens_61 : decode cX12_lens 61 = .ok (.iaload, 1) := by decide +kernel
theorem dX12_lens_62 : decode cX12_lens 62 = .ok (.imul, 1) := by decide +kernel
theorem dX12_lens_63 : decode cX12_lens 63 = .ok (.iadd, 1) := by decide +kernel
theorem dX12_lens_64 : decode cX12_lens 64 = .ok (.iconst 1, 1) := by decide +kernel
theorem dX12_lens_65 : decode cX12_lens 65 = .ok (.iadd, 1) := by decide +kernel
theorem dX12_lens_66 : decode cX12_lens 66 = .ok (.iload_n 2, 1) := by decide +kernel
theorem dX12_lens_67 : decode cX12_lens 67 = .ok (.iastore, 1) := by decide +kernel
theorem dX12_lens_68 : decode cX12_lens 68 = .ok (.aload_n 0, 1) := by decide +kernel
theorem dX12_lens_69 : decode cX12_lens 69 = .ok (.getfield 7, 3) := by decide +kernel
theorem dX12_lens_72 : decode cX12_lens 72 = .ok (.iconst 1, 1) := by decide +kernel
theorem dX12_lens_73 : decode cX12_lens 73 = .ok (.dup2, 1) := by decide +kernel
theorem dX12_lens_74 : decode cX12_lens 74 = .ok (.iaload, 1) := by decide +kernel
theorem dX12_lens_75 : decode cX12_lens 75 = .ok (.iconst 1, 1) := by decide +kernel
theorem dX12_lens_76 : decode cX12_lens 76 = .ok (.iadd, 1) := by decide +kernel
theorem dX12_lens_77 : decode cX12_lens 77 = .ok (.iastore, 1) := by decide +kernel
theorem dX12_lens_78 : decode cX12_lens 78 = .ok (.aload_n 0, 1) := by decide +kernel
theorem dX12_lens_79 : decode cX12_lens 79 = .ok (.getfield 7, 3) := by decide +kernel
theorem dX12_lens_82 : decode cX12_lens 82 = .ok (.iconst 1, 1) := by decide +kernel
theorem dX12_lens_83 : decode cX12_lens 83 = .ok (.iaload, 1) := by decide +kernel
theorem dX12_lens_84 : decode cX12_lens 84 = .ok (.iconst 1, 1) := by decide +kernel
theorem dX12_lens_85 : decode cX12_lens 85 = .ok (.isub, 1) := by decide +kernel
theorem dX12_lens_86 : decode cX12_lens 86 = .ok (.ireturn, 1) := by decide +kernel
set_option maxRecDepth 20000 in
theorem ggX12_isLens_X12_isIn : GoodIn wsX12_isLens wsX12_isIn := goodIn_r _ [5] (by decide +kernel) (by decide +kernel)
set_option maxRecDepth 20000 in
theorem gX12_isLens_X12_isIn : GoodIn wsX12_isLens (va_wsS RX12 71 yX12_isIn wsX12_isIn) := goodIn_app (goodIn_of _ (by decide +kernel)) ggX12_isLens_X12_isIn
theorem dX12_isLens_0 : decode cX12_isLens 0 = .ok (.iload_n 1, 1) := by decide +kernel
theorem dX12_isLens_1 : decode cX12_isLens 1 = .ok (.iconst 0, 1) := by decide +kernel
theorem dX12_isLens_2 : decode cX12_isLens 2 = .ok (.aload_n 0, 1) := by decide +kernel
theorem dX12_isLens_3 : decode cX12_isLens 3 = .ok (.getfield 7, 3) := by decide +kernel
theorem dX12_isLens_6 : decode cX12_isLens 6 = .ok (.iconst 1, 1) := by decide +kernel
theorem dX12_isLens_7 : decode cX12_isLens 7 = .ok (.iaload, 1) := by decide +kernel
theorem dX12_isLens_8 : decode cX12_isLens 8 = .ok (.iconst 1, 1) := by decide +kernel
theorem dX12_isLens_9 : decode cX12_isLens 9 = .ok (.isub, 1) := by decide +kernel
theorem dX12_isLens_10 : decode cX12_isLens 10 = .ok (.invokestatic 71, 3) := by decide +kernel
theorem dX12_isLens_13 : decode cX12_isLens 13 = .ok (.ireturn, 1) := by decide +kernel
set_option maxRecDepth 20000 in
theorem ggX12_pair_X12_isLens : GoodIn wsX12_pair wsX12_isLens := goodIn_r _ [6, 1, 7, 8, 5, 9, 10, 11, 12, 13, 14, 15, 16, 17, 18, 19, 20, 21, 22, 23, 24, 25, 26, 27, 28, 29, 30, 31, 32, 33, 34, 35, 36, 37, 38, 39, 40, 41, 42, 43, 44, 45, 46, 47, 48, 49, 50, 51, 52] (by decide +kernel) (by decide +kernel)
set_option maxRecDepth 20000 in
theorem gX12_pair_X12_isLens : GoodIn wsX12_pair (wsV RX12 114 RX12 yX12_isLens wsX12_isLens) := goodIn_app (goodIn_of _ (by decide +kernel)) ggX12_pair_X12_isLens
set_option maxRecDepth 20000 in
theorem ggX12_pair_X12_isIn : GoodIn wsX12_pair wsX12_isIn := goodIn_r _ [9] (by decide +kernel) (by decide +kernel)
set_option maxRecDepth 20000 in
theorem gX12_pair_X12_isIn : GoodIn wsX12_pair (va_wsS RX12 71 yX12_isIn wsX12_isIn) := goodIn_app (goodIn_of _ (by decide +kernel)) ggX12_pair_X12_isIn
theorem dX12_pair_0 : decode cX12_pair 0 = .ok (.aload_n 0, 1) := by decide +kernel
theorem dX12_pair_1 : decode cX12_pair 1 = .ok (.iload_n 1, 1) := by decide +kernel
theorem dX12_pair_2 : decode cX12_pair 2 = .ok (.invokevirtual 114, 3) := by decide +kernel
theorem dX12_pair_5 : decode cX12_pair 5 = .ok (.ifCond .eq 37, 3) := by decide +kernel
theorem dX12_pair_8 : decode cX12_pair 8 = .ok (.aload_n 0, 1) := by decide +kernel
theorem dX12_pair_9 : decode cX12_pair 9 = .ok (.iload_n 2, 1) := by decide +kernel
theorem dX12_pair_10 : decode cX12_pair 10 = .ok (.invokevirtual 114, 3) := by decide +kernel
theorem dX12_pair_13 : decode cX12_pair 13 = .ok (.ifCond .eq 29, 3) := by decide +kernel
theorem dX12_pair_16 : decode cX12_pair 16 = .ok (.iload_n 1, 1) := by decide +kernel
theorem dX12_pair_17 : decode cX12_pair 17 = .ok (.iload_n 2, 1) := by decide +kernel
theorem dX12_pair_18 : decode cX12_pair 18 = .ok (.if_icmp .eq 24, 3) := by decide +kernel
theorem dX12_pair_21 : decode cX12_pair 21 = .ok (.iload_n 3, 1) := by decide +kernel
theorem dX12_pair_22 : decode cX12_pair 22 = .ok (.iconst 1, 1) := by decide +kernel
theorem dX12_pair_23 : decode cX12_pair 23 = .ok (.bipush 8, 2) := by decide +kernel
theorem dX12_pair_25 : decode cX12_pair 25 = .ok (.invokestatic 71, 3) := by decide +kernel
theorem dX12_pair_28 : decode cX12_pair 28 = .ok (.ifCond .eq 14, 3) := by decide +kernel
theorem dX12_pair_31 : decode cX12_pair 31 = .ok (.aload_n 0, 1) := by decide +kernel
theorem dX12_pair_32 : decode cX12_pair 32 = .ok (.getfield 7, 3) := by decide +kernel
theorem dX12_pair_35 : decode cX12_pair 35 = .ok (.iconst 2, 1) := by decide +kernel
theorem dX12_pair_36 : decode cX12_pair 36 = .ok (.iaload, 1) := by decide +kernel
theorem dX12_pair_37 : decode cX12_pair 37 = .ok (.bipush 16, 2) := by decide +kernel
theorem dX12_pair_39 : decode cX12_pair 39 = .ok (.if_icmp .ne 5, 3) := by decide +kernel
theorem dX12_pair_42 : decode cX12_pair 42 = .ok (.iconst (-1), 1) := by decide +kernel
theorem dX12_pair_43 : decode cX12_pair 43 = .ok (.ireturn, 1) := by decide +kernel
theorem dX12_pair_44 : decode cX12_pair 44 = .ok (.sipush 660, 3) := by decide +kernel
theorem dX12_pair_47 : decode cX12_pair 47 = .ok (.iconst 3, 1) := by decide +kernel
theorem dX12_pair_48 : decode cX12_pair 48 = .ok (.aload_n 0, 1) := by decide +kernel
theorem dX12_pair_49 : decode cX12_pair 49 = .ok (.getfield 7, 3) := by decide +kernel
theorem dX12_pair_52 : decode cX12_pair 52 = .ok (.iconst 2, 1) := by decide +kernel
theorem dX12_pair_53 : decode cX12_pair 53 = .ok (.iaload, 1) := by decide +kernel
theorem dX12_pair_54 : decode cX12_pair 54 = .ok (.imul, 1) := by decide +kernel
theorem dX12_pair_55 : decode cX12_pair 55 = .ok (.iadd, 1) := by decide +kernel
theorem dX12_pair_56 : decode cX12_pair 56 = .ok (.istore 4, 2) := by decide +kernel
theorem dX12_pair_58 : decode cX12_pair 58 = .ok (.aload_n 0, 1) := by decide +kernel
theorem dX12_pair_59 : decode cX12_pair 59 = .ok (.getfield 7, 3) := by decide +kernel
theorem dX12_pair_62 : decode cX12_pair 62 = .ok (.iload 4, 2) := by decide +kernel
theorem dX12_pair_64 : decode cX12_pair 64 = .ok (.iload_n 1, 1) := by decide +kernel
theorem dX12_pair_65 : decode cX12_pair 65 = .ok (.iastore, 1) := by decide +kernel
theorem dX12_pair_66 : decode cX12_pair 66 = .ok (.aload_n 0, 1) := by decide +kernel
theorem dX12_pair_67 : decode cX12_pair 67 = .ok (.getfield 7, 3) := by decide +kernel
theorem dX12_pair_70 : decode cX12_pair 70 = .ok (.iload 4, 2) := by decide +kernel
theorem dX12_pair_72 : decode cX12_pair 72 = .ok (.iconst 1, 1) := by decide +kernel
theorem dX12_pair_73 : decode cX12_pair 73 = .ok (.iadd, 1) := by decide +kernel
theorem dX12_pair_74 : decode cX12_pair 74 = .ok (.iload_n 2, 1) := by decide +kernel
theorem dX12_pair_75 : decode cX12_pair 75 = .ok (.iastore, 1) := by decide +kernel
theorem dX12_pair_76 : decode cX12_pair 76 = .ok (.aload_n 0, 1) := by decide +kernel
theorem dX12_pair_77 : decode cX12_pair 77 = .ok (.getfield 7, 3) := by decide +kernel
theorem dX12_pair_80 : decode cX12_pair 80 = .ok (.iload 4, 2) := by decide +kernel
theorem dX12_pair_82 : decode cX12_pair 82 = .ok (.iconst 2, 1) := by decide +kernel
theorem dX12_pair_83 : decode cX12_pair 83 = .ok (.iadd, 1) := by decide +kernel
theorem dX12_pair_84 : decode cX12_pair 84 = .ok (.iload_n 3, 1) := by decide +kernel
theorem dX12_pair_85 : decode cX12_pair 85 = .ok (.iastore, 1) := by decide +kernel
theorem dX12_pair_86 : decode cX12_pair 86 = .ok (.aload_n 0, 1) := by decide +kernel
theorem dX12_pair_87 : decode cX12_pair 87 = .ok (.getfield 7, 3) := by decide +kernel
theorem dX12_pair_90 : decode cX12_pair 90 = .ok (.iconst 2, 1) := by decide +kernel
theorem dX12_pair_91 : decode cX12_pair 91 = .ok (.dup2, 1) := by decide +kernel
theorem dX12_pair_92 : decode cX12_pair 92 = .ok (.iaload, 1) := by decide +kernel
theorem dX12_pair_93 : decode cX12_pair 93 = .ok (.iconst 1, 1) := by decide +kernel
theorem dX12_pair_94 : decode cX12_pair 94 = .ok (.iadd, 1) := by decide +kernel
theorem dX12_pair_95 : decode cX12_pair 95 = .ok (.iastore, 1) := by decide +kernel
theorem dX12_pair_96 : decode cX12_pair 96 = .ok (.aload_n 0, 1) := by decide +kernel
theorem dX12_pair_97 : decode cX12_pair 97 = .ok (.getfield 7, 3) := by decide +kernel
theorem dX12_pair_100 : decode cX12_pair 100 = .ok (.iconst 2, 1) := by decide +kernel
theorem dX12_pair_101 : decode cX12_pair 101 = .ok (.iaload, 1) := by decide +kernel
theorem dX12_pair_102 : decode cX12_pair 102 = .ok (.iconst 1, 1) := by decide +kernel
theorem dX12_pair_103 : decode cX12_pair 103 = .ok (.isub, 1) := by decide +kernel
theorem dX12_pair_104 : decode cX12_pair 104 = .ok (.ireturn, 1) := by decide +kernel
set_option maxRecDepth 20000 in
theorem ggX12_takeOf_X12_abs : GoodIn wsX12_takeOf wsX12_abs := goodIn_r _ [5] (by decide +kernel) (by decide +kernel)
set_option maxRecDepth 20000 in
theorem gX12_takeOf_X12_abs : GoodIn wsX12_takeOf (va_wsS RX12 117 yX12_abs wsX12_abs) := goodIn_app (goodIn_of _ (by decide +kernel)) ggX12_takeOf_X12_abs
theorem dX12_takeOf_0 : decode cX12_takeOf 0 = .ok (.iconst 0, 1) := by decide +kernel
theorem dX12_takeOf_1 : decode cX12_takeOf 1 = .ok (.istore 4, 2) := by decide +kernel
theorem dX12_takeOf_3 : decode cX12_takeOf 3 = .ok (.iload_n 2, 1) := by decide +kernel
theorem dX12_takeOf_4 : decode cX12_takeOf 4 = .ok (.ineg, 1) := by decide +kernel
theorem dX12_takeOf_5 : decode cX12_takeOf 5 = .ok (.istore 5, 2) := by decide +kernel
theorem dX12_takeOf_7 : decode cX12_takeOf 7 = .ok (.iload 5, 2) := by decide +kernel
theorem dX12_takeOf_9 : decode cX12_takeOf 9 = .ok (.iload_n 2, 1) := by decide +kernel
theorem dX12_takeOf_10 : decode cX12_takeOf 10 = .ok (.if_icmp .gt 41, 3) := by decide +kernel
theorem dX12_takeOf_13 : decode cX12_takeOf 13 = .ok (.iload 4, 2) := by decide +kernel
theorem dX12_takeOf_15 : decode cX12_takeOf 15 = .ok (.iload_n 2, 1) := by decide +kernel
theorem dX12_takeOf_16 : decode cX12_takeOf 16 = .ok (.iconst 1, 1) := by decide +kernel
theorem dX12_takeOf_17 : decode cX12_takeOf 17 = .ok (.iadd, 1) := by decide +kernel
theorem dX12_takeOf_18 : decode cX12_takeOf 18 = .ok (.iload 5, 2) := by decide +kernel
theorem dX12_takeOf_20 : decode cX12_takeOf 20 = .ok (.invokestatic 117, 3) := by decide +kernel
theorem dX12_takeOf_23 : decode cX12_takeOf 23 = .ok (.isub, 1) := by decide +kernel
theorem dX12_takeOf_24 : decode cX12_takeOf 24 = .ok (.aload_n 0, 1) := by decide +kernel
theorem dX12_takeOf_25 : decode cX12_takeOf 25 = .ok (.getfield 22, 3) := by decide +kernel
theorem dX12_takeOf_28 : decode cX12_takeOf 28 = .ok (.iload_n 3, 1) := by decide +kernel
theorem dX12_takeOf_29 : decode cX12_takeOf 29 = .ok (.iload_n 1, 1) := by decide +kernel
theorem dX12_takeOf_30 : decode cX12_takeOf 30 = .ok (.iadd, 1) := by decide +kernel
theorem dX12_takeOf_31 : decode cX12_takeOf 31 = .ok (.iload 5, 2) := by decide +kernel
theorem dX12_takeOf_33 : decode cX12_takeOf 33 = .ok (.iadd, 1) := by decide +kernel
theorem dX12_takeOf_34 : decode cX12_takeOf 34 = .ok (.bipush 64, 2) := by decide +kernel
theorem dX12_takeOf_36 : decode cX12_takeOf 36 = .ok (.iadd, 1) := by decide +kernel
theorem dX12_takeOf_37 : decode cX12_takeOf 37 = .ok (.bipush 64, 2) := by decide +kernel
theorem dX12_takeOf_39 : decode cX12_takeOf 39 = .ok (.irem, 1) := by decide +kernel
theorem dX12_takeOf_40 : decode cX12_takeOf 40 = .ok (.iaload, 1) := by decide +kernel
theorem dX12_takeOf_41 : decode cX12_takeOf 41 = .ok (.imul, 1) := by decide +kernel
theorem dX12_takeOf_42 : decode cX12_takeOf 42 = .ok (.iadd, 1) := by decide +kernel
theorem dX12_takeOf_43 : decode cX12_takeOf 43 = .ok (.istore 4, 2) := by decide +kernel
theorem dX12_takeOf_45 : decode cX12_takeOf 45 = .ok (.iinc 5 1, 3) := by decide +kernel
theorem dX12_takeOf_48 : decode cX12_takeOf 48 = .ok (.goto (-41), 3) := by decide +kernel
theorem dX12_takeOf_51 : decode cX12_takeOf 51 = .ok (.iload 4, 2) := by decide +kernel
theorem dX12_takeOf_53 : decode cX12_takeOf 53 = .ok (.iload_n 2, 1) := by decide +kernel
theorem dX12_takeOf_54 : decode cX12_takeOf 54 = .ok (.iconst 1, 1) := by decide +kernel
theorem dX12_takeOf_55 : decode cX12_takeOf 55 = .ok (.iadd, 1) := by decide +kernel
theorem dX12_takeOf_56 : decode cX12_takeOf 56 = .ok (.iload_n 2, 1) := by decide +kernel
theorem dX12_takeOf_57 : decode cX12_takeOf 57 = .ok (.iconst 1, 1) := by decide +kernel
theorem dX12_takeOf_58 : decode cX12_takeOf 58 = .ok (.iadd, 1) := by decide +kernel
theorem dX12_takeOf_59 : decode cX12_takeOf 59 = .ok (.imul, 1) := by decide +kernel
theorem dX12_takeOf_60 : decode cX12_takeOf 60 = .ok (.idiv, 1) := by decide +kernel
theorem dX12_takeOf_61 : decode cX12_takeOf 61 = .ok (.ireturn, 1) := by decide +kernel
set_option maxRecDepth 20000 in
theorem ggX12_lensTake_X12_takeOf : GoodIn wsX12_lensTake wsX12_takeOf := goodIn_r _ [6, 7, 8, 9, 5, 10, 11, 12, 13, 14, 15, 16, 17, 18, 19, 20, 21, 22, 23, 24, 25, 26, 27, 28, 29, 30, 31, 32, 33, 34, 35, 36, 37, 38, 39, 40, 41, 42, 43, 44, 45, 46, 47, 48, 49, 50, 51, 52, 53] (by decide +kernel) (by decide +kernel)
set_option maxRecDepth 20000 in
theorem gX12_lensTake_X12_takeOf : GoodIn wsX12_lensTake (wsV RX12 120 RX12 yX12_takeOf wsX12_takeOf) := goodIn_app (goodIn_of _ (by decide +kernel)) ggX12_lensTake_X12_takeOf
