set_option maxRecDepth 20000 in
theorem wsL_law_in : ∀ w ∈ wsL_law, w ∈ lw_tbl := fun w h => (goodIn_p wsL_law [998, 93, 96, 101, 107, 111, 114, 162, 204, 241, 338, 360, 366, 421, 427, 1003, 1007, 515, 519, 522, 1143, 1147, 1150, 527, 531, 1154, 535, 538, 542, 546, 1158, 1161, 1165, 1169, 551, 554, 1201, 1180, 558, 562, 1205, 1209, 567, 571, 575, 582, 586, 1173, 1177, 1184, 1188, 1191, 1194, 1197, 594, 598, 602, 606, 609, 1213, 1217, 1221, 1225, 1228, 613, 617, 621, 627, 1232, 1236, 1240, 632, 637, 640, 1244, 646, 1248, 651, 655, 659, 663, 1252, 667, 671, 1256, 1260, 675, 1264, 679, 683, 687, 690, 695, 699, 705, 709, 712, 716, 721, 725, 764, 737, 757, 749, 753, 745, 761, 729, 733, 741, 768, 772, 776, 779, 784, 787, 1268, 1272, 1276, 1280, 1283, 1287, 1291, 1295, 1298, 1301, 1306, 1312, 1316, 1320, 1324, 1328, 1332, 1336, 1340, 1344, 1348, 1352, 1356, 1360, 1364, 800, 1369, 804, 808, 813, 820, 824, 828, 832, 836, 842, 846, 851, 855, 861, 865, 869, 872, 877, 881, 885, 1373, 1377, 1381, 1386, 1390, 1394, 1398, 1402, 1406, 1410, 1413, 893, 1420, 897, 902, 1424, 908, 912, 1429, 919, 1433, 923, 1437, 927, 931, 936, 940, 1441, 1445, 947, 951, 1449, 1453, 956, 960, 964, 967, 972, 977, 982, 1457, 987, 1461, 991, 995, 1465] (by decide +kernel) (by decide +kernel) w h).1
theorem inX0 : ∀ w ∈ wsX00, w ∈ lw_tbl := by decide +kernel
theorem inlX1 : ∀ w ∈ wsX10, w ∈ wsL_law := fun _ h => List.mem_append_left _ (List.mem_append_left _ (List.mem_append_left _ (List.mem_append_left _ (List.mem_append_left _ (List.mem_append_right _ h)))))
theorem inX1 : ∀ w ∈ wsX10, w ∈ lw_tbl := fun w h => wsL_law_in w (inlX1 w h)
theorem inlX2 : ∀ w ∈ wsX20, w ∈ wsL_law := fun _ h => List.mem_append_left _ (List.mem_append_left _ (List.mem_append_left _ (List.mem_append_right _ h)))
theorem inX2 : ∀ w ∈ wsX20, w ∈ lw_tbl := fun w h => wsL_law_in w (inlX2 w h)
theorem inlX3 : ∀ w ∈ wsX30, w ∈ wsL_law := fun _ h => List.mem_append_left _ (List.mem_append_left _ (List.mem_append_left _ (List.mem_append_left _ (List.mem_append_left _ (List.mem_append_left _ (List.mem_append_left _ (List.mem_append_left _ (List.mem_append_right _ h))))))))
theorem inX3 : ∀ w ∈ wsX30, w ∈ lw_tbl := fun w h => wsL_law_in w (inlX3 w h)
theorem inlX4 : ∀ w ∈ wsX40, w ∈ wsL_law := fun _ h => List.mem_append_left _ (List.mem_append_left _ (List.mem_append_left _ (List.mem_append_left _ (List.mem_append_left _ (List.mem_append_left _ (List.mem_append_left _ (List.mem_append_right _ h)))))))
theorem inX4 : ∀ w ∈ wsX40, w ∈ lw_tbl := fun w h => wsL_law_in w (inlX4 w h)
theorem inlX5 : ∀ w ∈ wsX50, w ∈ wsL_law := fun _ h => List.mem_append_left _ (List.mem_append_left _ (List.mem_append_left _ (List.mem_append_left _ (List.mem_append_right _ h))))
theorem inX5 : ∀ w ∈ wsX50, w ∈ lw_tbl := fun w h => wsL_law_in w (inlX5 w h)
theorem inlX6 : ∀ w ∈ wsX60, w ∈ wsL_law := fun _ h => List.mem_append_left _ (List.mem_append_left _ (List.mem_append_right _ h))
theorem inX6 : ∀ w ∈ wsX60, w ∈ lw_tbl := fun w h => wsL_law_in w (inlX6 w h)
theorem inlX7 : ∀ w ∈ wsX70, w ∈ wsL_law := fun _ h => List.mem_append_left _ (List.mem_append_left _ (List.mem_append_left _ (List.mem_append_left _ (List.mem_append_left _ (List.mem_append_left _ (List.mem_append_left _ (List.mem_append_left _ (List.mem_append_left _ (List.mem_append_right _ h)))))))))
theorem inX7 : ∀ w ∈ wsX70, w ∈ lw_tbl := fun w h => wsL_law_in w (inlX7 w h)
theorem inlX8 : ∀ w ∈ wsX80, w ∈ wsL_law := fun _ h => List.mem_append_left _ (List.mem_append_left _ (List.mem_append_left _ (List.mem_append_left _ (List.mem_append_left _ (List.mem_append_left _ (List.mem_append_left _ (List.mem_append_left _ (List.mem_append_left _ (List.mem_append_left _ (List.mem_append_right _ h))))))))))
theorem inX8 : ∀ w ∈ wsX80, w ∈ lw_tbl := fun w h => wsL_law_in w (inlX8 w h)
theorem inlX9 : ∀ w ∈ wsX90, w ∈ wsL_law := fun _ h => List.mem_append_left _ (List.mem_append_right _ h)
theorem inX9 : ∀ w ∈ wsX90, w ∈ lw_tbl := fun w h => wsL_law_in w (inlX9 w h)
theorem inlX10 : ∀ w ∈ wsX100, w ∈ wsL_law := fun _ h => List.mem_append_left _ (List.mem_append_left _ (List.mem_append_left _ (List.mem_append_left _ (List.mem_append_left _ (List.mem_append_left _ (List.mem_append_right _ h))))))
theorem inX10 : ∀ w ∈ wsX100, w ∈ lw_tbl := fun w h => wsL_law_in w (inlX10 w h)
theorem inlX11 : ∀ w ∈ wsX110, w ∈ wsL_law := fun _ h => List.mem_append_left _ (List.mem_append_left _ (List.mem_append_left _ (List.mem_append_left _ (List.mem_append_left _ (List.mem_append_left _ (List.mem_append_left _ (List.mem_append_left _ (List.mem_append_left _ (List.mem_append_left _ (List.mem_append_left _ (List.mem_append_left _ (List.mem_append_right _ h))))))))))))
theorem inX11 : ∀ w ∈ wsX110, w ∈ lw_tbl := fun w h => wsL_law_in w (inlX11 w h)
theorem inlX12 : ∀ w ∈ wsX120, w ∈ wsL_law := fun _ h => List.mem_append_left _ (List.mem_append_left _ (List.mem_append_left _ (List.mem_append_left _ (List.mem_append_left _ (List.mem_append_left _ (List.mem_append_left _ (List.mem_append_left _ (List.mem_append_left _ (List.mem_append_left _ (List.mem_append_left _ (List.mem_append_right _ h)))))))))))
theorem inX12 : ∀ w ∈ wsX120, w ∈ lw_tbl := fun w h => wsL_law_in w (inlX12 w h)
theorem inJx8e188 : ∀ w ∈ wsJx8e1880, w ∈ lw_tbl := by decide +kernel
theorem inJ6 : ∀ w ∈ wsJ60, w ∈ lw_tbl := by decide +kernel
theorem inJ9 : ∀ w ∈ wsJ90, w ∈ lw_tbl := by decide +kernel
theorem inJ10 : ∀ w ∈ wsJ100, w ∈ lw_tbl := by decide +kernel
theorem inJ7 : ∀ w ∈ wsJ70, w ∈ lw_tbl := by decide +kernel
theorem dX1_init_0 : decode cX1_init 0 = .ok (.aload_n 0, 1) := by decide +kernel
theorem dX1_init_1 : decode cX1_init 1 = .ok (.invokespecial 3, 3) := by decide +kernel
theorem dX1_init_4 : decode cX1_init 4 = .ok (.aload_n 0, 1) := by decide +kernel
theorem dX1_init_5 : decode cX1_init 5 = .ok (.bipush 16, 2) := by decide +kernel
theorem dX1_init_7 : decode cX1_init 7 = .ok (.newarray .int, 2) := by decide +kernel
theorem dX1_init_9 : decode cX1_init 9 = .ok (.putfield 9, 3) := by decide +kernel
theorem dX1_init_12 : decode cX1_init 12 = .ok (.aload_n 0, 1) := by decide +kernel
theorem dX1_init_13 : decode cX1_init 13 = .ok (.bipush 16, 2) := by decide +kernel
theorem dX1_init_15 : decode cX1_init 15 = .ok (.newarray .int, 2) := by decide +kernel
theorem dX1_init_17 : decode cX1_init 17 = .ok (.putfield 15, 3) := by decide +kernel
theorem dX1_init_20 : decode cX1_init 20 = .ok (.aload_n 0, 1) := by decide +kernel
theorem dX1_init_21 : decode cX1_init 21 = .ok (.bipush 16, 2) := by decide +kernel
theorem dX1_init_23 : decode cX1_init 23 = .ok (.newarray .int, 2) := by decide +kernel
theorem dX1_init_25 : decode cX1_init 25 = .ok (.putfield 18, 3) := by decide +kernel
theorem dX1_init_28 : decode cX1_init 28 = .ok (.aload_n 0, 1) := by decide +kernel
theorem dX1_init_29 : decode cX1_init 29 = .ok (.bipush 16, 2) := by decide +kernel
theorem dX1_init_31 : decode cX1_init 31 = .ok (.newarray .int, 2) := by decide +kernel
theorem dX1_init_33 : decode cX1_init 33 = .ok (.putfield 21, 3) := by decide +kernel
theorem dX1_init_36 : decode cX1_init 36 = .ok (.aload_n 0, 1) := by decide +kernel
theorem dX1_init_37 : decode cX1_init 37 = .ok (.bipush 16, 2) := by decide +kernel
theorem dX1_init_39 : decode cX1_init 39 = .ok (.newarray .int, 2) := by decide +kernel
theorem dX1_init_41 : decode cX1_init 41 = .ok (.putfield 24, 3) := by decide +kernel
theorem dX1_init_44 : decode cX1_init 44 = .ok (.return_, 1) := by decide +kernel
theorem dX1_allWeights_0 : decode cX1_allWeights 0 = .ok (.iload_n 0, 1) := by decide +kernel
theorem dX1_allWeights_1 : decode cX1_allWeights 1 = .ok (.iconst 1, 1) := by decide +kernel
theorem dX1_allWeights_2 : decode cX1_allWeights 2 = .ok (.iadd, 1) := by decide +kernel
theorem dX1_allWeights_3 : decode cX1_allWeights 3 = .ok (.iload_n 0, 1) := by decide +kernel
theorem dX1_allWeights_4 : decode cX1_allWeights 4 = .ok (.iconst 1, 1) := by decide +kernel
theorem dX1_allWeights_5 : decode cX1_allWeights 5 = .ok (.iadd, 1) := by decide +kernel
theorem dX1_allWeights_6 : decode cX1_allWeights 6 = .ok (.imul, 1) := by decide +kernel
theorem dX1_allWeights_7 : decode cX1_allWeights 7 = .ok (.ireturn, 1) := by decide +kernel
set_option maxRecDepth 20000 in
theorem ggX1_isLens_X11_isWithin : GoodIn wsX1_isLens wsX11_isWithin := goodIn_r _ [4] (by decide +kernel) (by decide +kernel)
set_option maxRecDepth 20000 in
theorem gX1_isLens_X11_isWithin_n31 : GoodIn wsX1_isLens (wsX11_isWithin) := ggX1_isLens_X11_isWithin
theorem dX1_isLens_0 : decode cX1_isLens 0 = .ok (.iload_n 1, 1) := by decide +kernel
theorem dX1_isLens_1 : decode cX1_isLens 1 = .ok (.iconst 0, 1) := by decide +kernel
theorem dX1_isLens_2 : decode cX1_isLens 2 = .ok (.aload_n 0, 1) := by decide +kernel
theorem dX1_isLens_3 : decode cX1_isLens 3 = .ok (.getfield 27, 3) := by decide +kernel
theorem dX1_isLens_6 : decode cX1_isLens 6 = .ok (.iconst 1, 1) := by decide +kernel
theorem dX1_isLens_7 : decode cX1_isLens 7 = .ok (.isub, 1) := by decide +kernel
theorem dX1_isLens_8 : decode cX1_isLens 8 = .ok (.invokestatic 31, 3) := by decide +kernel
theorem dX1_isLens_11 : decode cX1_isLens 11 = .ok (.ireturn, 1) := by decide +kernel
theorem dX1_weightOf_0 : decode cX1_weightOf 0 = .ok (.iload_n 2, 1) := by decide +kernel
theorem dX1_weightOf_1 : decode cX1_weightOf 1 = .ok (.aload_n 0, 1) := by decide +kernel
theorem dX1_weightOf_2 : decode cX1_weightOf 2 = .ok (.getfield 9, 3) := by decide +kernel
theorem dX1_weightOf_5 : decode cX1_weightOf 5 = .ok (.iload_n 1, 1) := by decide +kernel
theorem dX1_weightOf_6 : decode cX1_weightOf 6 = .ok (.iaload, 1) := by decide +kernel
theorem dX1_weightOf_7 : decode cX1_weightOf 7 = .ok (.isub, 1) := by decide +kernel
theorem dX1_weightOf_8 : decode cX1_weightOf 8 = .ok (.bipush 63, 2) := by decide +kernel
theorem dX1_weightOf_10 : decode cX1_weightOf 10 = .ok (.iand, 1) := by decide +kernel
theorem dX1_weightOf_11 : decode cX1_weightOf 11 = .ok (.istore_n 3, 1) := by decide +kernel
theorem dX1_weightOf_12 : decode cX1_weightOf 12 = .ok (.iconst 0, 1) := by decide +kernel
theorem dX1_weightOf_13 : decode cX1_weightOf 13 = .ok (.aload_n 0, 1) := by decide +kernel
theorem dX1_weightOf_14 : decode cX1_weightOf 14 = .ok (.getfield 15, 3) := by decide +kernel
theorem dX1_weightOf_17 : decode cX1_weightOf 17 = .ok (.iload_n 1, 1) := by decide +kernel
theorem dX1_weightOf_18 : decode cX1_weightOf 18 = .ok (.iaload, 1) := by decide +kernel
theorem dX1_weightOf_19 : decode cX1_weightOf 19 = .ok (.iconst 1, 1) := by decide +kernel
theorem dX1_weightOf_20 : decode cX1_weightOf 20 = .ok (.iadd, 1) := by decide +kernel
theorem dX1_weightOf_21 : decode cX1_weightOf 21 = .ok (.iload_n 3, 1) := by decide +kernel
theorem dX1_weightOf_22 : decode cX1_weightOf 22 = .ok (.bipush 64, 2) := by decide +kernel
theorem dX1_weightOf_24 : decode cX1_weightOf 24 = .ok (.iload_n 3, 1) := by decide +kernel
theorem dX1_weightOf_25 : decode cX1_weightOf 25 = .ok (.isub, 1) := by decide +kernel
theorem dX1_weightOf_26 : decode cX1_weightOf 26 = .ok (.invokestatic 35, 3) := by decide +kernel
theorem dX1_weightOf_29 : decode cX1_weightOf 29 = .ok (.isub, 1) := by decide +kernel
theorem dX1_weightOf_30 : decode cX1_weightOf 30 = .ok (.invokestatic 41, 3) := by decide +kernel
theorem dX1_weightOf_33 : decode cX1_weightOf 33 = .ok (.ireturn, 1) := by decide +kernel
set_option maxRecDepth 20000 in
theorem ggX1_lensesTo_X1_weightOf : GoodIn wsX1_lensesTo wsX1_weightOf := goodIn_r _ [6, 7, 8, 9, 10, 11, 12, 13, 14, 15, 16, 17, 18, 19, 20, 21, 22] (by decide +kernel) (by decide +kernel)
set_option maxRecDepth 20000 in
theorem gX1_lensesTo_X1_weightOf : GoodIn wsX1_lensesTo (wsV RX1 44 RX1 yX1_weightOf wsX1_weightOf) := goodIn_app (goodIn_of _ (by decide +kernel)) ggX1_lensesTo_X1_weightOf
theorem dX1_lensesTo_0 : decode cX1_lensesTo 0 = .ok (.iconst 0, 1) := by decide +kernel
theorem dX1_lensesTo_1 : decode cX1_lensesTo 1 = .ok (.istore_n 2, 1) := by decide +kernel
theorem dX1_lensesTo_2 : decode cX1_lensesTo 2 = .ok (.iconst 0, 1) := by decide +kernel
theorem dX1_lensesTo_3 : decode cX1_lensesTo 3 = .ok (.istore_n 3, 1) := by decide +kernel
theorem dX1_lensesTo_4 : decode cX1_lensesTo 4 = .ok (.iload_n 3, 1) := by decide +kernel
theorem dX1_lensesTo_5 : decode cX1_lensesTo 5 = .ok (.aload_n 0, 1) := by decide +kernel
theorem dX1_lensesTo_6 : decode cX1_lensesTo 6 = .ok (.getfield 27, 3) := by decide +kernel
theorem dX1_lensesTo_9 : decode cX1_lensesTo 9 = .ok (.if_icmp .ge 21, 3) := by decide +kernel
theorem dX1_lensesTo_12 : decode cX1_lensesTo 12 = .ok (.aload_n 0, 1) := by decide +kernel
theorem dX1_lensesTo_13 : decode cX1_lensesTo 13 = .ok (.iload_n 3, 1) := by decide +kernel
theorem dX1_lensesTo_14 : decode cX1_lensesTo 14 = .ok (.iload_n 1, 1) := by decide +kernel
theorem dX1_lensesTo_15 : decode cX1_lensesTo 15 = .ok (.invokevirtual 44, 3) := by decide +kernel
theorem dX1_lensesTo_18 : decode cX1_lensesTo 18 = .ok (.ifCond .le 6, 3) := by decide +kernel
theorem dX1_lensesTo_21 : decode cX1_lensesTo 21 = .ok (.iinc 2 1, 3) := by decide +kernel
theorem dX1_lensesTo_24 : decode cX1_lensesTo 24 = .ok (.iinc 3 1, 3) := by decide +kernel
theorem dX1_lensesTo_27 : decode cX1_lensesTo 27 = .ok (.goto (-23), 3) := by decide +kernel
theorem dX1_lensesTo_30 : decode cX1_lensesTo 30 = .ok (.iload_n 2, 1) := by decide +kernel
theorem dX1_lensesTo_31 : decode cX1_lensesTo 31 = .ok (.ireturn, 1) := by decide +kernel
set_option maxRecDepth 20000 in
theorem ggX1_sidesUnseen_X1_lensesTo : GoodIn wsX1_sidesUnseen wsX1_lensesTo := goodIn_r _ [5, 6, 7, 8, 9, 4, 10, 11, 12, 13, 14, 15, 16, 17, 18, 19, 20, 21, 22, 23, 24, 25, 26] (by decide +kernel) (by decide +kernel)
set_option maxRecDepth 20000 in
theorem gX1_sidesUnseen_X1_lensesTo : GoodIn wsX1_sidesUnseen (wsV RX1 47 RX1 yX1_lensesTo wsX1_lensesTo) := goodIn_app (goodIn_of _ (by decide +kernel)) ggX1_sidesUnseen_X1_lensesTo
theorem dX1_sidesUnseen_0 : decode cX1_sidesUnseen 0 = .ok (.iconst 0, 1) := by decide +kernel
theorem dX1_sidesUnseen_1 : decode cX1_sidesUnseen 1 = .ok (.istore_n 1, 1) := by decide +kernel
theorem dX1_sidesUnseen_2 : decode cX1_sidesUnseen 2 = .ok (.iconst 0, 1) := by decide +kernel
theorem dX1_sidesUnseen_3 : decode cX1_sidesUnseen 3 = .ok (.istore_n 2, 1) := by decide +kernel
theorem dX1_sidesUnseen_4 : decode cX1_sidesUnseen 4 = .ok (.iload_n 2, 1) := by decide +kernel
theorem dX1_sidesUnseen_5 : decode cX1_sidesUnseen 5 = .ok (.bipush 64, 2) := by decide +kernel
theorem dX1_sidesUnseen_7 : decode cX1_sidesUnseen 7 = .ok (.if_icmp .ge 20, 3) := by decide +kernel
theorem dX1_sidesUnseen_10 : decode cX1_sidesUnseen 10 = .ok (.aload_n 0, 1) := by decide +kernel
theorem dX1_sidesUnseen_11 : decode cX1_sidesUnseen 11 = .ok (.iload_n 2, 1) := by decide +kernel
theorem dX1_sidesUnseen_12 : decode cX1_sidesUnseen 12 = .ok (.invokevirtual 47, 3) := by decide +kernel
theorem dX1_sidesUnseen_15 : decode cX1_sidesUnseen 15 = .ok (.ifCond .ne 6, 3) := by decide +kernel
theorem dX1_sidesUnseen_18 : decode cX1_sidesUnseen 18 = .ok (.iinc 1 1, 3) := by decide +kernel
theorem dX1_sidesUnseen_21 : decode cX1_sidesUnseen 21 = .ok (.iinc 2 1, 3) := by decide +kernel
theorem dX1_sidesUnseen_24 : decode cX1_sidesUnseen 24 = .ok (.goto (-20), 3) := by decide +kernel
theorem dX1_sidesUnseen_27 : decode cX1_sidesUnseen 27 = .ok (.iload_n 1, 1) := by decide +kernel
theorem dX1_sidesUnseen_28 : decode cX1_sidesUnseen 28 = .ok (.ireturn, 1) := by decide +kernel
set_option maxRecDepth 20000 in
theorem ggX1_copyFrom_X11_copyRow : GoodIn wsX1_copyFrom wsX11_copyRow := goodIn_r _ [10, 11, 12, 13, 14, 15, 16, 17, 18] (by decide +kernel) (by decide +kernel)
set_option maxRecDepth 20000 in
theorem gX1_copyFrom_X11_copyRow_n51 : GoodIn wsX1_copyFrom (wsX11_copyRow) := ggX1_copyFrom_X11_copyRow
theorem dX1_copyFrom_0 : decode cX1_copyFrom 0 = .ok (.aload_n 1, 1) := by decide +kernel
theorem dX1_copyFrom_1 : decode cX1_copyFrom 1 = .ok (.getfield 9, 3) := by decide +kernel
theorem dX1_copyFrom_4 : decode cX1_copyFrom 4 = .ok (.aload_n 0, 1) := by decide +kernel
theorem dX1_copyFrom_5 : decode cX1_copyFrom 5 = .ok (.getfield 9, 3) := by decide +kernel
theorem dX1_copyFrom_8 : decode cX1_copyFrom 8 = .ok (.invokestatic 51, 3) := by decide +kernel
theorem dX1_copyFrom_11 : decode cX1_copyFrom 11 = .ok (.aload_n 1, 1) := by decide +kernel
theorem dX1_copyFrom_12 : decode cX1_copyFrom 12 = .ok (.getfield 15, 3) := by decide +kernel
theorem dX1_copyFrom_15 : decode cX1_copyFrom 15 = .ok (.aload_n 0, 1) := by decide +kernel
theorem dX1_copyFrom_16 : decode cX1_copyFrom 16 = .ok (.getfield 15, 3) := by decide +kernel
theorem dX1_copyFrom_19 : decode cX1_copyFrom 19 = .ok (.invokestatic 51, 3) := by decide +kernel
theorem dX1_copyFrom_22 : decode cX1_copyFrom 22 = .ok (.aload_n 1, 1) := by decide +kernel
theorem dX1_copyFrom_23 : decode cX1_copyFrom 23 = .ok (.getfield 18, 3) := by decide +kernel
theorem dX1_copyFrom_26 : decode cX1_copyFrom 26 = .ok (.aload_n 0, 1) := by decide +kernel
theorem dX1_copyFrom_27 : decode cX1_copyFrom 27 = .ok (.getfield 18, 3) := by decide +kernel
theorem dX1_copyFrom_30 : decode cX1_copyFrom 30 = .ok (.invokestatic 51, 3) := by decide +kernel
theorem dX1_copyFrom_33 : decode cX1_copyFrom 33 = .ok (.aload_n 1, 1) := by decide +kernel
theorem dX1_copyFrom_34 : decode cX1_copyFrom 34 = .ok (.getfield 21, 3) := by decide +kernel
theorem dX1_copyFrom_37 : decode cX1_copyFrom 37 = .ok (.aload_n 0, 1) := by decide +kernel
theorem dX1_copyFrom_38 : decode cX1_copyFrom 38 = .ok (.getfield 21, 3) := by decide +kernel
theorem dX1_copyFrom_41 : decode cX1_copyFrom 41 = .ok (.invokestatic 51, 3) := by decide +kernel
theorem dX1_copyFrom_44 : decode cX1_copyFrom 44 = .ok (.aload_n 1, 1) := by decide +kernel
theorem dX1_copyFrom_45 : decode cX1_copyFrom 45 = .ok (.getfield 24, 3) := by decide +kernel
theorem dX1_copyFrom_48 : decode cX1_copyFrom 48 = .ok (.aload_n 0, 1) := by decide +kernel
theorem dX1_copyFrom_49 : decode cX1_copyFrom 49 = .ok (.getfield 24, 3) := by decide +kernel
theorem dX1_copyFrom_52 : decode cX1_copyFrom 52 = .ok (.invokestatic 51, 3) := by decide +kernel
theorem dX1_copyFrom_55 : decode cX1_copyFrom 55 = .ok (.aload_n 0, 1) := by decide +kernel
theorem dX1_copyFrom_56 : decode cX1_copyFrom 56 = .ok (.aload_n 1, 1) := by decide +kernel
theorem dX1_copyFrom_57 : decode cX1_copyFrom 57 = .ok (.getfield 27, 3) := by decide +kernel
theorem dX1_copyFrom_60 : decode cX1_copyFrom 60 = .ok (.putfield 27, 3) := by decide +kernel
theorem dX1_copyFrom_63 : decode cX1_copyFrom 63 = .ok (.aload_n 0, 1) := by decide +kernel
theorem dX1_copyFrom_64 : decode cX1_copyFrom 64 = .ok (.aload_n 1, 1) := by decide +kernel
theorem dX1_copyFrom_65 : decode cX1_copyFrom 65 = .ok (.getfield 55, 3) := by decide +kernel
theorem dX1_copyFrom_68 : decode cX1_copyFrom 68 = .ok (.putfield 55, 3) := by decide +kernel
theorem dX1_copyFrom_71 : decode cX1_copyFrom 71 = .ok (.return_, 1) := by decide +kernel
theorem dX2_init_0 : decode cX2_init 0 = .ok (.aload_n 0, 1) := by decide +kernel
theorem dX2_init_1 : decode cX2_init 1 = .ok (.invokespecial 3, 3) := by decide +kernel
theorem dX2_init_4 : decode cX2_init 4 = .ok (.aload_n 0, 1) := by decide +kernel
theorem dX2_init_5 : decode cX2_init 5 = .ok (.sipush 300, 3) := by decide +kernel
theorem dX2_init_8 : decode cX2_init 8 = .ok (.newarray .int, 2) := by decide +kernel
theorem dX2_init_10 : decode cX2_init 10 = .ok (.putfield 11, 3) := by decide +kernel
theorem dX2_init_13 : decode cX2_init 13 = .ok (.aload_n 0, 1) := by decide +kernel
theorem dX2_init_14 : decode cX2_init 14 = .ok (.sipush 960, 3) := by decide +kernel
theorem dX2_init_17 : decode cX2_init 17 = .ok (.newarray .int, 2) := by decide +kernel
theorem dX2_init_19 : decode cX2_init 19 = .ok (.putfield 15, 3) := by decide +kernel
theorem dX2_init_22 : decode cX2_init 22 = .ok (.return_, 1) := by decide +kernel
theorem dX2_note_0 : decode cX2_note 0 = .ok (.aload_n 0, 1) := by decide +kernel
theorem dX2_note_1 : decode cX2_note 1 = .ok (.getfield 18, 3) := by decide +kernel
theorem dX2_note_4 : decode cX2_note 4 = .ok (.iconst 5, 1) := by decide +kernel
theorem dX2_note_5 : decode cX2_note 5 = .ok (.imul, 1) := by decide +kernel
theorem dX2_note_6 : decode cX2_note 6 = .ok (.istore_n 3, 1) := by decide +kernel
theorem dX2_note_7 : decode cX2_note 7 = .ok (.iload_n 3, 1) := by decide +kernel
theorem dX2_note_8 : decode cX2_note 8 = .ok (.iconst 5, 1) := by decide +kernel
theorem dX2_note_9 : decode cX2_note 9 = .ok (.iadd, 1) := by decide +kernel
theorem dX2_note_10 : decode cX2_note 10 = .ok (.aload_n 0, 1) := by decide +kernel
theorem dX2_note_11 : decode cX2_note 11 = .ok (.getfield 11, 3) := by decide +kernel
theorem dX2_note_14 : decode cX2_note 14 = .ok (.arraylength, 1) := by decide +kernel
theorem dX2_note_15 : decode cX2_note 15 = .ok (.if_icmp .gt 55, 3) := by decide +kernel
theorem dX2_note_18 : decode cX2_note 18 = .ok (.aload_n 0, 1) := by decide +kernel
theorem dX2_note_19 : decode cX2_note 19 = .ok (.getfield 11, 3) := by decide +kernel
theorem dX2_note_22 : decode cX2_note 22 = .ok (.iload_n 3, 1) := by decide +kernel
theorem dX2_note_23 : decode cX2_note 23 = .ok (.iload_n 1, 1) := by decide +kernel
theorem dX2_note_24 : decode cX2_note 24 = .ok (.iastore, 1) := by decide +kernel
theorem dX2_note_25 : decode cX2_note 25 = .ok (.aload_n 0, 1) := by decide +kernel
theorem dX2_note_26 : decode cX2_note 26 = .ok (.getfield 11, 3) := by decide +kernel
theorem dX2_note_29 : decode cX2_note 29 = .ok (.iload_n 3, 1) := by decide +kernel
theorem dX2_note_30 : decode cX2_note 30 = .ok (.iconst 1, 1) := by decide +kernel
theorem dX2_note_31 : decode cX2_note 31 = .ok (.iadd, 1) := by decide +kernel
theorem dX2_note_32 : decode cX2_note 32 = .ok (.iload_n 2, 1) := by decide +kernel
theorem dX2_note_33 : decode cX2_note 33 = .ok (.iastore, 1) := by decide +kernel
theorem dX2_note_34 : decode cX2_note 34 = .ok (.aload_n 0, 1) := by decide +kernel
theorem dX2_note_35 : decode cX2_note 35 = .ok (.getfield 11, 3) := by decide +kernel
theorem dX2_note_38 : decode cX2_note 38 = .ok (.iload_n 3, 1) := by decide +kernel
theorem dX2_note_39 : decode cX2_note 39 = .ok (.iconst 2, 1) := by decide +kernel
theorem dX2_note_40 : decode cX2_note 40 = .ok (.iadd, 1) := by decide +kernel
theorem dX2_note_41 : decode cX2_note 41 = .ok (.aload_n 0, 1) := by decide +kernel
theorem dX2_note_42 : decode cX2_note 42 = .ok (.getfield 22, 3) := by decide +kernel
theorem dX2_note_45 : decode cX2_note 45 = .ok (.iastore, 1) := by decide +kernel
theorem dX2_note_46 : decode cX2_note 46 = .ok (.aload_n 0, 1) := by decide +kernel
theorem dX2_note_47 : decode cX2_note 47 = .ok (.getfield 11, 3) := by decide +kernel
theorem dX2_note_50 : decode cX2_note 50 = .ok (.iload_n 3, 1) := by decide +kernel
theorem dX2_note_51 : decode cX2_note 51 = .ok (.iconst 3, 1) := by decide +kernel
theorem dX2_note_52 : decode cX2_note 52 = .ok (.iadd, 1) := by decide +kernel
theorem dX2_note_53 : decode cX2_note 53 = .ok (.aload_n 0, 1) := by decide +kernel
theorem dX2_note_54 : decode cX2_note 54 = .ok (.getfield 25, 3) := by decide +kernel
theorem dX2_note_57 : decode cX2_note 57 = .ok (.iastore, 1) := by decide +kernel
theorem dX2_note_58 : decode cX2_note 58 = .ok (.aload_n 0, 1) := by decide +kernel
theorem dX2_note_59 : decode cX2_note 59 = .ok (.getfield 11, 3) := by decide +kernel
theorem dX2_note_62 : decode cX2_note 62 = .ok (.iload_n 3, 1) := by decide +kernel
theorem dX2_note_63 : decode cX2_note 63 = .ok (.iconst 4, 1) := by decide +kernel
theorem dX2_note_64 : decode cX2_note 64 = .ok (.iadd, 1) := by decide +kernel
theorem dX2_note_65 : decode cX2_note 65 = .ok (.aload_n 0, 1) := by decide +kernel
theorem dX2_note_66 : decode cX2_note 66 = .ok (.getfield 28, 3) := by decide +kernel
theorem dX2_note_69 : decode cX2_note 69 = .ok (.iastore, 1) := by decide +kernel
theorem dX2_note_70 : decode cX2_note 70 = .ok (.return_, 1) := by decide +kernel
theorem dX2_noted_0 : decode cX2_noted 0 = .ok (.iload_n 1, 1) := by decide +kernel
theorem dX2_noted_1 : decode cX2_noted 1 = .ok (.iconst 5, 1) := by decide +kernel
theorem dX2_noted_2 : decode cX2_noted 2 = .ok (.imul, 1) := by decide +kernel
theorem dX2_noted_3 : decode cX2_noted 3 = .ok (.iload_n 2, 1) := by decide +kernel
theorem dX2_noted_4 : decode cX2_noted 4 = .ok (.iadd, 1) := by decide +kernel
theorem dX2_noted_5 : decode cX2_noted 5 = .ok (.istore_n 3, 1) := by decide +kernel
theorem dX2_noted_6 : decode cX2_noted 6 = .ok (.iload_n 3, 1) := by decide +kernel
theorem dX2_noted_7 : decode cX2_noted 7 = .ok (.ifCond .lt 21, 3) := by decide +kernel
theorem dX2_noted_10 : decode cX2_noted 10 = .ok (.iload_n 3, 1) := by decide +kernel
theorem dX2_noted_11 : decode cX2_noted 11 = .ok (.aload_n 0, 1) := by decide +kernel
theorem dX2_noted_12 : decode cX2_noted 12 = .ok (.getfield 11, 3) := by decide +kernel
theorem dX2_noted_15 : decode cX2_noted 15 = .ok (.arraylength, 1) := by decide +kernel
theorem dX2_noted_16 : decode cX2_noted 16 = .ok (.if_icmp .ge 12, 3) := by decide +kernel
theorem dX2_noted_19 : decode cX2_noted 19 = .ok (.aload_n 0, 1) := by decide +kernel
theorem dX2_noted_20 : decode cX2_noted 20 = .ok (.getfield 11, 3) := by decide +kernel
theorem dX2_noted_23 : decode cX2_noted 23 = .ok (.iload_n 3, 1) := by decide +kernel
theorem dX2_noted_24 : decode cX2_noted 24 = .ok (.iaload, 1) := by decide +kernel
theorem dX2_noted_25 : decode cX2_noted 25 = .ok (.goto 4, 3) := by decide +kernel
theorem dX2_noted_28 : decode cX2_noted 28 = .ok (.iconst 0, 1) := by decide +kernel
theorem dX2_noted_29 : decode cX2_noted 29 = .ok (.ireturn, 1) := by decide +kernel
theorem dX2_takenBy_0 : decode cX2_takenBy 0 = .ok (.iload_n 2, 1) := by decide +kernel
theorem dX2_takenBy_1 : decode cX2_takenBy 1 = .ok (.bipush 16, 2) := by decide +kernel
theorem dX2_takenBy_3 : decode cX2_takenBy 3 = .ok (.imul, 1) := by decide +kernel
theorem dX2_takenBy_4 : decode cX2_takenBy 4 = .ok (.iload_n 1, 1) := by decide +kernel
theorem dX2_takenBy_5 : decode cX2_takenBy 5 = .ok (.iadd, 1) := by decide +kernel
theorem dX2_takenBy_6 : decode cX2_takenBy 6 = .ok (.istore_n 3, 1) := by decide +kernel
theorem dX2_takenBy_7 : decode cX2_takenBy 7 = .ok (.iload_n 1, 1) := by decide +kernel
theorem dX2_takenBy_8 : decode cX2_takenBy 8 = .ok (.ifCond .lt 33, 3) := by decide +kernel
theorem dX2_takenBy_11 : decode cX2_takenBy 11 = .ok (.iload_n 1, 1) := by decide +kernel
theorem dX2_takenBy_12 : decode cX2_takenBy 12 = .ok (.aload_n 0, 1) := by decide +kernel
theorem dX2_takenBy_13 : decode cX2_takenBy 13 = .ok (.getfield 31, 3) := by decide +kernel
theorem dX2_takenBy_16 : decode cX2_takenBy 16 = .ok (.if_icmp .ge 25, 3) := by decide +kernel
theorem dX2_takenBy_19 : decode cX2_takenBy 19 = .ok (.iload_n 3, 1) := by decide +kernel
theorem dX2_takenBy_20 : decode cX2_takenBy 20 = .ok (.ifCond .lt 21, 3) := by decide +kernel
theorem dX2_takenBy_23 : decode cX2_takenBy 23 = .ok (.iload_n 3, 1) := by decide +kernel
theorem dX2_takenBy_24 : decode cX2_takenBy 24 = .ok (.aload_n 0, 1) := by decide +kernel
theorem dX2_takenBy_25 : decode cX2_takenBy 25 = .ok (.getfield 15, 3) := by decide +kernel
theorem dX2_takenBy_28 : decode cX2_takenBy 28 = .ok (.arraylength, 1) := by decide +kernel
theorem dX2_takenBy_29 : decode cX2_takenBy 29 = .ok (.if_icmp .ge 12, 3) := by decide +kernel
theorem dX2_takenBy_32 : decode cX2_takenBy 32 = .ok (.aload_n 0, 1) := by decide +kernel
theorem dX2_takenBy_33 : decode cX2_takenBy 33 = .ok (.getfield 15, 3) := by decide +kernel
theorem dX2_takenBy_36 : decode cX2_takenBy 36 = .ok (.iload_n 3, 1) := by decide +kernel
theorem dX2_takenBy_37 : decode cX2_takenBy 37 = .ok (.iaload, 1) := by decide +kernel
theorem dX2_takenBy_38 : decode cX2_takenBy 38 = .ok (.goto 4, 3) := by decide +kernel
theorem dX2_takenBy_41 : decode cX2_takenBy 41 = .ok (.iconst 0, 1) := by decide +kernel
theorem dX2_takenBy_42 : decode cX2_takenBy 42 = .ok (.ireturn, 1) := by decide +kernel
set_option maxRecDepth 20000 in
theorem ggX2_comparedBy_X11_isWithin : GoodIn wsX2_comparedBy wsX11_isWithin := goodIn_r _ [7] (by decide +kernel) (by decide +kernel)
set_option maxRecDepth 20000 in
theorem gX2_comparedBy_X11_isWithin_n37 : GoodIn wsX2_comparedBy (wsX11_isWithin) := ggX2_comparedBy_X11_isWithin
set_option maxRecDepth 20000 in
theorem ggX2_comparedBy_X2_takenBy : GoodIn wsX2_comparedBy wsX2_takenBy := goodIn_r _ [12, 13, 14, 15, 16, 17, 18, 19, 20, 21, 22, 23, 24, 25, 26] (by decide +kernel) (by decide +kernel)
set_option maxRecDepth 20000 in
theorem gX2_comparedBy_X2_takenBy : GoodIn wsX2_comparedBy (wsV RX2 52 RX2 yX2_takenBy wsX2_takenBy) := goodIn_app (goodIn_of _ (by decide +kernel)) ggX2_comparedBy_X2_takenBy
theorem dX2_comparedBy_0 : decode cX2_comparedBy 0 = .ok (.iload_n 2, 1) := by decide +kernel
theorem dX2_comparedBy_1 : decode cX2_comparedBy 1 = .ok (.iconst 0, 1) := by decide +kernel
theorem dX2_comparedBy_2 : decode cX2_comparedBy 2 = .ok (.aload_n 0, 1) := by decide +kernel
theorem dX2_comparedBy_3 : decode cX2_comparedBy 3 = .ok (.getfield 34, 3) := by decide +kernel
theorem dX2_comparedBy_6 : decode cX2_comparedBy 6 = .ok (.iconst 1, 1) := by decide +kernel
theorem dX2_comparedBy_7 : decode cX2_comparedBy 7 = .ok (.isub, 1) := by decide +kernel
theorem dX2_comparedBy_8 : decode cX2_comparedBy 8 = .ok (.invokestatic 37, 3) := by decide +kernel
theorem dX2_comparedBy_11 : decode cX2_comparedBy 11 = .ok (.ifCond .eq 13, 3) := by decide +kernel
theorem dX2_comparedBy_14 : decode cX2_comparedBy 14 = .ok (.iload_n 3, 1) := by decide +kernel
theorem dX2_comparedBy_15 : decode cX2_comparedBy 15 = .ok (.aload_n 1, 1) := by decide +kernel
theorem dX2_comparedBy_16 : decode cX2_comparedBy 16 = .ok (.getfield 41, 3) := by decide +kernel
theorem dX2_comparedBy_19 : decode cX2_comparedBy 19 = .ok (.iload_n 2, 1) := by decide +kernel
theorem dX2_comparedBy_20 : decode cX2_comparedBy 20 = .ok (.iaload, 1) := by decide +kernel
theorem dX2_comparedBy_21 : decode cX2_comparedBy 21 = .ok (.if_icmp .ge 5, 3) := by decide +kernel
theorem dX2_comparedBy_24 : decode cX2_comparedBy 24 = .ok (.iconst 0, 1) := by decide +kernel
theorem dX2_comparedBy_25 : decode cX2_comparedBy 25 = .ok (.ireturn, 1) := by decide +kernel
theorem dX2_comparedBy_26 : decode cX2_comparedBy 26 = .ok (.iload_n 3, 1) := by decide +kernel
theorem dX2_comparedBy_27 : decode cX2_comparedBy 27 = .ok (.aload_n 1, 1) := by decide +kernel
theorem dX2_comparedBy_28 : decode cX2_comparedBy 28 = .ok (.getfield 41, 3) := by decide +kernel
theorem dX2_comparedBy_31 : decode cX2_comparedBy 31 = .ok (.iload_n 2, 1) := by decide +kernel
theorem dX2_comparedBy_32 : decode cX2_comparedBy 32 = .ok (.iaload, 1) := by decide +kernel
theorem dX2_comparedBy_33 : decode cX2_comparedBy 33 = .ok (.isub, 1) := by decide +kernel
theorem dX2_comparedBy_34 : decode cX2_comparedBy 34 = .ok (.istore 4, 2) := by decide +kernel
theorem dX2_comparedBy_36 : decode cX2_comparedBy 36 = .ok (.aload_n 1, 1) := by decide +kernel
theorem dX2_comparedBy_37 : decode cX2_comparedBy 37 = .ok (.getfield 46, 3) := by decide +kernel
theorem dX2_comparedBy_40 : decode cX2_comparedBy 40 = .ok (.iload_n 2, 1) := by decide +kernel
theorem dX2_comparedBy_41 : decode cX2_comparedBy 41 = .ok (.iaload, 1) := by decide +kernel
theorem dX2_comparedBy_42 : decode cX2_comparedBy 42 = .ok (.istore 5, 2) := by decide +kernel
theorem dX2_comparedBy_44 : decode cX2_comparedBy 44 = .ok (.aload_n 1, 1) := by decide +kernel
theorem dX2_comparedBy_45 : decode cX2_comparedBy 45 = .ok (.getfield 49, 3) := by decide +kernel
theorem dX2_comparedBy_48 : decode cX2_comparedBy 48 = .ok (.iload_n 2, 1) := by decide +kernel
theorem dX2_comparedBy_49 : decode cX2_comparedBy 49 = .ok (.iaload, 1) := by decide +kernel
theorem dX2_comparedBy_50 : decode cX2_comparedBy 50 = .ok (.istore 6, 2) := by decide +kernel
theorem dX2_comparedBy_52 : decode cX2_comparedBy 52 = .ok (.aload_n 0, 1) := by decide +kernel
theorem dX2_comparedBy_53 : decode cX2_comparedBy 53 = .ok (.iload 5, 2) := by decide +kernel
theorem dX2_comparedBy_55 : decode cX2_comparedBy 55 = .ok (.iload 4, 2) := by decide +kernel
theorem dX2_comparedBy_57 : decode cX2_comparedBy 57 = .ok (.invokevirtual 52, 3) := by decide +kernel
theorem dX2_comparedBy_60 : decode cX2_comparedBy 60 = .ok (.aload_n 0, 1) := by decide +kernel
theorem dX2_comparedBy_61 : decode cX2_comparedBy 61 = .ok (.iload 6, 2) := by decide +kernel
theorem dX2_comparedBy_63 : decode cX2_comparedBy 63 = .ok (.iload_n 3, 1) := by decide +kernel
theorem dX2_comparedBy_64 : decode cX2_comparedBy 64 = .ok (.invokevirtual 52, 3) := by decide +kernel
theorem dX2_comparedBy_67 : decode cX2_comparedBy 67 = .ok (.imul, 1) := by decide +kernel
theorem dX2_comparedBy_68 : decode cX2_comparedBy 68 = .ok (.aload_n 0, 1) := by decide +kernel
theorem dX2_comparedBy_69 : decode cX2_comparedBy 69 = .ok (.iload 5, 2) := by decide +kernel
theorem dX2_comparedBy_71 : decode cX2_comparedBy 71 = .ok (.iload_n 3, 1) := by decide +kernel
theorem dX2_comparedBy_72 : decode cX2_comparedBy 72 = .ok (.invokevirtual 52, 3) := by decide +kernel
theorem dX2_comparedBy_75 : decode cX2_comparedBy 75 = .ok (.aload_n 0, 1) := by decide +kernel
theorem dX2_comparedBy_76 : decode cX2_comparedBy 76 = .ok (.iload 6, 2) := by decide +kernel
theorem dX2_comparedBy_78 : decode cX2_comparedBy 78 = .ok (.iload 4, 2) := by decide +kernel
theorem dX2_comparedBy_80 : decode cX2_comparedBy 80 = .ok (.invokevirtual 52, 3) := by decide +kernel
theorem dX2_comparedBy_83 : decode cX2_comparedBy 83 = .ok (.imul, 1) := by decide +kernel
theorem dX2_comparedBy_84 : decode cX2_comparedBy 84 = .ok (.isub, 1) := by decide +kernel
theorem dX2_comparedBy_85 : decode cX2_comparedBy 85 = .ok (.ireturn, 1) := by decide +kernel
set_option maxRecDepth 20000 in
theorem ggX2_copyFrom_X11_copyRow : GoodIn wsX2_copyFrom wsX11_copyRow := goodIn_r _ [15, 16, 17, 18, 19, 20, 21, 22, 23] (by decide +kernel) (by decide +kernel)
set_option maxRecDepth 20000 in
theorem gX2_copyFrom_X11_copyRow_n56 : GoodIn wsX2_copyFrom (wsX11_copyRow) := ggX2_copyFrom_X11_copyRow
theorem dX2_copyFrom_0 : decode cX2_copyFrom 0 = .ok (.aload_n 1, 1) := by decide +kernel
theorem dX2_copyFrom_1 : decode cX2_copyFrom 1 = .ok (.getfield 11, 3) := by decide +kernel
theorem dX2_copyFrom_4 : decode cX2_copyFrom 4 = .ok (.aload_n 0, 1) := by decide +kernel
theorem dX2_copyFrom_5 : decode cX2_copyFrom 5 = .ok (.getfield 11, 3) := by decide +kernel
theorem dX2_copyFrom_8 : decode cX2_copyFrom 8 = .ok (.invokestatic 56, 3) := by decide +kernel
theorem dX2_copyFrom_11 : decode cX2_copyFrom 11 = .ok (.aload_n 1, 1) := by decide +kernel
theorem dX2_copyFrom_12 : decode cX2_copyFrom 12 = .ok (.getfield 15, 3) := by decide +kernel
theorem dX2_copyFrom_15 : decode cX2_copyFrom 15 = .ok (.aload_n 0, 1) := by decide +kernel
theorem dX2_copyFrom_16 : decode cX2_copyFrom 16 = .ok (.getfield 15, 3) := by decide +kernel
theorem dX2_copyFrom_19 : decode cX2_copyFrom 19 = .ok (.invokestatic 56, 3) := by decide +kernel
theorem dX2_copyFrom_22 : decode cX2_copyFrom 22 = .ok (.aload_n 0, 1) := by decide +kernel
theorem dX2_copyFrom_23 : decode cX2_copyFrom 23 = .ok (.aload_n 1, 1) := by decide +kernel
theorem dX2_copyFrom_24 : decode cX2_copyFrom 24 = .ok (.getfield 60, 3) := by decide +kernel
theorem dX2_copyFrom_27 : decode cX2_copyFrom 27 = .ok (.putfield 60, 3) := by decide +kernel
theorem dX2_copyFrom_30 : decode cX2_copyFrom 30 = .ok (.aload_n 0, 1) := by decide +kernel
theorem dX2_copyFrom_31 : decode cX2_copyFrom 31 = .ok (.aload_n 1, 1) := by decide +kernel
theorem dX2_copyFrom_32 : decode cX2_copyFrom 32 = .ok (.getfield 64, 3) := by decide +kernel
theorem dX2_copyFrom_35 : decode cX2_copyFrom 35 = .ok (.putfield 64, 3) := by decide +kernel
theorem dX2_copyFrom_38 : decode cX2_copyFrom 38 = .ok (.aload_n 0, 1) := by decide +kernel
theorem dX2_copyFrom_39 : decode cX2_copyFrom 39 = .ok (.aload_n 1, 1) := by decide +kernel
theorem dX2_copyFrom_40 : decode cX2_copyFrom 40 = .ok (.getfield 67, 3) := by decide +kernel
theorem dX2_copyFrom_43 : decode cX2_copyFrom 43 = .ok (.putfield 67, 3) := by decide +kernel
theorem dX2_copyFrom_46 : decode cX2_copyFrom 46 = .ok (.aload_n 0, 1) := by decide +kernel
theorem dX2_copyFrom_47 : decode cX2_copyFrom 47 = .ok (.aload_n 1, 1) := by decide +kernel
theorem dX2_copyFrom_48 : decode cX2_copyFrom 48 = .ok (.getfield 18, 3) := by decide +kernel
theorem dX2_copyFrom_51 : decode cX2_copyFrom 51 = .ok (.putfield 18, 3) := by decide +kernel
theorem dX2_copyFrom_54 : decode cX2_copyFrom 54 = .ok (.aload_n 0, 1) := by decide +kernel
theorem dX2_copyFrom_55 : decode cX2_copyFrom 55 = .ok (.aload_n 1, 1) := by decide +kernel
theorem dX2_copyFrom_56 : decode cX2_copyFrom 56 = .ok (.getfield 70, 3) := by decide +kernel
theorem dX2_copyFrom_59 : decode cX2_copyFrom 59 = .ok (.putfield 70, 3) := by decide +kernel
theorem dX2_copyFrom_62 : decode cX2_copyFrom 62 = .ok (.aload_n 0, 1) := by decide +kernel
theorem dX2_copyFrom_63 : decode cX2_copyFrom 63 = .ok (.aload_n 1, 1) := by decide +kernel
theorem dX2_copyFrom_64 : decode cX2_copyFrom 64 = .ok (.getfield 22, 3) := by decide +kernel
theorem dX2_copyFrom_67 : decode cX2_copyFrom 67 = .ok (.putfield 22, 3) := by decide +kernel
theorem dX2_copyFrom_70 : decode cX2_copyFrom 70 = .ok (.aload_n 0, 1) := by decide +kernel
theorem dX2_copyFrom_71 : decode cX2_copyFrom 71 = .ok (.aload_n 1, 1) := by decide +kernel
theorem dX2_copyFrom_72 : decode cX2_copyFrom 72 = .ok (.getfield 25, 3) := by decide +kernel
theorem dX2_copyFrom_75 : decode cX2_copyFrom 75 = .ok (.putfield 25, 3) := by decide +kernel
theorem dX2_copyFrom_78 : decode cX2_copyFrom 78 = .ok (.aload_n 0, 1) := by decide +kernel
theorem dX2_copyFrom_79 : decode cX2_copyFrom 79 = .ok (.aload_n 1, 1) := by decide +kernel
theorem dX2_copyFrom_80 : decode cX2_copyFrom 80 = .ok (.getfield 28, 3) := by decide +kernel
theorem dX2_copyFrom_83 : decode cX2_copyFrom 83 = .ok (.putfield 28, 3) := by decide +kernel
theorem dX2_copyFrom_86 : decode cX2_copyFrom 86 = .ok (.aload_n 0, 1) := by decide +kernel
theorem dX2_copyFrom_87 : decode cX2_copyFrom 87 = .ok (.aload_n 1, 1) := by decide +kernel
theorem dX2_copyFrom_88 : decode cX2_copyFrom 88 = .ok (.getfield 31, 3) := by decide +kernel
theorem dX2_copyFrom_91 : decode cX2_copyFrom 91 = .ok (.putfield 31, 3) := by decide +kernel
theorem dX2_copyFrom_94 : decode cX2_copyFrom 94 = .ok (.aload_n 0, 1) := by decide +kernel
theorem dX2_copyFrom_95 : decode cX2_copyFrom 95 = .ok (.aload_n 1, 1) := by decide +kernel
theorem dX2_copyFrom_96 : decode cX2_copyFrom 96 = .ok (.getfield 34, 3) := by decide +kernel
theorem dX2_copyFrom_99 : decode cX2_copyFrom 99 = .ok (.putfield 34, 3) := by decide +kernel
theorem dX2_copyFrom_102 : decode cX2_copyFrom 102 = .ok (.return_, 1) := by decide +kernel
set_option maxRecDepth 20000 in
theorem ggX3_init_X6_init : GoodIn wsX3_init wsX6_init := goodIn_r _ [17, 18, 2, 3, 19, 20, 21, 22, 23, 24, 34, 35, 36, 37, 38, 39, 40, 41, 42] (by decide +kernel) (by decide +kernel)
set_option maxRecDepth 20000 in
theorem gX3_init_X6_init : GoodIn wsX3_init (wsX6_init) := ggX3_init_X6_init
set_option maxRecDepth 20000 in
theorem ggX3_init_X2_init : GoodIn wsX3_init wsX2_init := goodIn_r _ [26, 27, 2, 3, 20, 28, 29, 49, 50, 51, 52, 53, 54, 55, 56, 57, 58, 59, 60] (by decide +kernel) (by decide +kernel)
set_option maxRecDepth 20000 in
theorem gX3_init_X2_init_n36 : GoodIn wsX3_init (wsX2_init) := ggX3_init_X2_init
theorem dX3_init_0 : decode cX3_init 0 = .ok (.aload_n 0, 1) := by decide +kernel
theorem dX3_init_1 : decode cX3_init 1 = .ok (.invokespecial 3, 3) := by decide +kernel
theorem dX3_init_4 : decode cX3_init 4 = .ok (.aload_n 0, 1) := by decide +kernel
theorem dX3_init_5 : decode cX3_init 5 = .ok (.aload_n 1, 1) := by decide +kernel
theorem dX3_init_6 : decode cX3_init 6 = .ok (.putfield 9, 3) := by decide +kernel
theorem dX3_init_9 : decode cX3_init 9 = .ok (.aload_n 0, 1) := by decide +kernel
theorem dX3_init_10 : decode cX3_init 10 = .ok (.aload_n 2, 1) := by decide +kernel
theorem dX3_init_11 : decode cX3_init 11 = .ok (.putfield 15, 3) := by decide +kernel
theorem dX3_init_14 : decode cX3_init 14 = .ok (.aload_n 0, 1) := by decide +kernel
theorem dX3_init_15 : decode cX3_init 15 = .ok (.new 19, 3) := by decide +kernel
theorem dX3_init_18 : decode cX3_init 18 = .ok (.dup, 1) := by decide +kernel
theorem dX3_init_19 : decode cX3_init 19 = .ok (.aload_n 1, 1) := by decide +kernel
theorem dX3_init_20 : decode cX3_init 20 = .ok (.getfield 21, 3) := by decide +kernel
theorem dX3_init_23 : decode cX3_init 23 = .ok (.invokespecial 27, 3) := by decide +kernel
theorem dX3_init_26 : decode cX3_init 26 = .ok (.putfield 30, 3) := by decide +kernel
theorem dX3_init_29 : decode cX3_init 29 = .ok (.aload_n 0, 1) := by decide +kernel
theorem dX3_init_30 : decode cX3_init 30 = .ok (.new 34, 3) := by decide +kernel
theorem dX3_init_33 : decode cX3_init 33 = .ok (.dup, 1) := by decide +kernel
theorem dX3_init_34 : decode cX3_init 34 = .ok (.invokespecial 36, 3) := by decide +kernel
theorem dX3_init_37 : decode cX3_init 37 = .ok (.putfield 37, 3) := by decide +kernel
theorem dX3_init_40 : decode cX3_init 40 = .ok (.return_, 1) := by decide +kernel
theorem dX3_bindTo_0 : decode cX3_bindTo 0 = .ok (.aload_n 0, 1) := by decide +kernel
theorem dX3_bindTo_1 : decode cX3_bindTo 1 = .ok (.getfield 30, 3) := by decide +kernel
theorem dX3_bindTo_4 : decode cX3_bindTo 4 = .ok (.iload_n 1, 1) := by decide +kernel
theorem dX3_bindTo_5 : decode cX3_bindTo 5 = .ok (.putfield 41, 3) := by decide +kernel
theorem dX3_bindTo_8 : decode cX3_bindTo 8 = .ok (.return_, 1) := by decide +kernel
theorem dX3_begin_0 : decode cX3_begin 0 = .ok (.aload_n 1, 1) := by decide +kernel
theorem dX3_begin_1 : decode cX3_begin 1 = .ok (.iconst 1, 1) := by decide +kernel
theorem dX3_begin_2 : decode cX3_begin 2 = .ok (.putfield 45, 3) := by decide +kernel
theorem dX3_begin_5 : decode cX3_begin 5 = .ok (.aload_n 1, 1) := by decide +kernel
theorem dX3_begin_6 : decode cX3_begin 6 = .ok (.iconst 0, 1) := by decide +kernel
theorem dX3_begin_7 : decode cX3_begin 7 = .ok (.putfield 49, 3) := by decide +kernel
theorem dX3_begin_10 : decode cX3_begin 10 = .ok (.aload_n 1, 1) := by decide +kernel
theorem dX3_begin_11 : decode cX3_begin 11 = .ok (.iconst 0, 1) := by decide +kernel
theorem dX3_begin_12 : decode cX3_begin 12 = .ok (.putfield 52, 3) := by decide +kernel
theorem dX3_begin_15 : decode cX3_begin 15 = .ok (.aload_n 1, 1) := by decide +kernel
theorem dX3_begin_16 : decode cX3_begin 16 = .ok (.iconst 0, 1) := by decide +kernel
theorem dX3_begin_17 : decode cX3_begin 17 = .ok (.putfield 55, 3) := by decide +kernel
theorem dX3_begin_20 : decode cX3_begin 20 = .ok (.aload_n 1, 1) := by decide +kernel
theorem dX3_begin_21 : decode cX3_begin 21 = .ok (.iconst 0, 1) := by decide +kernel
theorem dX3_begin_22 : decode cX3_begin 22 = .ok (.putfield 58, 3) := by decide +kernel
theorem dX3_begin_25 : decode cX3_begin 25 = .ok (.aload_n 1, 1) := by decide +kernel
theorem dX3_begin_26 : decode cX3_begin 26 = .ok (.iload_n 2, 1) := by decide +kernel
theorem dX3_begin_27 : decode cX3_begin 27 = .ok (.putfield 61, 3) := by decide +kernel
theorem dX3_begin_30 : decode cX3_begin 30 = .ok (.aload_n 1, 1) := by decide +kernel
theorem dX3_begin_31 : decode cX3_begin 31 = .ok (.iload_n 3, 1) := by decide +kernel
theorem dX3_begin_32 : decode cX3_begin 32 = .ok (.putfield 64, 3) := by decide +kernel
theorem dX3_begin_35 : decode cX3_begin 35 = .ok (.aload_n 1, 1) := by decide +kernel
theorem dX3_begin_36 : decode cX3_begin 36 = .ok (.iload 4, 2) := by decide +kernel
theorem dX3_begin_38 : decode cX3_begin 38 = .ok (.putfield 67, 3) := by decide +kernel
theorem dX3_begin_41 : decode cX3_begin 41 = .ok (.aload_n 1, 1) := by decide +kernel
theorem dX3_begin_42 : decode cX3_begin 42 = .ok (.aload_n 0, 1) := by decide +kernel
theorem dX3_begin_43 : decode cX3_begin 43 = .ok (.getfield 9, 3) := by decide +kernel
theorem dX3_begin_46 : decode cX3_begin 46 = .ok (.getfield 21, 3) := by decide +kernel
theorem dX3_begin_49 : decode cX3_begin 49 = .ok (.getfield 70, 3) := by decide +kernel
theorem dX3_begin_52 : decode cX3_begin 52 = .ok (.putfield 75, 3) := by decide +kernel
theorem dX3_begin_55 : decode cX3_begin 55 = .ok (.aload_n 1, 1) := by decide +kernel
theorem dX3_begin_56 : decode cX3_begin 56 = .ok (.aload_n 0, 1) := by decide +kernel
theorem dX3_begin_57 : decode cX3_begin 57 = .ok (.getfield 9, 3) := by decide +kernel
theorem dX3_begin_60 : decode cX3_begin 60 = .ok (.getfield 21, 3) := by decide +kernel
theorem dX3_begin_63 : decode cX3_begin 63 = .ok (.getfield 76, 3) := by decide +kernel
theorem dX3_begin_66 : decode cX3_begin 66 = .ok (.putfield 79, 3) := by decide +kernel
theorem dX3_begin_69 : decode cX3_begin 69 = .ok (.return_, 1) := by decide +kernel
set_option maxRecDepth 20000 in
theorem ggX3_goOn_X3_step : GoodIn wsX3_goOn wsX3_step := goodIn_r _ [7, 8, 9, 10, 11, 12, 2, 13, 14, 15, 16, 17, 18, 19, 1, 20, 21, 22, 6, 23, 24, 25, 26, 27, 28, 29, 30, 31, 32, 33, 34, 35, 36, 37, 38, 39, 40, 41, 42, 43, 44, 45, 46, 47, 48, 49, 50, 51, 52, 53, 54, 55, 56, 57, 58, 59, 60, 61, 62, 63, 64, 65, 66, 67, 68, 69, 70, 71, 72, 73, 74, 75, 76, 77, 78, 79, 80, 81, 82, 83, 84, 85, 86, 87, 88, 89, 90, 91, 92, 93, 94, 95, 96, 97, 98, 99, 100, 101, 102, 103, 104, 105, 106, 107, 108, 109, 110, 111, 112, 113, 114, 115, 116, 117, 118, 119, 120, 121, 122, 123, 124, 125, 126, 127, 128, 129, 130, 131, 132, 133, 134, 135, 136, 137, 138, 139, 140, 141, 142, 143, 144, 145, 146, 147, 148, 149, 150, 151, 152, 153, 154, 155, 156, 157, 158, 159, 160, 161, 162, 163, 164, 165, 166, 167, 168, 169, 170, 171, 172, 173, 174, 175, 176, 177, 178, 179, 180, 181, 182, 183, 184, 185, 186, 187, 188, 189, 190, 191, 192, 193, 194, 195, 196, 197, 198, 199, 200, 201, 202, 203, 204, 205, 206, 207, 208, 209, 210, 211, 212, 213, 214, 215, 216, 217, 218, 219, 220, 221, 222, 223, 224, 225, 226, 227, 228, 229, 230] (by decide +kernel) (by decide +kernel)
set_option maxRecDepth 20000 in
theorem gX3_goOn_X3_step : GoodIn wsX3_goOn (wsV RX3 80 RX3 yX3_step wsX3_step) := goodIn_app (goodIn_of _ (by decide +kernel)) ggX3_goOn_X3_step
theorem dX3_goOn_0 : decode cX3_goOn 0 = .ok (.iconst 0, 1) := by decide +kernel
theorem dX3_goOn_1 : decode cX3_goOn 1 = .ok (.istore 4, 2) := by decide +kernel
theorem dX3_goOn_3 : decode cX3_goOn 3 = .ok (.iload 4, 2) := by decide +kernel
theorem dX3_goOn_5 : decode cX3_goOn 5 = .ok (.iload_n 3, 1) := by decide +kernel
theorem dX3_goOn_6 : decode cX3_goOn 6 = .ok (.if_icmp .ge 30, 3) := by decide +kernel
theorem dX3_goOn_9 : decode cX3_goOn 9 = .ok (.aload_n 1, 1) := by decide +kernel
theorem dX3_goOn_10 : decode cX3_goOn 10 = .ok (.getfield 49, 3) := by decide +kernel
theorem dX3_goOn_13 : decode cX3_goOn 13 = .ok (.ifCond .ne 23, 3) := by decide +kernel
theorem dX3_goOn_16 : decode cX3_goOn 16 = .ok (.aload_n 1, 1) := by decide +kernel
theorem dX3_goOn_17 : decode cX3_goOn 17 = .ok (.getfield 52, 3) := by decide +kernel
theorem dX3_goOn_20 : decode cX3_goOn 20 = .ok (.ifCond .ne 16, 3) := by decide +kernel
theorem dX3_goOn_23 : decode cX3_goOn 23 = .ok (.aload_n 0, 1) := by decide +kernel
theorem dX3_goOn_24 : decode cX3_goOn 24 = .ok (.aload_n 1, 1) := by decide +kernel
theorem dX3_goOn_25 : decode cX3_goOn 25 = .ok (.aload_n 2, 1) := by decide +kernel
theorem dX3_goOn_26 : decode cX3_goOn 26 = .ok (.invokevirtual 80, 3) := by decide +kernel
theorem dX3_goOn_29 : decode cX3_goOn 29 = .ok (.pop, 1) := by decide +kernel
theorem dX3_goOn_30 : decode cX3_goOn 30 = .ok (.iinc 4 1, 3) := by decide +kernel
theorem dX3_goOn_33 : decode cX3_goOn 33 = .ok (.goto (-30), 3) := by decide +kernel
theorem dX3_goOn_36 : decode cX3_goOn 36 = .ok (.return_, 1) := by decide +kernel
set_option maxRecDepth 20000 in
theorem ggX3_hitsFrom_X8_isRule : GoodIn wsX3_hitsFrom wsX8_isRule := goodIn_r _ [9, 10, 11, 12, 13, 203, 204, 205, 206, 207, 208] (by decide +kernel) (by decide +kernel)
set_option maxRecDepth 20000 in
theorem gX3_hitsFrom_X8_isRule : GoodIn wsX3_hitsFrom (wsV RX3 84 RX8 yX8_isRule wsX8_isRule) := goodIn_app (goodIn_of _ (by decide +kernel)) ggX3_hitsFrom_X8_isRule
set_option maxRecDepth 20000 in
theorem ggX3_hitsFrom_X3_begin : GoodIn wsX3_hitsFrom wsX3_begin := goodIn_r _ [18, 19, 4, 20, 21, 22, 23, 24, 25, 1, 26, 27, 28, 29, 30, 209, 210, 211, 212, 213, 214, 215, 216, 217, 218, 219, 220, 199, 200, 201, 202, 203, 204, 205, 206, 207, 208, 221, 222, 223, 224, 225, 226, 227] (by decide +kernel) (by decide +kernel)
set_option maxRecDepth 20000 in
theorem gX3_hitsFrom_X3_begin : GoodIn wsX3_hitsFrom (wsV RX3 88 RX3 yX3_begin wsX3_begin) := goodIn_app (goodIn_of _ (by decide +kernel)) ggX3_hitsFrom_X3_begin
set_option maxRecDepth 20000 in
theorem ggX3_hitsFrom_X3_goOn : GoodIn wsX3_hitsFrom wsX3_goOn := goodIn_r _ [34, 4, 20, 35, 36, 37, 17, 38, 21, 39, 22, 40, 41, 42, 43, 25, 23, 24, 1, 44, 45, 46, 47, 48, 26, 49, 27, 50, 51, 52, 53, 54, 55, 56, 57, 58, 59, 60, 61, 62, 63, 64, 65, 66, 67, 68, 69, 70, 71, 72, 73, 74, 75, 76, 77, 78, 79, 80, 81, 82, 83, 84, 85, 86, 87, 88, 89, 90, 91, 92, 93, 94, 95, 96, 97, 98, 99, 100, 101, 102, 103, 104, 105, 106, 107, 108, 109, 110, 111, 112, 113, 114, 115, 116, 117, 118, 119, 11, 12, 13, 120, 121, 122, 123, 124, 125, 126, 127, 128, 129, 130, 131, 132, 133, 134, 135, 136, 137, 138, 139, 140, 141, 142, 143, 144, 145, 146, 147, 148, 149, 150, 151, 152, 153, 154, 155, 156, 157, 158, 159, 160, 161, 162, 163, 164, 165, 166, 167, 168, 169, 170, 171, 172, 173, 174, 175, 176, 177, 178, 179, 180, 181, 182, 183, 184, 185, 186, 187, 188, 189, 190, 191, 192, 193, 194, 195, 196, 197, 198, 209, 210, 211, 212, 213, 214, 215, 216, 217, 218, 219, 220, 199, 200, 201, 202, 228, 229, 230, 231, 232, 233, 234, 235, 236, 203, 204, 205, 206, 207, 208, 221, 222, 223, 224, 225, 226, 227, 237, 238, 239, 240, 241, 242, 243, 244, 245, 246, 247, 248, 249, 250] (by decide +kernel) (by decide +kernel)
set_option maxRecDepth 20000 in
theorem gX3_hitsFrom_X3_goOn : GoodIn wsX3_hitsFrom (wsV RX3 96 RX3 yX3_goOn wsX3_goOn) := goodIn_app (goodIn_of _ (by decide +kernel)) ggX3_hitsFrom_X3_goOn
theorem dX3_hitsFrom_0 : decode cX3_hitsFrom 0 = .ok (.aload_n 0, 1) := by decide +kernel
theorem dX3_hitsFrom_1 : decode cX3_hitsFrom 1 = .ok (.getfield 9, 3) := by decide +kernel
theorem dX3_hitsFrom_4 : decode cX3_hitsFrom 4 = .ok (.iload_n 1, 1) := by decide +kernel
theorem dX3_hitsFrom_5 : decode cX3_hitsFrom 5 = .ok (.invokevirtual 84, 3) := by decide +kernel
theorem dX3_hitsFrom_8 : decode cX3_hitsFrom 8 = .ok (.ifCond .ne 5, 3) := by decide +kernel
theorem dX3_hitsFrom_11 : decode cX3_hitsFrom 11 = .ok (.iconst 0, 1) := by decide +kernel
theorem dX3_hitsFrom_12 : decode cX3_hitsFrom 12 = .ok (.ireturn, 1) := by decide +kernel
theorem dX3_hitsFrom_13 : decode cX3_hitsFrom 13 = .ok (.aload_n 0, 1) := by decide +kernel
theorem dX3_hitsFrom_14 : decode cX3_hitsFrom 14 = .ok (.aload_n 0, 1) := by decide +kernel
theorem dX3_hitsFrom_15 : decode cX3_hitsFrom 15 = .ok (.getfield 37, 3) := by decide +kernel
theorem dX3_hitsFrom_18 : decode cX3_hitsFrom 18 = .ok (.iload_n 2, 1) := by decide +kernel
theorem dX3_hitsFrom_19 : decode cX3_hitsFrom 19 = .ok (.iload_n 3, 1) := by decide +kernel
theorem dX3_hitsFrom_20 : decode cX3_hitsFrom 20 = .ok (.iload 4, 2) := by decide +kernel
theorem dX3_hitsFrom_22 : decode cX3_hitsFrom 22 = .ok (.invokevirtual 88, 3) := by decide +kernel
theorem dX3_hitsFrom_25 : decode cX3_hitsFrom 25 = .ok (.aload_n 0, 1) := by decide +kernel
theorem dX3_hitsFrom_26 : decode cX3_hitsFrom 26 = .ok (.aload_n 0, 1) := by decide +kernel
theorem dX3_hitsFrom_27 : decode cX3_hitsFrom 27 = .ok (.getfield 37, 3) := by decide +kernel
theorem dX3_hitsFrom_30 : decode cX3_hitsFrom 30 = .ok (.aload_n 0, 1) := by decide +kernel
theorem dX3_hitsFrom_31 : decode cX3_hitsFrom 31 = .ok (.getfield 9, 3) := by decide +kernel
theorem dX3_hitsFrom_34 : decode cX3_hitsFrom 34 = .ok (.getfield 92, 3) := by decide +kernel
theorem dX3_hitsFrom_37 : decode cX3_hitsFrom 37 = .ok (.iload_n 1, 1) := by decide +kernel
theorem dX3_hitsFrom_38 : decode cX3_hitsFrom 38 = .ok (.aaload, 1) := by decide +kernel
theorem dX3_hitsFrom_39 : decode cX3_hitsFrom 39 = .ok (.iload 5, 2) := by decide +kernel
theorem dX3_hitsFrom_41 : decode cX3_hitsFrom 41 = .ok (.invokevirtual 96, 3) := by decide +kernel
theorem dX3_hitsFrom_44 : decode cX3_hitsFrom 44 = .ok (.aload_n 0, 1) := by decide +kernel
theorem dX3_hitsFrom_45 : decode cX3_hitsFrom 45 = .ok (.getfield 37, 3) := by decide +kernel
theorem dX3_hitsFrom_48 : decode cX3_hitsFrom 48 = .ok (.getfield 49, 3) := by decide +kernel
theorem dX3_hitsFrom_51 : decode cX3_hitsFrom 51 = .ok (.ireturn, 1) := by decide +kernel
set_option maxRecDepth 20000 in
theorem ggX3_keptRules_X3_keepsAll : GoodIn wsX3_keptRules wsX3_keepsAll := goodIn_r _ [7, 1, 8, 9, 10, 11, 12, 13, 14, 15, 16, 17, 18, 19, 20, 21, 22, 23, 24, 25, 26, 27, 28, 29, 30, 31, 32, 33, 34, 35, 36, 37, 38, 39, 40, 41, 42, 43, 44, 45, 46, 47, 48, 49, 50, 51, 52, 53, 54, 55, 56, 57, 58, 59, 60, 6, 61, 62, 63, 64, 65, 66, 67, 68, 69, 70, 71, 72, 73, 74, 75, 76, 77, 78, 79, 80, 81, 82, 83, 84, 85, 86, 87, 88, 89, 90, 91, 92, 93, 94, 95, 96, 97, 98, 99, 100, 101, 102, 103, 104, 105, 106, 107, 108, 109, 110, 111, 112, 113, 114, 115, 116, 117, 118, 119, 120, 121, 122, 123, 124, 125, 126, 127, 128, 129, 130, 131, 132, 133, 134, 135, 136, 137, 138, 139, 140, 141, 142, 143, 144, 145, 146, 147, 148, 149, 150, 151, 152, 153, 154, 155, 156, 157, 158, 159, 160, 161, 162, 163, 164, 165, 166, 167, 168, 169, 170, 171, 172, 173, 174, 175, 176, 177, 178, 179, 180, 181, 182, 183, 184, 185, 186, 187, 188, 189, 190, 191, 192, 193, 194, 195, 196, 197, 198, 199, 200, 201, 202, 203, 204, 205, 206, 207, 208, 209, 210, 211, 212, 213, 214, 215, 216, 217, 218, 219, 220, 221, 222, 223, 224, 225, 226, 227, 228, 229, 230, 231, 232, 233, 234, 235, 236, 237, 238, 239, 240, 241, 242, 243, 244, 245, 246, 247, 248, 249, 250, 251, 252, 253, 254, 255, 256, 257, 258, 259, 260, 261, 262, 263, 264, 265, 266, 267, 268] (by decide +kernel) (by decide +kernel)
set_option maxRecDepth 20000 in
theorem gX3_keptRules_X3_keepsAll : GoodIn wsX3_keptRules (wsV RX3 103 RX3 yX3_keepsAll wsX3_keepsAll) := goodIn_app (goodIn_of _ (by decide +kernel)) ggX3_keptRules_X3_keepsAll
theorem dX3_keptRules_0 : decode cX3_keptRules 0 = .ok (.iconst 0, 1) := by decide +kernel
theorem dX3_keptRules_1 : decode cX3_keptRules 1 = .ok (.istore_n 1, 1) := by decide +kernel
theorem dX3_keptRules_2 : decode cX3_keptRules 2 = .ok (.iconst 0, 1) := by decide +kernel
theorem dX3_keptRules_3 : decode cX3_keptRules 3 = .ok (.istore_n 2, 1) := by decide +kernel
theorem dX3_keptRules_4 : decode cX3_keptRules 4 = .ok (.iload_n 2, 1) := by decide +kernel
theorem dX3_keptRules_5 : decode cX3_keptRules 5 = .ok (.aload_n 0, 1) := by decide +kernel
theorem dX3_keptRules_6 : decode cX3_keptRules 6 = .ok (.getfield 9, 3) := by decide +kernel
theorem dX3_keptRules_9 : decode cX3_keptRules 9 = .ok (.getfield 100, 3) := by decide +kernel
theorem dX3_keptRules_12 : decode cX3_keptRules 12 = .ok (.if_icmp .ge 23, 3) := by decide +kernel
theorem dX3_keptRules_15 : decode cX3_keptRules 15 = .ok (.aload_n 0, 1) := by decide +kernel
theorem dX3_keptRules_16 : decode cX3_keptRules 16 = .ok (.iload_n 2, 1) := by decide +kernel
theorem dX3_keptRules_17 : decode cX3_keptRules 17 = .ok (.invokevirtual 103, 3) := by decide +kernel
theorem dX3_keptRules_20 : decode cX3_keptRules 20 = .ok (.ifCond .eq 9, 3) := by decide +kernel
theorem dX3_keptRules_23 : decode cX3_keptRules 23 = .ok (.iload_n 1, 1) := by decide +kernel
theorem dX3_keptRules_24 : decode cX3_keptRules 24 = .ok (.iconst 1, 1) := by decide +kernel
theorem dX3_keptRules_25 : decode cX3_keptRules 25 = .ok (.iload_n 2, 1) := by decide +kernel
theorem dX3_keptRules_26 : decode cX3_keptRules 26 = .ok (.ishl, 1) := by decide +kernel
theorem dX3_keptRules_27 : decode cX3_keptRules 27 = .ok (.ior, 1) := by decide +kernel
theorem dX3_keptRules_28 : decode cX3_keptRules 28 = .ok (.istore_n 1, 1) := by decide +kernel
theorem dX3_keptRules_29 : decode cX3_keptRules 29 = .ok (.iinc 2 1, 3) := by decide +kernel
theorem dX3_keptRules_32 : decode cX3_keptRules 32 = .ok (.goto (-28), 3) := by decide +kernel
theorem dX3_keptRules_35 : decode cX3_keptRules 35 = .ok (.iload_n 1, 1) := by decide +kernel
theorem dX3_keptRules_36 : decode cX3_keptRules 36 = .ok (.ireturn, 1) := by decide +kernel
set_option maxRecDepth 20000 in
theorem ggX3_keepsAll_X8_isRule : GoodIn wsX3_keepsAll wsX8_isRule := goodIn_r _ [17, 18, 19, 20, 21, 210, 211, 212, 213, 214, 215] (by decide +kernel) (by decide +kernel)
set_option maxRecDepth 20000 in
theorem gX3_keepsAll_X8_isRule : GoodIn wsX3_keepsAll (wsV RX3 84 RX8 yX8_isRule wsX8_isRule) := goodIn_app (goodIn_of _ (by decide +kernel)) ggX3_keepsAll_X8_isRule
set_option maxRecDepth 20000 in
theorem ggX3_keepsAll_X10_isFree : GoodIn wsX3_keepsAll wsX10_isFree := goodIn_r _ [26, 27, 28, 29, 30, 25, 31, 32, 19, 20, 21, 33, 34, 35, 36, 37, 38, 39, 40, 41, 42, 43, 44, 45, 46, 47, 48, 49, 50, 51, 234, 235, 236, 237, 238, 239, 240, 241, 242] (by decide +kernel) (by decide +kernel)
set_option maxRecDepth 20000 in
theorem gX3_keepsAll_X10_isFree : GoodIn wsX3_keepsAll (wsV RX3 122 RX10 yX10_isFree wsX10_isFree) := goodIn_app (goodIn_of _ (by decide +kernel)) ggX3_keepsAll_X10_isFree
set_option maxRecDepth 20000 in
theorem ggX3_keepsAll_X3_begin : GoodIn wsX3_keepsAll wsX3_begin := goodIn_r _ [56, 57, 10, 58, 59, 60, 61, 62, 63, 1, 64, 65, 66, 67, 68, 222, 223, 224, 225, 226, 227, 228, 229, 230, 231, 232, 233, 206, 207, 208, 209, 210, 211, 212, 213, 214, 215, 243, 244, 245, 246, 247, 248, 249] (by decide +kernel) (by decide +kernel)
set_option maxRecDepth 20000 in
theorem gX3_keepsAll_X3_begin : GoodIn wsX3_keepsAll (wsV RX3 88 RX3 yX3_begin wsX3_begin) := goodIn_app (goodIn_of _ (by decide +kernel)) ggX3_keepsAll_X3_begin
set_option maxRecDepth 20000 in
theorem ggX3_keepsAll_X3_step : GoodIn wsX3_keepsAll wsX3_step := goodIn_r _ [72, 59, 73, 60, 74, 75, 58, 76, 77, 63, 61, 62, 1, 4, 10, 78, 79, 80, 55, 81, 64, 82, 65, 83, 84, 85, 86, 87, 88, 89, 90, 91, 92, 93, 94, 95, 96, 97, 98, 99, 100, 101, 102, 103, 41, 42, 25, 43, 44, 45, 46, 47, 27, 32, 104, 105, 106, 107, 108, 109, 110, 111, 112, 113, 114, 115, 116, 117, 118, 119, 120, 121, 122, 123, 124, 125, 126, 127, 128, 129, 130, 131, 132, 133, 134, 135, 136, 137, 138, 139, 140, 141, 142, 19, 20, 21, 143, 144, 145, 146, 147, 148, 149, 150, 151, 152, 153, 154, 155, 156, 157, 158, 159, 160, 161, 162, 163, 164, 165, 166, 167, 168, 169, 170, 171, 172, 173, 174, 175, 176, 177, 178, 179, 180, 181, 182, 183, 184, 185, 186, 187, 188, 189, 190, 191, 192, 193, 194, 195, 196, 197, 198, 199, 200, 201, 22, 23, 24, 26, 28, 29, 30, 31, 33, 34, 35, 36, 37, 38, 39, 40, 48, 49, 50, 51, 222, 223, 224, 225, 226, 227, 228, 229, 230, 231, 232, 233, 206, 207, 208, 209, 250, 251, 252, 253, 254, 255, 256, 257, 258, 210, 211, 212, 213, 214, 215, 243, 244, 245, 246, 247, 248, 249, 259, 260, 261, 262, 263, 234, 235, 236, 237, 238, 239, 240, 241, 242] (by decide +kernel) (by decide +kernel)
set_option maxRecDepth 20000 in
theorem gX3_keepsAll_X3_step : GoodIn wsX3_keepsAll (wsV RX3 80 RX3 yX3_step wsX3_step) := goodIn_app (goodIn_of _ (by decide +kernel)) ggX3_keepsAll_X3_step
set_option maxRecDepth 20000 in
theorem ggX3_keepsAll_X2_noted : GoodIn wsX3_keepsAll wsX2_noted := goodIn_r _ [205, 194, 222, 223, 224, 225, 226, 227, 228, 229, 230, 231, 232, 233] (by decide +kernel) (by decide +kernel)
set_option maxRecDepth 20000 in
theorem gX3_keepsAll_X2_noted : GoodIn wsX3_keepsAll (wsV RX3 133 RX2 yX2_noted wsX2_noted) := goodIn_app (goodIn_of _ (by decide +kernel)) ggX3_keepsAll_X2_noted
theorem dX3_keepsAll_0 : decode cX3_keepsAll 0 = .ok (.aload_n 0, 1) := by decide +kernel
theorem dX3_keepsAll_1 : decode cX3_keepsAll 1 = .ok (.getfield 9, 3) := by decide +kernel
theorem dX3_keepsAll_4 : decode cX3_keepsAll 4 = .ok (.getfield 106, 3) := by decide +kernel
theorem dX3_keepsAll_7 : decode cX3_keepsAll 7 = .ok (.astore_n 2, 1) := by decide +kernel
theorem dX3_keepsAll_8 : decode cX3_keepsAll 8 = .ok (.aload_n 0, 1) := by decide +kernel
theorem dX3_keepsAll_9 : decode cX3_keepsAll 9 = .ok (.getfield 9, 3) := by decide +kernel
theorem dX3_keepsAll_12 : decode cX3_keepsAll 12 = .ok (.iload_n 1, 1) := by decide +kernel
theorem dX3_keepsAll_13 : decode cX3_keepsAll 13 = .ok (.invokevirtual 84, 3) := by decide +kernel
theorem dX3_keepsAll_16 : decode cX3_keepsAll 16 = .ok (.istore_n 3, 1) := by decide +kernel
theorem dX3_keepsAll_17 : decode cX3_keepsAll 17 = .ok (.iconst 0, 1) := by decide +kernel
theorem dX3_keepsAll_18 : decode cX3_keepsAll 18 = .ok (.istore 4, 2) := by decide +kernel
theorem dX3_keepsAll_20 : decode cX3_keepsAll 20 = .ok (.iload_n 3, 1) := by decide +kernel
theorem dX3_keepsAll_21 : decode cX3_keepsAll 21 = .ok (.ifCond .eq 160, 3) := by decide +kernel
theorem dX3_keepsAll_24 : decode cX3_keepsAll 24 = .ok (.iload 4, 2) := by decide +kernel
theorem dX3_keepsAll_26 : decode cX3_keepsAll 26 = .ok (.aload_n 2, 1) := by decide +kernel
theorem dX3_keepsAll_27 : decode cX3_keepsAll 27 = .ok (.getfield 110, 3) := by decide +kernel
theorem dX3_keepsAll_30 : decode cX3_keepsAll 30 = .ok (.if_icmp .ge 151, 3) := by decide +kernel
theorem dX3_keepsAll_33 : decode cX3_keepsAll 33 = .ok (.aload_n 0, 1) := by decide +kernel
theorem dX3_keepsAll_34 : decode cX3_keepsAll 34 = .ok (.getfield 9, 3) := by decide +kernel
theorem dX3_keepsAll_37 : decode cX3_keepsAll 37 = .ok (.getfield 113, 3) := by decide +kernel
theorem dX3_keepsAll_40 : decode cX3_keepsAll 40 = .ok (.aload_n 2, 1) := by decide +kernel
theorem dX3_keepsAll_41 : decode cX3_keepsAll 41 = .ok (.getfield 117, 3) := by decide +kernel
theorem dX3_keepsAll_44 : decode cX3_keepsAll 44 = .ok (.iload 4, 2) := by decide +kernel
theorem dX3_keepsAll_46 : decode cX3_keepsAll 46 = .ok (.iaload, 1) := by decide +kernel
theorem dX3_keepsAll_47 : decode cX3_keepsAll 47 = .ok (.aload_n 2, 1) := by decide +kernel
theorem dX3_keepsAll_48 : decode cX3_keepsAll 48 = .ok (.getfield 120, 3) := by decide +kernel
theorem dX3_keepsAll_51 : decode cX3_keepsAll 51 = .ok (.iload 4, 2) := by decide +kernel
theorem dX3_keepsAll_53 : decode cX3_keepsAll 53 = .ok (.iaload, 1) := by decide +kernel
theorem dX3_keepsAll_54 : decode cX3_keepsAll 54 = .ok (.iconst 0, 1) := by decide +kernel
theorem dX3_keepsAll_55 : decode cX3_keepsAll 55 = .ok (.invokevirtual 122, 3) := by decide +kernel
theorem dX3_keepsAll_58 : decode cX3_keepsAll 58 = .ok (.istore_n 3, 1) := by decide +kernel
theorem dX3_keepsAll_59 : decode cX3_keepsAll 59 = .ok (.aload_n 0, 1) := by decide +kernel
theorem dX3_keepsAll_60 : decode cX3_keepsAll 60 = .ok (.aload_n 0, 1) := by decide +kernel
theorem dX3_keepsAll_61 : decode cX3_keepsAll 61 = .ok (.getfield 37, 3) := by decide +kernel
theorem dX3_keepsAll_64 : decode cX3_keepsAll 64 = .ok (.aload_n 2, 1) := by decide +kernel
theorem dX3_keepsAll_65 : decode cX3_keepsAll 65 = .ok (.getfield 117, 3) := by decide +kernel
theorem dX3_keepsAll_68 : decode cX3_keepsAll 68 = .ok (.iload 4, 2) := by decide +kernel
theorem dX3_keepsAll_70 : decode cX3_keepsAll 70 = .ok (.iaload, 1) := by decide +kernel
theorem dX3_keepsAll_71 : decode cX3_keepsAll 71 = .ok (.aload_n 2, 1) := by decide +kernel
theorem dX3_keepsAll_72 : decode cX3_keepsAll 72 = .ok (.getfield 120, 3) := by decide +kernel
theorem dX3_keepsAll_75 : decode cX3_keepsAll 75 = .ok (.iload 4, 2) := by decide +kernel
theorem dX3_keepsAll_77 : decode cX3_keepsAll 77 = .ok (.iaload, 1) := by decide +kernel
theorem dX3_keepsAll_78 : decode cX3_keepsAll 78 = .ok (.aload_n 2, 1) := by decide +kernel
theorem dX3_keepsAll_79 : decode cX3_keepsAll 79 = .ok (.getfield 128, 3) := by decide +kernel
theorem dX3_keepsAll_82 : decode cX3_keepsAll 82 = .ok (.iload 4, 2) := by decide +kernel
theorem dX3_keepsAll_84 : decode cX3_keepsAll 84 = .ok (.iaload, 1) := by decide +kernel
theorem dX3_keepsAll_85 : decode cX3_keepsAll 85 = .ok (.invokevirtual 88, 3) := by decide +kernel
theorem dX3_keepsAll_88 : decode cX3_keepsAll 88 = .ok (.iconst 0, 1) := by decide +kernel
theorem dX3_keepsAll_89 : decode cX3_keepsAll 89 = .ok (.istore 5, 2) := by decide +kernel
theorem dX3_keepsAll_91 : decode cX3_keepsAll 91 = .ok (.iload_n 3, 1) := by decide +kernel
theorem dX3_keepsAll_92 : decode cX3_keepsAll 92 = .ok (.ifCond .eq 83, 3) := by decide +kernel
theorem dX3_keepsAll_95 : decode cX3_keepsAll 95 = .ok (.iload 5, 2) := by decide +kernel
theorem dX3_keepsAll_97 : decode cX3_keepsAll 97 = .ok (.aload_n 2, 1) := by decide +kernel
theorem dX3_keepsAll_98 : decode cX3_keepsAll 98 = .ok (.getfield 130, 3) := by decide +kernel
theorem dX3_keepsAll_101 : decode cX3_keepsAll 101 = .ok (.iload 4, 2) := by decide +kernel
theorem dX3_keepsAll_103 : decode cX3_keepsAll 103 = .ok (.iaload, 1) := by decide +kernel
theorem dX3_keepsAll_104 : decode cX3_keepsAll 104 = .ok (.if_icmp .ge 71, 3) := by decide +kernel
theorem dX3_keepsAll_107 : decode cX3_keepsAll 107 = .ok (.aload_n 0, 1) := by decide +kernel
theorem dX3_keepsAll_108 : decode cX3_keepsAll 108 = .ok (.getfield 37, 3) := by decide +kernel
theorem dX3_keepsAll_111 : decode cX3_keepsAll 111 = .ok (.getfield 49, 3) := by decide +kernel
theorem dX3_keepsAll_114 : decode cX3_keepsAll 114 = .ok (.ifCond .ne 53, 3) := by decide +kernel
theorem dX3_keepsAll_117 : decode cX3_keepsAll 117 = .ok (.aload_n 0, 1) := by decide +kernel
theorem dX3_keepsAll_118 : decode cX3_keepsAll 118 = .ok (.aload_n 0, 1) := by decide +kernel
theorem dX3_keepsAll_119 : decode cX3_keepsAll 119 = .ok (.getfield 37, 3) := by decide +kernel
theorem dX3_keepsAll_122 : decode cX3_keepsAll 122 = .ok (.aload_n 0, 1) := by decide +kernel
theorem dX3_keepsAll_123 : decode cX3_keepsAll 123 = .ok (.getfield 9, 3) := by decide +kernel
theorem dX3_keepsAll_126 : decode cX3_keepsAll 126 = .ok (.getfield 92, 3) := by decide +kernel
theorem dX3_keepsAll_129 : decode cX3_keepsAll 129 = .ok (.iload_n 1, 1) := by decide +kernel
theorem dX3_keepsAll_130 : decode cX3_keepsAll 130 = .ok (.aaload, 1) := by decide +kernel
theorem dX3_keepsAll_131 : decode cX3_keepsAll 131 = .ok (.invokevirtual 80, 3) := by decide +kernel
theorem dX3_keepsAll_134 : decode cX3_keepsAll 134 = .ok (.ifCond .eq 33, 3) := by decide +kernel
theorem dX3_keepsAll_137 : decode cX3_keepsAll 137 = .ok (.aload_n 0, 1) := by decide +kernel
theorem dX3_keepsAll_138 : decode cX3_keepsAll 138 = .ok (.getfield 37, 3) := by decide +kernel
theorem dX3_keepsAll_141 : decode cX3_keepsAll 141 = .ok (.iload 5, 2) := by decide +kernel
theorem dX3_keepsAll_143 : decode cX3_keepsAll 143 = .ok (.iconst 0, 1) := by decide +kernel
theorem dX3_keepsAll_144 : decode cX3_keepsAll 144 = .ok (.invokevirtual 133, 3) := by decide +kernel
theorem dX3_keepsAll_147 : decode cX3_keepsAll 147 = .ok (.aload_n 2, 1) := by decide +kernel
theorem dX3_keepsAll_148 : decode cX3_keepsAll 148 = .ok (.getfield 137, 3) := by decide +kernel
theorem dX3_keepsAll_151 : decode cX3_keepsAll 151 = .ok (.iload 4, 2) := by decide +kernel
theorem dX3_keepsAll_153 : decode cX3_keepsAll 153 = .ok (.bipush 20, 2) := by decide +kernel
theorem dX3_keepsAll_155 : decode cX3_keepsAll 155 = .ok (.imul, 1) := by decide +kernel
theorem dX3_keepsAll_156 : decode cX3_keepsAll 156 = .ok (.iload 5, 2) := by decide +kernel
theorem dX3_keepsAll_158 : decode cX3_keepsAll 158 = .ok (.iadd, 1) := by decide +kernel
theorem dX3_keepsAll_159 : decode cX3_keepsAll 159 = .ok (.iaload, 1) := by decide +kernel
theorem dX3_keepsAll_160 : decode cX3_keepsAll 160 = .ok (.if_icmp .ne 7, 3) := by decide +kernel
theorem dX3_keepsAll_163 : decode cX3_keepsAll 163 = .ok (.iconst 1, 1) := by decide +kernel
theorem dX3_keepsAll_164 : decode cX3_keepsAll 164 = .ok (.goto 4, 3) := by decide +kernel
theorem dX3_keepsAll_167 : decode cX3_keepsAll 167 = .ok (.iconst 0, 1) := by decide +kernel
theorem dX3_keepsAll_168 : decode cX3_keepsAll 168 = .ok (.istore_n 3, 1) := by decide +kernel
theorem dX3_keepsAll_169 : decode cX3_keepsAll 169 = .ok (.iinc 5 1, 3) := by decide +kernel
theorem dX3_keepsAll_172 : decode cX3_keepsAll 172 = .ok (.goto (-81), 3) := by decide +kernel
theorem dX3_keepsAll_175 : decode cX3_keepsAll 175 = .ok (.iinc 4 1, 3) := by decide +kernel
theorem dX3_keepsAll_178 : decode cX3_keepsAll 178 = .ok (.goto (-158), 3) := by decide +kernel
theorem dX3_keepsAll_181 : decode cX3_keepsAll 181 = .ok (.iload_n 3, 1) := by decide +kernel
theorem dX3_keepsAll_182 : decode cX3_keepsAll 182 = .ok (.ireturn, 1) := by decide +kernel
set_option maxRecDepth 20000 in
theorem ggX3_unlikeTurns_X3_begin : GoodIn wsX3_unlikeTurns wsX3_begin := goodIn_r _ [12, 13, 14, 15, 16, 17, 18, 19, 20, 2, 21, 22, 23, 24, 25, 176, 177, 178, 179, 180, 181, 182, 183, 184, 185, 186, 187, 157, 158, 159, 160, 161, 162, 163, 164, 165, 166, 188, 189, 190, 191, 192, 193, 194] (by decide +kernel) (by decide +kernel)
set_option maxRecDepth 20000 in
theorem gX3_unlikeTurns_X3_begin : GoodIn wsX3_unlikeTurns (wsV RX3 88 RX3 yX3_begin wsX3_begin) := goodIn_app (goodIn_of _ (by decide +kernel)) ggX3_unlikeTurns_X3_begin
set_option maxRecDepth 20000 in
theorem ggX3_unlikeTurns_X3_sense : GoodIn wsX3_unlikeTurns wsX3_sense := goodIn_r _ [29, 2, 21, 16, 30, 18, 19, 22, 31, 32, 33, 20, 34, 35, 36, 37, 38, 39, 40, 41, 42, 43, 44, 45, 46, 47, 48, 49, 50, 51, 52, 53, 54, 55, 56, 57, 58, 59, 60, 61, 62, 63, 64, 65, 66, 67, 68, 69, 70, 71, 72, 73, 74, 75, 76, 77, 78, 79, 80, 81, 82, 83, 157, 158, 159, 160, 161, 162, 163, 164, 165, 166, 176, 177, 178, 179, 180, 181, 182, 183, 184, 185, 186, 187, 188, 189, 190, 191, 192, 193, 194, 195, 196, 197, 198, 199, 200, 201, 202, 203, 204, 205, 206, 207, 208] (by decide +kernel) (by decide +kernel)
set_option maxRecDepth 20000 in
theorem gX3_unlikeTurns_X3_sense : GoodIn wsX3_unlikeTurns (wsV RX3 140 RX3 yX3_sense wsX3_sense) := goodIn_app (goodIn_of _ (by decide +kernel)) ggX3_unlikeTurns_X3_sense
set_option maxRecDepth 20000 in
theorem ggX3_unlikeTurns_X6_run : GoodIn wsX3_unlikeTurns wsX6_run := goodIn_r _ [88, 89, 90, 91, 92, 93, 94, 95, 96, 87, 97, 98, 99, 100, 101, 102, 103, 104, 105, 106, 107, 108, 109, 110, 111, 112, 113, 114, 115, 116, 117, 118, 119, 120, 121, 122, 123, 124, 125, 126, 127, 128, 129, 130, 131, 132, 133, 134, 135, 136, 137, 138, 72, 139, 140, 141, 142, 143, 144, 145, 146, 147, 148, 149, 167, 168, 169, 170, 171, 172, 173, 174, 175, 176, 177, 178, 179, 180, 181, 182, 183, 184, 185, 186, 187, 188, 189, 190, 191, 192, 193, 194] (by decide +kernel) (by decide +kernel)
set_option maxRecDepth 20000 in
theorem gX3_unlikeTurns_X6_run : GoodIn wsX3_unlikeTurns (wsV RX3 144 RX6 yX6_run wsX6_run) := goodIn_app (goodIn_of _ (by decide +kernel)) ggX3_unlikeTurns_X6_run
set_option maxRecDepth 20000 in
theorem ggX3_unlikeTurns_J6_bitCount_0f7a4 : GoodIn wsX3_unlikeTurns wsJ6_bitCount_0f7a4 := goodIn_r _ [153, 154, 155, 156] (by decide +kernel) (by decide +kernel)
set_option maxRecDepth 20000 in
theorem gX3_unlikeTurns_J6_bitCount_0f7a4 : GoodIn wsX3_unlikeTurns (va_wsS RX3 154 yJ6_bitCount_0f7a4 wsJ6_bitCount_0f7a4) := goodIn_app (goodIn_of _ (by decide +kernel)) ggX3_unlikeTurns_J6_bitCount_0f7a4
theorem dX3_unlikeTurns_0 : decode cX3_unlikeTurns 0 = .ok (.aload_n 0, 1) := by decide +kernel
theorem dX3_unlikeTurns_1 : decode cX3_unlikeTurns 1 = .ok (.aload_n 0, 1) := by decide +kernel
theorem dX3_unlikeTurns_2 : decode cX3_unlikeTurns 2 = .ok (.getfield 37, 3) := by decide +kernel
theorem dX3_unlikeTurns_5 : decode cX3_unlikeTurns 5 = .ok (.iload_n 2, 1) := by decide +kernel
theorem dX3_unlikeTurns_6 : decode cX3_unlikeTurns 6 = .ok (.iload_n 3, 1) := by decide +kernel
theorem dX3_unlikeTurns_7 : decode cX3_unlikeTurns 7 = .ok (.iload 4, 2) := by decide +kernel
theorem dX3_unlikeTurns_9 : decode cX3_unlikeTurns 9 = .ok (.invokevirtual 88, 3) := by decide +kernel
theorem dX3_unlikeTurns_12 : decode cX3_unlikeTurns 12 = .ok (.aload_n 0, 1) := by decide +kernel
theorem dX3_unlikeTurns_13 : decode cX3_unlikeTurns 13 = .ok (.aload_n 0, 1) := by decide +kernel
theorem dX3_unlikeTurns_14 : decode cX3_unlikeTurns 14 = .ok (.getfield 37, 3) := by decide +kernel
theorem dX3_unlikeTurns_17 : decode cX3_unlikeTurns 17 = .ok (.invokevirtual 140, 3) := by decide +kernel
theorem dX3_unlikeTurns_20 : decode cX3_unlikeTurns 20 = .ok (.iconst 0, 1) := by decide +kernel
theorem dX3_unlikeTurns_21 : decode cX3_unlikeTurns 21 = .ok (.istore 5, 2) := by decide +kernel
theorem dX3_unlikeTurns_23 : decode cX3_unlikeTurns 23 = .ok (.iconst 0, 1) := by decide +kernel
theorem dX3_unlikeTurns_24 : decode cX3_unlikeTurns 24 = .ok (.istore 6, 2) := by decide +kernel
theorem dX3_unlikeTurns_26 : decode cX3_unlikeTurns 26 = .ok (.iload 6, 2) := by decide +kernel
theorem dX3_unlikeTurns_28 : decode cX3_unlikeTurns 28 = .ok (.aload_n 0, 1) := by decide +kernel
theorem dX3_unlikeTurns_29 : decode cX3_unlikeTurns 29 = .ok (.getfield 9, 3) := by decide +kernel
theorem dX3_unlikeTurns_32 : decode cX3_unlikeTurns 32 = .ok (.getfield 100, 3) := by decide +kernel
theorem dX3_unlikeTurns_35 : decode cX3_unlikeTurns 35 = .ok (.if_icmp .ge 70, 3) := by decide +kernel
theorem dX3_unlikeTurns_38 : decode cX3_unlikeTurns 38 = .ok (.iload_n 1, 1) := by decide +kernel
theorem dX3_unlikeTurns_39 : decode cX3_unlikeTurns 39 = .ok (.iload 6, 2) := by decide +kernel
theorem dX3_unlikeTurns_41 : decode cX3_unlikeTurns 41 = .ok (.ishr, 1) := by decide +kernel
theorem dX3_unlikeTurns_42 : decode cX3_unlikeTurns 42 = .ok (.iconst 1, 1) := by decide +kernel
theorem dX3_unlikeTurns_43 : decode cX3_unlikeTurns 43 = .ok (.iand, 1) := by decide +kernel
theorem dX3_unlikeTurns_44 : decode cX3_unlikeTurns 44 = .ok (.ifCond .eq 55, 3) := by decide +kernel
theorem dX3_unlikeTurns_47 : decode cX3_unlikeTurns 47 = .ok (.aload_n 0, 1) := by decide +kernel
theorem dX3_unlikeTurns_48 : decode cX3_unlikeTurns 48 = .ok (.getfield 30, 3) := by decide +kernel
theorem dX3_unlikeTurns_51 : decode cX3_unlikeTurns 51 = .ok (.aload_n 0, 1) := by decide +kernel
theorem dX3_unlikeTurns_52 : decode cX3_unlikeTurns 52 = .ok (.getfield 9, 3) := by decide +kernel
theorem dX3_unlikeTurns_55 : decode cX3_unlikeTurns 55 = .ok (.getfield 92, 3) := by decide +kernel
theorem dX3_unlikeTurns_58 : decode cX3_unlikeTurns 58 = .ok (.iload 6, 2) := by decide +kernel
theorem dX3_unlikeTurns_60 : decode cX3_unlikeTurns 60 = .ok (.aaload, 1) := by decide +kernel
theorem dX3_unlikeTurns_61 : decode cX3_unlikeTurns 61 = .ok (.aload_n 0, 1) := by decide +kernel
theorem dX3_unlikeTurns_62 : decode cX3_unlikeTurns 62 = .ok (.getfield 37, 3) := by decide +kernel
theorem dX3_unlikeTurns_65 : decode cX3_unlikeTurns 65 = .ok (.invokevirtual 144, 3) := by decide +kernel
theorem dX3_unlikeTurns_68 : decode cX3_unlikeTurns 68 = .ok (.iload 5, 2) := by decide +kernel
theorem dX3_unlikeTurns_70 : decode cX3_unlikeTurns 70 = .ok (.iconst 1, 1) := by decide +kernel
theorem dX3_unlikeTurns_71 : decode cX3_unlikeTurns 71 = .ok (.bipush 8, 2) := by decide +kernel
theorem dX3_unlikeTurns_73 : decode cX3_unlikeTurns 73 = .ok (.aload_n 0, 1) := by decide +kernel
theorem dX3_unlikeTurns_74 : decode cX3_unlikeTurns 74 = .ok (.getfield 30, 3) := by decide +kernel
theorem dX3_unlikeTurns_77 : decode cX3_unlikeTurns 77 = .ok (.getfield 148, 3) := by decide +kernel
theorem dX3_unlikeTurns_80 : decode cX3_unlikeTurns 80 = .ok (.ifCond .eq 7, 3) := by decide +kernel
theorem dX3_unlikeTurns_83 : decode cX3_unlikeTurns 83 = .ok (.iconst 0, 1) := by decide +kernel
theorem dX3_unlikeTurns_84 : decode cX3_unlikeTurns 84 = .ok (.goto 10, 3) := by decide +kernel
theorem dX3_unlikeTurns_87 : decode cX3_unlikeTurns 87 = .ok (.aload_n 0, 1) := by decide +kernel
theorem dX3_unlikeTurns_88 : decode cX3_unlikeTurns 88 = .ok (.getfield 30, 3) := by decide +kernel
theorem dX3_unlikeTurns_91 : decode cX3_unlikeTurns 91 = .ok (.getfield 151, 3) := by decide +kernel
theorem dX3_unlikeTurns_94 : decode cX3_unlikeTurns 94 = .ok (.iadd, 1) := by decide +kernel
theorem dX3_unlikeTurns_95 : decode cX3_unlikeTurns 95 = .ok (.ishl, 1) := by decide +kernel
theorem dX3_unlikeTurns_96 : decode cX3_unlikeTurns 96 = .ok (.ior, 1) := by decide +kernel
theorem dX3_unlikeTurns_97 : decode cX3_unlikeTurns 97 = .ok (.istore 5, 2) := by decide +kernel
theorem dX3_unlikeTurns_99 : decode cX3_unlikeTurns 99 = .ok (.iinc 6 1, 3) := by decide +kernel
theorem dX3_unlikeTurns_102 : decode cX3_unlikeTurns 102 = .ok (.goto (-76), 3) := by decide +kernel
theorem dX3_unlikeTurns_105 : decode cX3_unlikeTurns 105 = .ok (.iload 5, 2) := by decide +kernel
theorem dX3_unlikeTurns_107 : decode cX3_unlikeTurns 107 = .ok (.invokestatic 154, 3) := by decide +kernel
theorem dX3_unlikeTurns_110 : decode cX3_unlikeTurns 110 = .ok (.ireturn, 1) := by decide +kernel
set_option maxRecDepth 20000 in
theorem ggX3_step_X3_sense : GoodIn wsX3_step wsX3_sense := goodIn_r _ [19, 12, 20, 1, 21, 10, 11, 22, 23, 24, 25, 9, 26, 27, 28, 29, 30, 31, 32, 33, 34, 35, 36, 37, 38, 39, 40, 41, 42, 43, 44, 45, 46, 47, 48, 49, 50, 51, 52, 53, 54, 55, 56, 57, 58, 59, 60, 61, 62, 63, 64, 65, 66, 67, 68, 69, 70, 71, 72, 73, 74, 75, 187, 188, 189, 190, 200, 201, 202, 203, 204, 205, 175, 176, 177, 178, 179, 180, 181, 182, 183, 184, 185, 186, 206, 207, 208, 209, 210, 211, 212, 213, 214, 215, 216, 217, 218, 219, 220, 221, 222, 223, 224, 225, 226] (by decide +kernel) (by decide +kernel)
set_option maxRecDepth 20000 in
theorem gX3_step_X3_sense : GoodIn wsX3_step (wsV RX3 140 RX3 yX3_sense wsX3_sense) := goodIn_app (goodIn_of _ (by decide +kernel)) ggX3_step_X3_sense
set_option maxRecDepth 20000 in
theorem ggX3_step_X6_run : GoodIn wsX3_step wsX6_run := goodIn_r _ [80, 81, 82, 83, 84, 85, 86, 87, 88, 79, 89, 90, 91, 92, 93, 94, 95, 96, 97, 98, 99, 100, 101, 102, 103, 104, 105, 106, 107, 108, 109, 110, 111, 112, 113, 114, 115, 116, 117, 118, 119, 120, 121, 122, 123, 124, 125, 126, 127, 128, 129, 130, 64, 131, 132, 133, 134, 135, 136, 137, 138, 139, 140, 141, 191, 192, 193, 194, 195, 196, 197, 198, 199, 175, 176, 177, 178, 179, 180, 181, 182, 183, 184, 185, 186, 206, 207, 208, 209, 210, 211, 212] (by decide +kernel) (by decide +kernel)
set_option maxRecDepth 20000 in
theorem gX3_step_X6_run : GoodIn wsX3_step (wsV RX3 144 RX6 yX6_run wsX6_run) := goodIn_app (goodIn_of _ (by decide +kernel)) ggX3_step_X6_run
set_option maxRecDepth 20000 in
theorem ggX3_step_X2_note : GoodIn wsX3_step wsX2_note := goodIn_r _ [145, 146, 147, 148, 149, 150, 175, 176, 177, 178, 179, 180, 181, 182, 183, 184, 185, 186] (by decide +kernel) (by decide +kernel)
set_option maxRecDepth 20000 in
theorem gX3_step_X2_note : GoodIn wsX3_step (wsV RX3 164 RX2 yX2_note wsX2_note) := goodIn_app (goodIn_of _ (by decide +kernel)) ggX3_step_X2_note
set_option maxRecDepth 20000 in
theorem ggX3_step_J9_floorDiv_7cf53 : GoodIn wsX3_step wsJ9_floorDiv_7cf53 := goodIn_r _ [154] (by decide +kernel) (by decide +kernel)
set_option maxRecDepth 20000 in
theorem gX3_step_J9_floorDiv_7cf53 : GoodIn wsX3_step (va_wsS RX3 171 yJ9_floorDiv_7cf53 wsJ9_floorDiv_7cf53) := goodIn_app (goodIn_of _ (by decide +kernel)) ggX3_step_J9_floorDiv_7cf53
set_option maxRecDepth 20000 in
theorem ggX3_step_X10_isFree : GoodIn wsX3_step wsX10_isFree := goodIn_r _ [158, 52, 159, 160, 161, 46, 162, 53, 93, 94, 95, 163, 164, 165, 166, 167, 168, 169, 170, 44, 45, 47, 48, 49, 50, 51, 171, 172, 173, 174, 218, 219, 220, 221, 222, 223, 224, 225, 226] (by decide +kernel) (by decide +kernel)
set_option maxRecDepth 20000 in
theorem gX3_step_X10_isFree : GoodIn wsX3_step (wsV RX3 122 RX10 yX10_isFree wsX10_isFree) := goodIn_app (goodIn_of _ (by decide +kernel)) ggX3_step_X10_isFree
theorem dX3_step_0 : decode cX3_step 0 = .ok (.aload_n 1, 1) := by decide +kernel
theorem dX3_step_1 : decode cX3_step 1 = .ok (.getfield 55, 3) := by decide +kernel
theorem dX3_step_4 : decode cX3_step 4 = .ok (.bipush 60, 2) := by decide +kernel
theorem dX3_step_6 : decode cX3_step 6 = .ok (.if_icmp .lt 5, 3) := by decide +kernel
theorem dX3_step_9 : decode cX3_step 9 = .ok (.iconst 0, 1) := by decide +kernel
theorem dX3_step_10 : decode cX3_step 10 = .ok (.ireturn, 1) := by decide +kernel
theorem dX3_step_11 : decode cX3_step 11 = .ok (.aload_n 0, 1) := by decide +kernel
theorem dX3_step_12 : decode cX3_step 12 = .ok (.aload_n 1, 1) := by decide +kernel
theorem dX3_step_13 : decode cX3_step 13 = .ok (.invokevirtual 140, 3) := by decide +kernel
theorem dX3_step_16 : decode cX3_step 16 = .ok (.aload_n 0, 1) := by decide +kernel
theorem dX3_step_17 : decode cX3_step 17 = .ok (.getfield 30, 3) := by decide +kernel
theorem dX3_step_20 : decode cX3_step 20 = .ok (.aload_n 2, 1) := by decide +kernel
theorem dX3_step_21 : decode cX3_step 21 = .ok (.aload_n 1, 1) := by decide +kernel
theorem dX3_step_22 : decode cX3_step 22 = .ok (.invokevirtual 144, 3) := by decide +kernel
theorem dX3_step_25 : decode cX3_step 25 = .ok (.aload_n 1, 1) := by decide +kernel
theorem dX3_step_26 : decode cX3_step 26 = .ok (.dup, 1) := by decide +kernel
theorem dX3_step_27 : decode cX3_step 27 = .ok (.getfield 58, 3) := by decide +kernel
theorem dX3_step_30 : decode cX3_step 30 = .ok (.aload_n 0, 1) := by decide +kernel
theorem dX3_step_31 : decode cX3_step 31 = .ok (.getfield 30, 3) := by decide +kernel
theorem dX3_step_34 : decode cX3_step 34 = .ok (.getfield 160, 3) := by decide +kernel
theorem dX3_step_37 : decode cX3_step 37 = .ok (.iadd, 1) := by decide +kernel
theorem dX3_step_38 : decode cX3_step 38 = .ok (.putfield 58, 3) := by decide +kernel
theorem dX3_step_41 : decode cX3_step 41 = .ok (.aload_n 0, 1) := by decide +kernel
theorem dX3_step_42 : decode cX3_step 42 = .ok (.getfield 30, 3) := by decide +kernel
theorem dX3_step_45 : decode cX3_step 45 = .ok (.getfield 148, 3) := by decide +kernel
theorem dX3_step_48 : decode cX3_step 48 = .ok (.ifCond .eq 10, 3) := by decide +kernel
theorem dX3_step_51 : decode cX3_step 51 = .ok (.aload_n 1, 1) := by decide +kernel
theorem dX3_step_52 : decode cX3_step 52 = .ok (.iconst 1, 1) := by decide +kernel
theorem dX3_step_53 : decode cX3_step 53 = .ok (.putfield 52, 3) := by decide +kernel
theorem dX3_step_56 : decode cX3_step 56 = .ok (.iconst 0, 1) := by decide +kernel
theorem dX3_step_57 : decode cX3_step 57 = .ok (.ireturn, 1) := by decide +kernel
theorem dX3_step_58 : decode cX3_step 58 = .ok (.aload_n 1, 1) := by decide +kernel
theorem dX3_step_59 : decode cX3_step 59 = .ok (.aload_n 0, 1) := by decide +kernel
theorem dX3_step_60 : decode cX3_step 60 = .ok (.getfield 30, 3) := by decide +kernel
theorem dX3_step_63 : decode cX3_step 63 = .ok (.getfield 151, 3) := by decide +kernel
theorem dX3_step_66 : decode cX3_step 66 = .ok (.aload_n 0, 1) := by decide +kernel
theorem dX3_step_67 : decode cX3_step 67 = .ok (.getfield 30, 3) := by decide +kernel
theorem dX3_step_70 : decode cX3_step 70 = .ok (.getfield 161, 3) := by decide +kernel
theorem dX3_step_73 : decode cX3_step 73 = .ok (.invokevirtual 164, 3) := by decide +kernel
theorem dX3_step_76 : decode cX3_step 76 = .ok (.aload_n 1, 1) := by decide +kernel
theorem dX3_step_77 : decode cX3_step 77 = .ok (.dup, 1) := by decide +kernel
theorem dX3_step_78 : decode cX3_step 78 = .ok (.getfield 55, 3) := by decide +kernel
theorem dX3_step_81 : decode cX3_step 81 = .ok (.iconst 1, 1) := by decide +kernel
theorem dX3_step_82 : decode cX3_step 82 = .ok (.iadd, 1) := by decide +kernel
theorem dX3_step_83 : decode cX3_step 83 = .ok (.putfield 55, 3) := by decide +kernel
theorem dX3_step_86 : decode cX3_step 86 = .ok (.aload_n 1, 1) := by decide +kernel
theorem dX3_step_87 : decode cX3_step 87 = .ok (.aload_n 1, 1) := by decide +kernel
theorem dX3_step_88 : decode cX3_step 88 = .ok (.getfield 67, 3) := by decide +kernel
theorem dX3_step_91 : decode cX3_step 91 = .ok (.aload_n 0, 1) := by decide +kernel
theorem dX3_step_92 : decode cX3_step 92 = .ok (.getfield 30, 3) := by decide +kernel
theorem dX3_step_95 : decode cX3_step 95 = .ok (.getfield 151, 3) := by decide +kernel
theorem dX3_step_98 : decode cX3_step 98 = .ok (.iadd, 1) := by decide +kernel
theorem dX3_step_99 : decode cX3_step 99 = .ok (.bipush 63, 2) := by decide +kernel
theorem dX3_step_101 : decode cX3_step 101 = .ok (.iand, 1) := by decide +kernel
theorem dX3_step_102 : decode cX3_step 102 = .ok (.putfield 67, 3) := by decide +kernel
theorem dX3_step_105 : decode cX3_step 105 = .ok (.aload_n 1, 1) := by decide +kernel
theorem dX3_step_106 : decode cX3_step 106 = .ok (.dup, 1) := by decide +kernel
theorem dX3_step_107 : decode cX3_step 107 = .ok (.getfield 61, 3) := by decide +kernel
theorem dX3_step_110 : decode cX3_step 110 = .ok (.aload_n 0, 1) := by decide +kernel
theorem dX3_step_111 : decode cX3_step 111 = .ok (.getfield 30, 3) := by decide +kernel
theorem dX3_step_114 : decode cX3_step 114 = .ok (.getfield 161, 3) := by decide +kernel
theorem dX3_step_117 : decode cX3_step 117 = .ok (.getstatic 168, 3) := by decide +kernel
theorem dX3_step_120 : decode cX3_step 120 = .ok (.aload_n 1, 1) := by decide +kernel
theorem dX3_step_121 : decode cX3_step 121 = .ok (.getfield 67, 3) := by decide +kernel
theorem dX3_step_124 : decode cX3_step 124 = .ok (.iaload, 1) := by decide +kernel
theorem dX3_step_125 : decode cX3_step 125 = .ok (.imul, 1) := by decide +kernel
theorem dX3_step_126 : decode cX3_step 126 = .ok (.bipush 16, 2) := by decide +kernel
theorem dX3_step_128 : decode cX3_step 128 = .ok (.invokestatic 171, 3) := by decide +kernel
theorem dX3_step_131 : decode cX3_step 131 = .ok (.iadd, 1) := by decide +kernel
theorem dX3_step_132 : decode cX3_step 132 = .ok (.putfield 61, 3) := by decide +kernel
theorem dX3_step_135 : decode cX3_step 135 = .ok (.aload_n 1, 1) := by decide +kernel
theorem dX3_step_136 : decode cX3_step 136 = .ok (.dup, 1) := by decide +kernel
theorem dX3_step_137 : decode cX3_step 137 = .ok (.getfield 64, 3) := by decide +kernel
theorem dX3_step_140 : decode cX3_step 140 = .ok (.aload_n 0, 1) := by decide +kernel
theorem dX3_step_141 : decode cX3_step 141 = .ok (.getfield 30, 3) := by decide +kernel
theorem dX3_step_144 : decode cX3_step 144 = .ok (.getfield 161, 3) := by decide +kernel
theorem dX3_step_147 : decode cX3_step 147 = .ok (.getstatic 176, 3) := by decide +kernel
theorem dX3_step_150 : decode cX3_step 150 = .ok (.aload_n 1, 1) := by decide +kernel
theorem dX3_step_151 : decode cX3_step 151 = .ok (.getfield 67, 3) := by decide +kernel
theorem dX3_step_154 : decode cX3_step 154 = .ok (.iaload, 1) := by decide +kernel
theorem dX3_step_155 : decode cX3_step 155 = .ok (.imul, 1) := by decide +kernel
theorem dX3_step_156 : decode cX3_step 156 = .ok (.bipush 16, 2) := by decide +kernel
theorem dX3_step_158 : decode cX3_step 158 = .ok (.invokestatic 171, 3) := by decide +kernel
theorem dX3_step_161 : decode cX3_step 161 = .ok (.iadd, 1) := by decide +kernel
theorem dX3_step_162 : decode cX3_step 162 = .ok (.putfield 64, 3) := by decide +kernel
theorem dX3_step_165 : decode cX3_step 165 = .ok (.aload_n 1, 1) := by decide +kernel
theorem dX3_step_166 : decode cX3_step 166 = .ok (.aload_n 0, 1) := by decide +kernel
theorem dX3_step_167 : decode cX3_step 167 = .ok (.getfield 9, 3) := by decide +kernel
theorem dX3_step_170 : decode cX3_step 170 = .ok (.getfield 113, 3) := by decide +kernel
theorem dX3_step_173 : decode cX3_step 173 = .ok (.aload_n 1, 1) := by decide +kernel
theorem dX3_step_174 : decode cX3_step 174 = .ok (.getfield 61, 3) := by decide +kernel
theorem dX3_step_177 : decode cX3_step 177 = .ok (.aload_n 1, 1) := by decide +kernel
theorem dX3_step_178 : decode cX3_step 178 = .ok (.getfield 64, 3) := by decide +kernel
theorem dX3_step_181 : decode cX3_step 181 = .ok (.aload_n 1, 1) := by decide +kernel
theorem dX3_step_182 : decode cX3_step 182 = .ok (.getfield 55, 3) := by decide +kernel
theorem dX3_step_185 : decode cX3_step 185 = .ok (.invokevirtual 122, 3) := by decide +kernel
theorem dX3_step_188 : decode cX3_step 188 = .ok (.ifCond .ne 7, 3) := by decide +kernel
theorem dX3_step_191 : decode cX3_step 191 = .ok (.iconst 1, 1) := by decide +kernel
theorem dX3_step_192 : decode cX3_step 192 = .ok (.goto 4, 3) := by decide +kernel
theorem dX3_step_195 : decode cX3_step 195 = .ok (.iconst 0, 1) := by decide +kernel
theorem dX3_step_196 : decode cX3_step 196 = .ok (.putfield 49, 3) := by decide +kernel
theorem dX3_step_199 : decode cX3_step 199 = .ok (.iconst 1, 1) := by decide +kernel
theorem dX3_step_200 : decode cX3_step 200 = .ok (.ireturn, 1) := by decide +kernel
set_option maxRecDepth 20000 in
theorem ggX3_sense_X7_look : GoodIn wsX3_sense wsX7_look := goodIn_r _ [16, 17, 18, 19, 20, 21, 22, 23, 24, 25, 26, 27, 28, 29, 30, 31, 32, 33, 34, 35, 36, 37, 38, 39, 40, 41, 42, 43, 91, 92, 93, 94, 95, 96, 97, 98, 99, 100, 101, 102, 103, 104] (by decide +kernel) (by decide +kernel)
set_option maxRecDepth 20000 in
theorem gX3_sense_X7_look : GoodIn wsX3_sense (wsV RX3 179 RX7 yX7_look wsX7_look) := goodIn_app (goodIn_of _ (by decide +kernel)) ggX3_sense_X7_look
set_option maxRecDepth 20000 in
theorem ggX3_sense_X7_weigh : GoodIn wsX3_sense wsX7_weigh := goodIn_r _ [47, 28, 48, 49, 50, 51, 52, 53, 54, 15, 55, 19, 56, 57, 17, 18, 21, 58, 59, 60, 61, 91, 92, 93, 94, 95, 96, 97, 98, 99, 100, 101, 102, 103, 104] (by decide +kernel) (by decide +kernel)
set_option maxRecDepth 20000 in
theorem gX3_sense_X7_weigh : GoodIn wsX3_sense (wsV RX3 194 RX7 yX7_weigh wsX7_weigh) := goodIn_app (goodIn_of _ (by decide +kernel)) ggX3_sense_X7_weigh
theorem dX3_sense_0 : decode cX3_sense 0 = .ok (.aload_n 0, 1) := by decide +kernel
theorem dX3_sense_1 : decode cX3_sense 1 = .ok (.getfield 9, 3) := by decide +kernel
theorem dX3_sense_4 : decode cX3_sense 4 = .ok (.getfield 21, 3) := by decide +kernel
theorem dX3_sense_7 : decode cX3_sense 7 = .ok (.astore_n 2, 1) := by decide +kernel
theorem dX3_sense_8 : decode cX3_sense 8 = .ok (.aload_n 1, 1) := by decide +kernel
theorem dX3_sense_9 : decode cX3_sense 9 = .ok (.getfield 55, 3) := by decide +kernel
theorem dX3_sense_12 : decode cX3_sense 12 = .ok (.bipush 16, 2) := by decide +kernel
theorem dX3_sense_14 : decode cX3_sense 14 = .ok (.imul, 1) := by decide +kernel
theorem dX3_sense_15 : decode cX3_sense 15 = .ok (.istore_n 3, 1) := by decide +kernel
theorem dX3_sense_16 : decode cX3_sense 16 = .ok (.aload_n 0, 1) := by decide +kernel
theorem dX3_sense_17 : decode cX3_sense 17 = .ok (.getfield 15, 3) := by decide +kernel
theorem dX3_sense_20 : decode cX3_sense 20 = .ok (.aload_n 1, 1) := by decide +kernel
theorem dX3_sense_21 : decode cX3_sense 21 = .ok (.getfield 61, 3) := by decide +kernel
theorem dX3_sense_24 : decode cX3_sense 24 = .ok (.aload_n 1, 1) := by decide +kernel
theorem dX3_sense_25 : decode cX3_sense 25 = .ok (.getfield 64, 3) := by decide +kernel
theorem dX3_sense_28 : decode cX3_sense 28 = .ok (.aload_n 1, 1) := by decide +kernel
theorem dX3_sense_29 : decode cX3_sense 29 = .ok (.getfield 55, 3) := by decide +kernel
theorem dX3_sense_32 : decode cX3_sense 32 = .ok (.invokevirtual 179, 3) := by decide +kernel
theorem dX3_sense_35 : decode cX3_sense 35 = .ok (.iconst 0, 1) := by decide +kernel
theorem dX3_sense_36 : decode cX3_sense 36 = .ok (.istore 4, 2) := by decide +kernel
theorem dX3_sense_38 : decode cX3_sense 38 = .ok (.iload 4, 2) := by decide +kernel
theorem dX3_sense_40 : decode cX3_sense 40 = .ok (.aload_n 2, 1) := by decide +kernel
theorem dX3_sense_41 : decode cX3_sense 41 = .ok (.getfield 70, 3) := by decide +kernel
theorem dX3_sense_44 : decode cX3_sense 44 = .ok (.if_icmp .ge 55, 3) := by decide +kernel
theorem dX3_sense_47 : decode cX3_sense 47 = .ok (.iload_n 3, 1) := by decide +kernel
theorem dX3_sense_48 : decode cX3_sense 48 = .ok (.iload 4, 2) := by decide +kernel
theorem dX3_sense_50 : decode cX3_sense 50 = .ok (.iadd, 1) := by decide +kernel
theorem dX3_sense_51 : decode cX3_sense 51 = .ok (.aload_n 1, 1) := by decide +kernel
theorem dX3_sense_52 : decode cX3_sense 52 = .ok (.getfield 185, 3) := by decide +kernel
theorem dX3_sense_55 : decode cX3_sense 55 = .ok (.arraylength, 1) := by decide +kernel
theorem dX3_sense_56 : decode cX3_sense 56 = .ok (.if_icmp .ge 43, 3) := by decide +kernel
theorem dX3_sense_59 : decode cX3_sense 59 = .ok (.aload_n 1, 1) := by decide +kernel
theorem dX3_sense_60 : decode cX3_sense 60 = .ok (.getfield 185, 3) := by decide +kernel
theorem dX3_sense_63 : decode cX3_sense 63 = .ok (.iload_n 3, 1) := by decide +kernel
theorem dX3_sense_64 : decode cX3_sense 64 = .ok (.iload 4, 2) := by decide +kernel
theorem dX3_sense_66 : decode cX3_sense 66 = .ok (.iadd, 1) := by decide +kernel
theorem dX3_sense_67 : decode cX3_sense 67 = .ok (.aload_n 0, 1) := by decide +kernel
theorem dX3_sense_68 : decode cX3_sense 68 = .ok (.getfield 15, 3) := by decide +kernel
theorem dX3_sense_71 : decode cX3_sense 71 = .ok (.aload_n 2, 1) := by decide +kernel
theorem dX3_sense_72 : decode cX3_sense 72 = .ok (.getfield 188, 3) := by decide +kernel
theorem dX3_sense_75 : decode cX3_sense 75 = .ok (.iload 4, 2) := by decide +kernel
theorem dX3_sense_77 : decode cX3_sense 77 = .ok (.iaload, 1) := by decide +kernel
theorem dX3_sense_78 : decode cX3_sense 78 = .ok (.aload_n 2, 1) := by decide +kernel
theorem dX3_sense_79 : decode cX3_sense 79 = .ok (.getfield 191, 3) := by decide +kernel
theorem dX3_sense_82 : decode cX3_sense 82 = .ok (.iload 4, 2) := by decide +kernel
theorem dX3_sense_84 : decode cX3_sense 84 = .ok (.iaload, 1) := by decide +kernel
theorem dX3_sense_85 : decode cX3_sense 85 = .ok (.aload_n 1, 1) := by decide +kernel
theorem dX3_sense_86 : decode cX3_sense 86 = .ok (.getfield 67, 3) := by decide +kernel
theorem dX3_sense_89 : decode cX3_sense 89 = .ok (.invokevirtual 194, 3) := by decide +kernel
theorem dX3_sense_92 : decode cX3_sense 92 = .ok (.iastore, 1) := by decide +kernel
theorem dX3_sense_93 : decode cX3_sense 93 = .ok (.iinc 4 1, 3) := by decide +kernel
theorem dX3_sense_96 : decode cX3_sense 96 = .ok (.goto (-58), 3) := by decide +kernel
theorem dX3_sense_99 : decode cX3_sense 99 = .ok (.return_, 1) := by decide +kernel
set_option maxRecDepth 20000 in
theorem ggX4_init_X9_init : GoodIn wsX4_init wsX9_init := goodIn_r _ [11, 12, 2, 3, 8, 13, 14, 15, 16, 17, 18, 19, 20, 21, 22, 23] (by decide +kernel) (by decide +kernel)
set_option maxRecDepth 20000 in
theorem gX4_init_X9_init_n11 : GoodIn wsX4_init (wsX9_init) := ggX4_init_X9_init
theorem dX4_init_0 : decode cX4_init 0 = .ok (.aload_n 0, 1) := by decide +kernel
theorem dX4_init_1 : decode cX4_init 1 = .ok (.invokespecial 3, 3) := by decide +kernel
theorem dX4_init_4 : decode cX4_init 4 = .ok (.aload_n 0, 1) := by decide +kernel
theorem dX4_init_5 : decode cX4_init 5 = .ok (.new 9, 3) := by decide +kernel
theorem dX4_init_8 : decode cX4_init 8 = .ok (.dup, 1) := by decide +kernel
theorem dX4_init_9 : decode cX4_init 9 = .ok (.invokespecial 11, 3) := by decide +kernel
theorem dX4_init_12 : decode cX4_init 12 = .ok (.putfield 12, 3) := by decide +kernel
theorem dX4_init_15 : decode cX4_init 15 = .ok (.aload_n 0, 1) := by decide +kernel
theorem dX4_init_16 : decode cX4_init 16 = .ok (.sipush 300, 3) := by decide +kernel
theorem dX4_init_19 : decode cX4_init 19 = .ok (.newarray .int, 2) := by decide +kernel
theorem dX4_init_21 : decode cX4_init 21 = .ok (.putfield 18, 3) := by decide +kernel
theorem dX4_init_24 : decode cX4_init 24 = .ok (.return_, 1) := by decide +kernel
set_option maxRecDepth 20000 in
theorem ggX4_parse_X9_split : GoodIn wsX4_parse wsX9_split := goodIn_r _ [13, 14, 15, 16, 17, 18, 19, 20, 12, 21, 22, 23, 24, 25, 26, 27, 28, 29, 30, 31, 32, 33, 34, 35, 36, 37, 38, 39, 40, 41, 42, 43, 44, 132, 133, 134, 135, 136, 137, 138, 139] (by decide +kernel) (by decide +kernel)
set_option maxRecDepth 20000 in
theorem gX4_parse_X9_split : GoodIn wsX4_parse (wsV RX4 22 RX9 yX9_split wsX9_split) := goodIn_app (goodIn_of _ (by decide +kernel)) ggX4_parse_X9_split
set_option maxRecDepth 20000 in
theorem ggX4_parse_X4_clause : GoodIn wsX4_parse wsX4_clause := goodIn_r _ [49, 1, 8, 5, 50, 51, 48, 52, 53, 54, 55, 56, 6, 57, 7, 58, 39, 40, 12, 41, 16, 15, 42, 17, 43, 18, 44, 14, 59, 60, 61, 62, 63, 4, 64, 65, 66, 67, 68, 69, 70, 71, 72, 73, 74, 75, 76, 77, 2, 78, 79, 3, 80, 81, 82, 83, 84, 85, 86, 87, 88, 89, 90, 91, 92, 93, 94, 95, 96, 97, 98, 99, 100, 101, 102, 103, 104, 105, 106, 107, 108, 109, 110, 111, 112, 113, 114, 115, 116, 117, 118, 119, 120, 121, 122, 123, 124, 125, 126, 127, 128, 129, 130, 131, 132, 133, 134, 135, 136, 137, 138, 139] (by decide +kernel) (by decide +kernel)
set_option maxRecDepth 20000 in
theorem gX4_parse_X4_clause : GoodIn wsX4_parse (wsV RX4 48 RX4 yX4_clause wsX4_clause) := goodIn_app (goodIn_of _ (by decide +kernel)) ggX4_parse_X4_clause
theorem dX4_parse_0 : decode cX4_parse 0 = .ok (.aload_n 0, 1) := by decide +kernel
theorem dX4_parse_1 : decode cX4_parse 1 = .ok (.getfield 12, 3) := by decide +kernel
theorem dX4_parse_4 : decode cX4_parse 4 = .ok (.aload_n 1, 1) := by decide +kernel
theorem dX4_parse_5 : decode cX4_parse 5 = .ok (.iload_n 2, 1) := by decide +kernel
theorem dX4_parse_6 : decode cX4_parse 6 = .ok (.invokevirtual 22, 3) := by decide +kernel
theorem dX4_parse_9 : decode cX4_parse 9 = .ok (.aload_n 0, 1) := by decide +kernel
theorem dX4_parse_10 : decode cX4_parse 10 = .ok (.iconst 0, 1) := by decide +kernel
theorem dX4_parse_11 : decode cX4_parse 11 = .ok (.putfield 26, 3) := by decide +kernel
theorem dX4_parse_14 : decode cX4_parse 14 = .ok (.aload_n 0, 1) := by decide +kernel
theorem dX4_parse_15 : decode cX4_parse 15 = .ok (.iconst 0, 1) := by decide +kernel
theorem dX4_parse_16 : decode cX4_parse 16 = .ok (.putfield 30, 3) := by decide +kernel
theorem dX4_parse_19 : decode cX4_parse 19 = .ok (.aload_n 0, 1) := by decide +kernel
theorem dX4_parse_20 : decode cX4_parse 20 = .ok (.iconst 0, 1) := by decide +kernel
theorem dX4_parse_21 : decode cX4_parse 21 = .ok (.putfield 33, 3) := by decide +kernel
theorem dX4_parse_24 : decode cX4_parse 24 = .ok (.aload_n 0, 1) := by decide +kernel
theorem dX4_parse_25 : decode cX4_parse 25 = .ok (.iconst 0, 1) := by decide +kernel
theorem dX4_parse_26 : decode cX4_parse 26 = .ok (.putfield 36, 3) := by decide +kernel
theorem dX4_parse_29 : decode cX4_parse 29 = .ok (.aload_n 0, 1) := by decide +kernel
theorem dX4_parse_30 : decode cX4_parse 30 = .ok (.iconst 0, 1) := by decide +kernel
theorem dX4_parse_31 : decode cX4_parse 31 = .ok (.putfield 39, 3) := by decide +kernel
theorem dX4_parse_34 : decode cX4_parse 34 = .ok (.aload_n 0, 1) := by decide +kernel
theorem dX4_parse_35 : decode cX4_parse 35 = .ok (.iconst (-1), 1) := by decide +kernel
theorem dX4_parse_36 : decode cX4_parse 36 = .ok (.putfield 42, 3) := by decide +kernel
theorem dX4_parse_39 : decode cX4_parse 39 = .ok (.iconst 0, 1) := by decide +kernel
theorem dX4_parse_40 : decode cX4_parse 40 = .ok (.istore_n 3, 1) := by decide +kernel
theorem dX4_parse_41 : decode cX4_parse 41 = .ok (.iload_n 3, 1) := by decide +kernel
theorem dX4_parse_42 : decode cX4_parse 42 = .ok (.bipush 10, 2) := by decide +kernel
theorem dX4_parse_44 : decode cX4_parse 44 = .ok (.if_icmp .gt 32, 3) := by decide +kernel
theorem dX4_parse_47 : decode cX4_parse 47 = .ok (.aload_n 0, 1) := by decide +kernel
theorem dX4_parse_48 : decode cX4_parse 48 = .ok (.getfield 39, 3) := by decide +kernel
theorem dX4_parse_51 : decode cX4_parse 51 = .ok (.ifCond .ne 25, 3) := by decide +kernel
theorem dX4_parse_54 : decode cX4_parse 54 = .ok (.aload_n 0, 1) := by decide +kernel
theorem dX4_parse_55 : decode cX4_parse 55 = .ok (.getfield 12, 3) := by decide +kernel
theorem dX4_parse_58 : decode cX4_parse 58 = .ok (.getfield 45, 3) := by decide +kernel
theorem dX4_parse_61 : decode cX4_parse 61 = .ok (.iconst (-1), 1) := by decide +kernel
theorem dX4_parse_62 : decode cX4_parse 62 = .ok (.if_icmp .eq 14, 3) := by decide +kernel
theorem dX4_parse_65 : decode cX4_parse 65 = .ok (.aload_n 0, 1) := by decide +kernel
theorem dX4_parse_66 : decode cX4_parse 66 = .ok (.iload_n 3, 1) := by decide +kernel
theorem dX4_parse_67 : decode cX4_parse 67 = .ok (.invokevirtual 48, 3) := by decide +kernel
theorem dX4_parse_70 : decode cX4_parse 70 = .ok (.iinc 3 1, 3) := by decide +kernel
theorem dX4_parse_73 : decode cX4_parse 73 = .ok (.goto (-32), 3) := by decide +kernel
theorem dX4_parse_76 : decode cX4_parse 76 = .ok (.return_, 1) := by decide +kernel
set_option maxRecDepth 20000 in
theorem ggX4_copyCode_J7_copyOf_59c91 : GoodIn wsX4_copyCode wsJ7_copyOf_59c91 := goodIn_r _ [6, 7, 8, 9, 10, 11, 12, 13, 14, 15, 16, 17, 18, 19, 20, 21] (by decide +kernel) (by decide +kernel)
set_option maxRecDepth 20000 in
theorem gX4_copyCode_J7_copyOf_59c91 : GoodIn wsX4_copyCode (va_wsS RX4 52 yJ7_copyOf_59c91 wsJ7_copyOf_59c91) := goodIn_app (goodIn_of _ (by decide +kernel)) ggX4_copyCode_J7_copyOf_59c91
theorem dX4_copyCode_0 : decode cX4_copyCode 0 = .ok (.aload_n 0, 1) := by decide +kernel
theorem dX4_copyCode_1 : decode cX4_copyCode 1 = .ok (.getfield 18, 3) := by decide +kernel
theorem dX4_copyCode_4 : decode cX4_copyCode 4 = .ok (.aload_n 0, 1) := by decide +kernel
theorem dX4_copyCode_5 : decode cX4_copyCode 5 = .ok (.getfield 26, 3) := by decide +kernel
theorem dX4_copyCode_8 : decode cX4_copyCode 8 = .ok (.invokestatic 52, 3) := by decide +kernel
theorem dX4_copyCode_11 : decode cX4_copyCode 11 = .ok (.areturn, 1) := by decide +kernel
set_option maxRecDepth 20000 in
theorem ggX4_clause_X4_clauseOperation : GoodIn wsX4_clause wsX4_clauseOperation := goodIn_r _ [7] (by decide +kernel) (by decide +kernel)
set_option maxRecDepth 20000 in
theorem gX4_clause_X4_clauseOperation : GoodIn wsX4_clause (va_wsS RX4 58 yX4_clauseOperation wsX4_clauseOperation) := goodIn_app (goodIn_of _ (by decide +kernel)) ggX4_clause_X4_clauseOperation
set_option maxRecDepth 20000 in
theorem ggX4_clause_X4_refuse : GoodIn wsX4_clause wsX4_refuse := goodIn_r _ [11, 12, 1, 13, 14, 96, 97, 98, 99, 100, 101, 102, 103, 104, 105, 106, 107, 108, 109, 110, 111] (by decide +kernel) (by decide +kernel)
set_option maxRecDepth 20000 in
theorem gX4_clause_X4_refuse : GoodIn wsX4_clause (wsV RX4 62 RX4 yX4_refuse wsX4_refuse) := goodIn_app (goodIn_of _ (by decide +kernel)) ggX4_clause_X4_refuse
set_option maxRecDepth 20000 in
theorem ggX4_clause_X9_advance : GoodIn wsX4_clause wsX9_advance := goodIn_r _ [19, 20, 21, 22, 23, 24, 25, 26, 27, 104, 105, 106, 107, 108, 109, 110, 111] (by decide +kernel) (by decide +kernel)
set_option maxRecDepth 20000 in
theorem gX4_clause_X9_advance : GoodIn wsX4_clause (wsV RX4 68 RX9 yX9_advance wsX9_advance) := goodIn_app (goodIn_of _ (by decide +kernel)) ggX4_clause_X9_advance
set_option maxRecDepth 20000 in
theorem ggX4_clause_X4_letClause : GoodIn wsX4_clause wsX4_letClause := goodIn_r _ [31, 1, 32, 2, 33, 8, 9, 10, 6, 11, 12, 13, 14, 15, 16, 17, 18, 19, 20, 21, 22, 23, 24, 25, 26, 27, 34, 35, 36, 37, 38, 39, 40, 41, 42, 43, 44, 45, 46, 47, 48, 49, 50, 51, 52, 53, 54, 55, 56, 57, 58, 59, 60, 61, 62, 63, 64, 65, 66, 67, 68, 69, 70, 71, 72, 73, 74, 75, 76, 77, 78, 79, 96, 97, 98, 99, 100, 101, 102, 103, 104, 105, 106, 107, 108, 109, 110, 111] (by decide +kernel) (by decide +kernel)
set_option maxRecDepth 20000 in
theorem gX4_clause_X4_letClause : GoodIn wsX4_clause (wsV RX4 71 RX4 yX4_letClause wsX4_letClause) := goodIn_app (goodIn_of _ (by decide +kernel)) ggX4_clause_X4_letClause
set_option maxRecDepth 20000 in
theorem ggX4_clause_X4_either : GoodIn wsX4_clause wsX4_either := goodIn_r _ [83, 1, 2, 84, 85, 86, 87, 6, 88, 89, 51, 52, 53, 54, 55, 8, 9, 10, 11, 12, 13, 14, 15, 16, 17, 18, 19, 20, 21, 22, 23, 24, 25, 26, 27, 34, 35, 36, 37, 38, 39, 40, 41, 42, 43, 44, 45, 46, 47, 48, 49, 50, 56, 57, 58, 59, 60, 61, 62, 63, 64, 65, 66, 32, 67, 68, 69, 70, 33, 71, 72, 73, 74, 75, 76, 77, 78, 79, 90, 91, 92, 93, 94, 95, 96, 97, 98, 99, 100, 101, 102, 103, 104, 105, 106, 107, 108, 109, 110, 111] (by decide +kernel) (by decide +kernel)
set_option maxRecDepth 20000 in
theorem gX4_clause_X4_either : GoodIn wsX4_clause (wsV RX4 74 RX4 yX4_either wsX4_either) := goodIn_app (goodIn_of _ (by decide +kernel)) ggX4_clause_X4_either
set_option maxRecDepth 20000 in
theorem ggX4_clause_X4_sum : GoodIn wsX4_clause wsX4_sum := goodIn_r _ [37, 1, 2, 38, 39, 40, 6, 41, 42, 43, 44, 45, 46, 47, 48, 49, 15, 16, 17, 18, 19, 20, 21, 22, 23, 24, 25, 26, 27, 50, 51, 52, 53, 54, 55, 8, 9, 10, 11, 12, 13, 14, 34, 35, 36, 56, 57, 58, 59, 60, 61, 62, 63, 64, 65, 66, 32, 67, 68, 69, 70, 33, 71, 72, 73, 74, 75, 76, 77, 78, 79, 96, 97, 98, 99, 100, 101, 102, 103, 104, 105, 106, 107, 108, 109, 110, 111] (by decide +kernel) (by decide +kernel)
set_option maxRecDepth 20000 in
theorem gX4_clause_X4_sum : GoodIn wsX4_clause (wsV RX4 78 RX4 yX4_sum wsX4_sum) := goodIn_app (goodIn_of _ (by decide +kernel)) ggX4_clause_X4_sum
set_option maxRecDepth 20000 in
theorem ggX4_clause_X4_expect : GoodIn wsX4_clause wsX4_expect := goodIn_r _ [59, 1, 2, 8, 9, 10, 6, 11, 12, 13, 14, 15, 16, 17, 18, 19, 20, 21, 22, 23, 24, 25, 26, 27, 96, 97, 98, 99, 100, 101, 102, 103, 104, 105, 106, 107, 108, 109, 110, 111] (by decide +kernel) (by decide +kernel)
set_option maxRecDepth 20000 in
theorem gX4_clause_X4_expect : GoodIn wsX4_clause (wsV RX4 81 RX4 yX4_expect wsX4_expect) := goodIn_app (goodIn_of _ (by decide +kernel)) ggX4_clause_X4_expect
set_option maxRecDepth 20000 in
theorem ggX4_clause_X4_emit : GoodIn wsX4_clause wsX4_emit := goodIn_r _ [47, 48, 49, 96, 97, 98, 99, 100, 101, 102, 103] (by decide +kernel) (by decide +kernel)
set_option maxRecDepth 20000 in
theorem gX4_clause_X4_emit : GoodIn wsX4_clause (wsV RX4 84 RX4 yX4_emit wsX4_emit) := goodIn_app (goodIn_of _ (by decide +kernel)) ggX4_clause_X4_emit
theorem dX4_clause_0 : decode cX4_clause 0 = .ok (.aload_n 0, 1) := by decide +kernel
theorem dX4_clause_1 : decode cX4_clause 1 = .ok (.getfield 12, 3) := by decide +kernel
theorem dX4_clause_4 : decode cX4_clause 4 = .ok (.getfield 45, 3) := by decide +kernel
theorem dX4_clause_7 : decode cX4_clause 7 = .ok (.invokestatic 58, 3) := by decide +kernel
theorem dX4_clause_10 : decode cX4_clause 10 = .ok (.istore_n 2, 1) := by decide +kernel
theorem dX4_clause_11 : decode cX4_clause 11 = .ok (.iload_n 2, 1) := by decide +kernel
theorem dX4_clause_12 : decode cX4_clause 12 = .ok (.iconst (-1), 1) := by decide +kernel
theorem dX4_clause_13 : decode cX4_clause 13 = .ok (.if_icmp .ne 12, 3) := by decide +kernel
theorem dX4_clause_16 : decode cX4_clause 16 = .ok (.aload_n 0, 1) := by decide +kernel
theorem dX4_clause_17 : decode cX4_clause 17 = .ok (.iconst 1, 1) := by decide +kernel
theorem dX4_clause_18 : decode cX4_clause 18 = .ok (.invokevirtual 62, 3) := by decide +kernel
theorem dX4_clause_21 : decode cX4_clause 21 = .ok (.pop, 1) := by decide +kernel
theorem dX4_clause_22 : decode cX4_clause 22 = .ok (.goto 121, 3) := by decide +kernel
theorem dX4_clause_25 : decode cX4_clause 25 = .ok (.iload_n 2, 1) := by decide +kernel
theorem dX4_clause_26 : decode cX4_clause 26 = .ok (.bipush 21, 2) := by decide +kernel
theorem dX4_clause_28 : decode cX4_clause 28 = .ok (.if_icmp .eq 23, 3) := by decide +kernel
theorem dX4_clause_31 : decode cX4_clause 31 = .ok (.aload_n 0, 1) := by decide +kernel
theorem dX4_clause_32 : decode cX4_clause 32 = .ok (.getfield 36, 3) := by decide +kernel
theorem dX4_clause_35 : decode cX4_clause 35 = .ok (.iload_n 2, 1) := by decide +kernel
theorem dX4_clause_36 : decode cX4_clause 36 = .ok (.ishr, 1) := by decide +kernel
theorem dX4_clause_37 : decode cX4_clause 37 = .ok (.iconst 1, 1) := by decide +kernel
theorem dX4_clause_38 : decode cX4_clause 38 = .ok (.iand, 1) := by decide +kernel
theorem dX4_clause_39 : decode cX4_clause 39 = .ok (.ifCond .eq 12, 3) := by decide +kernel
theorem dX4_clause_42 : decode cX4_clause 42 = .ok (.aload_n 0, 1) := by decide +kernel
theorem dX4_clause_43 : decode cX4_clause 43 = .ok (.iconst 4, 1) := by decide +kernel
theorem dX4_clause_44 : decode cX4_clause 44 = .ok (.invokevirtual 62, 3) := by decide +kernel
theorem dX4_clause_47 : decode cX4_clause 47 = .ok (.pop, 1) := by decide +kernel
theorem dX4_clause_48 : decode cX4_clause 48 = .ok (.goto 95, 3) := by decide +kernel
theorem dX4_clause_51 : decode cX4_clause 51 = .ok (.iload_n 1, 1) := by decide +kernel
theorem dX4_clause_52 : decode cX4_clause 52 = .ok (.bipush 10, 2) := by decide +kernel
theorem dX4_clause_54 : decode cX4_clause 54 = .ok (.if_icmp .lt 13, 3) := by decide +kernel
theorem dX4_clause_57 : decode cX4_clause 57 = .ok (.aload_n 0, 1) := by decide +kernel
theorem dX4_clause_58 : decode cX4_clause 58 = .ok (.bipush 6, 2) := by decide +kernel
theorem dX4_clause_60 : decode cX4_clause 60 = .ok (.invokevirtual 62, 3) := by decide +kernel
theorem dX4_clause_63 : decode cX4_clause 63 = .ok (.pop, 1) := by decide +kernel
theorem dX4_clause_64 : decode cX4_clause 64 = .ok (.goto 79, 3) := by decide +kernel
theorem dX4_clause_67 : decode cX4_clause 67 = .ok (.iload_n 2, 1) := by decide +kernel
theorem dX4_clause_68 : decode cX4_clause 68 = .ok (.bipush 21, 2) := by decide +kernel
theorem dX4_clause_70 : decode cX4_clause 70 = .ok (.if_icmp .ne 17, 3) := by decide +kernel
theorem dX4_clause_73 : decode cX4_clause 73 = .ok (.aload_n 0, 1) := by decide +kernel
theorem dX4_clause_74 : decode cX4_clause 74 = .ok (.getfield 12, 3) := by decide +kernel
theorem dX4_clause_77 : decode cX4_clause 77 = .ok (.invokevirtual 68, 3) := by decide +kernel
theorem dX4_clause_80 : decode cX4_clause 80 = .ok (.aload_n 0, 1) := by decide +kernel
theorem dX4_clause_81 : decode cX4_clause 81 = .ok (.invokevirtual 71, 3) := by decide +kernel
theorem dX4_clause_84 : decode cX4_clause 84 = .ok (.goto 59, 3) := by decide +kernel
theorem dX4_clause_87 : decode cX4_clause 87 = .ok (.aload_n 0, 1) := by decide +kernel
theorem dX4_clause_88 : decode cX4_clause 88 = .ok (.dup, 1) := by decide +kernel
theorem dX4_clause_89 : decode cX4_clause 89 = .ok (.getfield 36, 3) := by decide +kernel
theorem dX4_clause_92 : decode cX4_clause 92 = .ok (.iconst 1, 1) := by decide +kernel
theorem dX4_clause_93 : decode cX4_clause 93 = .ok (.iload_n 2, 1) := by decide +kernel
theorem dX4_clause_94 : decode cX4_clause 94 = .ok (.ishl, 1) := by decide +kernel
theorem dX4_clause_95 : decode cX4_clause 95 = .ok (.ior, 1) := by decide +kernel
theorem dX4_clause_96 : decode cX4_clause 96 = .ok (.putfield 36, 3) := by decide +kernel
theorem dX4_clause_99 : decode cX4_clause 99 = .ok (.aload_n 0, 1) := by decide +kernel
theorem dX4_clause_100 : decode cX4_clause 100 = .ok (.getfield 12, 3) := by decide +kernel
theorem dX4_clause_103 : decode cX4_clause 103 = .ok (.invokevirtual 68, 3) := by decide +kernel
theorem dX4_clause_106 : decode cX4_clause 106 = .ok (.iload_n 2, 1) := by decide +kernel
theorem dX4_clause_107 : decode cX4_clause 107 = .ok (.bipush 24, 2) := by decide +kernel
theorem dX4_clause_109 : decode cX4_clause 109 = .ok (.if_icmp .ne 10, 3) := by decide +kernel
theorem dX4_clause_112 : decode cX4_clause 112 = .ok (.aload_n 0, 1) := by decide +kernel
theorem dX4_clause_113 : decode cX4_clause 113 = .ok (.invokevirtual 74, 3) := by decide +kernel
theorem dX4_clause_116 : decode cX4_clause 116 = .ok (.goto 7, 3) := by decide +kernel
theorem dX4_clause_119 : decode cX4_clause 119 = .ok (.aload_n 0, 1) := by decide +kernel
theorem dX4_clause_120 : decode cX4_clause 120 = .ok (.invokevirtual 78, 3) := by decide +kernel
theorem dX4_clause_123 : decode cX4_clause 123 = .ok (.istore_n 3, 1) := by decide +kernel
theorem dX4_clause_124 : decode cX4_clause 124 = .ok (.iload_n 3, 1) := by decide +kernel
theorem dX4_clause_125 : decode cX4_clause 125 = .ok (.ifCond .eq 18, 3) := by decide +kernel
theorem dX4_clause_128 : decode cX4_clause 128 = .ok (.aload_n 0, 1) := by decide +kernel
theorem dX4_clause_129 : decode cX4_clause 129 = .ok (.bipush 59, 2) := by decide +kernel
theorem dX4_clause_131 : decode cX4_clause 131 = .ok (.invokevirtual 81, 3) := by decide +kernel
theorem dX4_clause_134 : decode cX4_clause 134 = .ok (.ifCond .eq 9, 3) := by decide +kernel
theorem dX4_clause_137 : decode cX4_clause 137 = .ok (.aload_n 0, 1) := by decide +kernel
theorem dX4_clause_138 : decode cX4_clause 138 = .ok (.iload_n 2, 1) := by decide +kernel
theorem dX4_clause_139 : decode cX4_clause 139 = .ok (.iconst 0, 1) := by decide +kernel
theorem dX4_clause_140 : decode cX4_clause 140 = .ok (.invokevirtual 84, 3) := by decide +kernel
theorem dX4_clause_143 : decode cX4_clause 143 = .ok (.return_, 1) := by decide +kernel
set_option maxRecDepth 20000 in
theorem ggX4_letClause_X4_refuse : GoodIn wsX4_letClause wsX4_refuse := goodIn_r _ [9, 10, 1, 11, 12, 72, 73, 74, 75, 76, 77, 78, 79, 80, 81, 82, 83, 84, 85, 86, 87] (by decide +kernel) (by decide +kernel)
set_option maxRecDepth 20000 in
theorem gX4_letClause_X4_refuse : GoodIn wsX4_letClause (wsV RX4 62 RX4 yX4_refuse wsX4_refuse) := goodIn_app (goodIn_of _ (by decide +kernel)) ggX4_letClause_X4_refuse
set_option maxRecDepth 20000 in
theorem ggX4_letClause_X9_advance : GoodIn wsX4_letClause wsX9_advance := goodIn_r _ [17, 18, 19, 20, 21, 22, 23, 24, 25, 80, 81, 82, 83, 84, 85, 86, 87] (by decide +kernel) (by decide +kernel)
set_option maxRecDepth 20000 in
theorem gX4_letClause_X9_advance : GoodIn wsX4_letClause (wsV RX4 68 RX9 yX9_advance wsX9_advance) := goodIn_app (goodIn_of _ (by decide +kernel)) ggX4_letClause_X9_advance
set_option maxRecDepth 20000 in
theorem ggX4_letClause_X4_sum : GoodIn wsX4_letClause wsX4_sum := goodIn_r _ [29, 1, 3, 30, 31, 32, 8, 33, 34, 35, 36, 37, 38, 39, 40, 41, 13, 14, 15, 16, 17, 18, 19, 20, 21, 22, 23, 24, 25, 42, 43, 44, 45, 46, 47, 5, 6, 7, 9, 10, 11, 12, 26, 27, 28, 48, 49, 50, 51, 52, 53, 54, 55, 56, 57, 58, 2, 59, 60, 61, 62, 4, 63, 64, 65, 66, 67, 68, 69, 70, 71, 72, 73, 74, 75, 76, 77, 78, 79, 80, 81, 82, 83, 84, 85, 86, 87] (by decide +kernel) (by decide +kernel)
set_option maxRecDepth 20000 in
theorem gX4_letClause_X4_sum : GoodIn wsX4_letClause (wsV RX4 78 RX4 yX4_sum wsX4_sum) := goodIn_app (goodIn_of _ (by decide +kernel)) ggX4_letClause_X4_sum
set_option maxRecDepth 20000 in
theorem ggX4_letClause_X4_expect : GoodIn wsX4_letClause wsX4_expect := goodIn_r _ [51, 1, 3, 5, 6, 7, 8, 9, 10, 11, 12, 13, 14, 15, 16, 17, 18, 19, 20, 21, 22, 23, 24, 25, 72, 73, 74, 75, 76, 77, 78, 79, 80, 81, 82, 83, 84, 85, 86, 87] (by decide +kernel) (by decide +kernel)
set_option maxRecDepth 20000 in
theorem gX4_letClause_X4_expect : GoodIn wsX4_letClause (wsV RX4 81 RX4 yX4_expect wsX4_expect) := goodIn_app (goodIn_of _ (by decide +kernel)) ggX4_letClause_X4_expect
set_option maxRecDepth 20000 in
theorem ggX4_letClause_X4_emit : GoodIn wsX4_letClause wsX4_emit := goodIn_r _ [39, 40, 41, 72, 73, 74, 75, 76, 77, 78, 79] (by decide +kernel) (by decide +kernel)
set_option maxRecDepth 20000 in
theorem gX4_letClause_X4_emit : GoodIn wsX4_letClause (wsV RX4 84 RX4 yX4_emit wsX4_emit) := goodIn_app (goodIn_of _ (by decide +kernel)) ggX4_letClause_X4_emit
theorem dX4_letClause_0 : decode cX4_letClause 0 = .ok (.aload_n 0, 1) := by decide +kernel
theorem dX4_letClause_1 : decode cX4_letClause 1 = .ok (.getfield 12, 3) := by decide +kernel
theorem dX4_letClause_4 : decode cX4_letClause 4 = .ok (.getfield 88, 3) := by decide +kernel
theorem dX4_letClause_7 : decode cX4_letClause 7 = .ok (.bipush 65, 2) := by decide +kernel
theorem dX4_letClause_9 : decode cX4_letClause 9 = .ok (.isub, 1) := by decide +kernel
theorem dX4_letClause_10 : decode cX4_letClause 10 = .ok (.istore_n 1, 1) := by decide +kernel
theorem dX4_letClause_11 : decode cX4_letClause 11 = .ok (.aload_n 0, 1) := by decide +kernel
theorem dX4_letClause_12 : decode cX4_letClause 12 = .ok (.getfield 12, 3) := by decide +kernel
theorem dX4_letClause_15 : decode cX4_letClause 15 = .ok (.getfield 45, 3) := by decide +kernel
theorem dX4_letClause_18 : decode cX4_letClause 18 = .ok (.bipush (-4), 2) := by decide +kernel
theorem dX4_letClause_20 : decode cX4_letClause 20 = .ok (.if_icmp .eq 12, 3) := by decide +kernel
theorem dX4_letClause_23 : decode cX4_letClause 23 = .ok (.aload_n 0, 1) := by decide +kernel
theorem dX4_letClause_24 : decode cX4_letClause 24 = .ok (.iconst 1, 1) := by decide +kernel
theorem dX4_letClause_25 : decode cX4_letClause 25 = .ok (.invokevirtual 62, 3) := by decide +kernel
theorem dX4_letClause_28 : decode cX4_letClause 28 = .ok (.pop, 1) := by decide +kernel
theorem dX4_letClause_29 : decode cX4_letClause 29 = .ok (.goto 65, 3) := by decide +kernel
theorem dX4_letClause_32 : decode cX4_letClause 32 = .ok (.aload_n 0, 1) := by decide +kernel
theorem dX4_letClause_33 : decode cX4_letClause 33 = .ok (.getfield 33, 3) := by decide +kernel
theorem dX4_letClause_36 : decode cX4_letClause 36 = .ok (.iload_n 1, 1) := by decide +kernel
theorem dX4_letClause_37 : decode cX4_letClause 37 = .ok (.ishr, 1) := by decide +kernel
theorem dX4_letClause_38 : decode cX4_letClause 38 = .ok (.iconst 1, 1) := by decide +kernel
theorem dX4_letClause_39 : decode cX4_letClause 39 = .ok (.iand, 1) := by decide +kernel
theorem dX4_letClause_40 : decode cX4_letClause 40 = .ok (.ifCond .eq 12, 3) := by decide +kernel
theorem dX4_letClause_43 : decode cX4_letClause 43 = .ok (.aload_n 0, 1) := by decide +kernel
theorem dX4_letClause_44 : decode cX4_letClause 44 = .ok (.iconst 4, 1) := by decide +kernel
theorem dX4_letClause_45 : decode cX4_letClause 45 = .ok (.invokevirtual 62, 3) := by decide +kernel
theorem dX4_letClause_48 : decode cX4_letClause 48 = .ok (.pop, 1) := by decide +kernel
theorem dX4_letClause_49 : decode cX4_letClause 49 = .ok (.goto 45, 3) := by decide +kernel
theorem dX4_letClause_52 : decode cX4_letClause 52 = .ok (.aload_n 0, 1) := by decide +kernel
theorem dX4_letClause_53 : decode cX4_letClause 53 = .ok (.getfield 12, 3) := by decide +kernel
theorem dX4_letClause_56 : decode cX4_letClause 56 = .ok (.invokevirtual 68, 3) := by decide +kernel
theorem dX4_letClause_59 : decode cX4_letClause 59 = .ok (.aload_n 0, 1) := by decide +kernel
theorem dX4_letClause_60 : decode cX4_letClause 60 = .ok (.invokevirtual 78, 3) := by decide +kernel
theorem dX4_letClause_63 : decode cX4_letClause 63 = .ok (.ifCond .eq 31, 3) := by decide +kernel
theorem dX4_letClause_66 : decode cX4_letClause 66 = .ok (.aload_n 0, 1) := by decide +kernel
theorem dX4_letClause_67 : decode cX4_letClause 67 = .ok (.bipush 59, 2) := by decide +kernel
theorem dX4_letClause_69 : decode cX4_letClause 69 = .ok (.invokevirtual 81, 3) := by decide +kernel
theorem dX4_letClause_72 : decode cX4_letClause 72 = .ok (.ifCond .eq 22, 3) := by decide +kernel
theorem dX4_letClause_75 : decode cX4_letClause 75 = .ok (.aload_n 0, 1) := by decide +kernel
theorem dX4_letClause_76 : decode cX4_letClause 76 = .ok (.bipush 21, 2) := by decide +kernel
theorem dX4_letClause_78 : decode cX4_letClause 78 = .ok (.iload_n 1, 1) := by decide +kernel
theorem dX4_letClause_79 : decode cX4_letClause 79 = .ok (.invokevirtual 84, 3) := by decide +kernel
theorem dX4_letClause_82 : decode cX4_letClause 82 = .ok (.aload_n 0, 1) := by decide +kernel
theorem dX4_letClause_83 : decode cX4_letClause 83 = .ok (.dup, 1) := by decide +kernel
theorem dX4_letClause_84 : decode cX4_letClause 84 = .ok (.getfield 33, 3) := by decide +kernel
theorem dX4_letClause_87 : decode cX4_letClause 87 = .ok (.iconst 1, 1) := by decide +kernel
theorem dX4_letClause_88 : decode cX4_letClause 88 = .ok (.iload_n 1, 1) := by decide +kernel
theorem dX4_letClause_89 : decode cX4_letClause 89 = .ok (.ishl, 1) := by decide +kernel
theorem dX4_letClause_90 : decode cX4_letClause 90 = .ok (.ior, 1) := by decide +kernel
theorem dX4_letClause_91 : decode cX4_letClause 91 = .ok (.putfield 33, 3) := by decide +kernel
theorem dX4_letClause_94 : decode cX4_letClause 94 = .ok (.return_, 1) := by decide +kernel
set_option maxRecDepth 20000 in
theorem ggX4_either_X4_ask : GoodIn wsX4_either wsX4_ask := goodIn_r _ [8, 1, 2, 9, 10, 11, 12, 13, 7, 14, 15, 16, 17, 18, 19, 20, 21, 22, 23, 24, 25, 26, 27, 28, 29, 30, 31, 32, 33, 34, 35, 36, 37, 38, 39, 40, 41, 42, 43, 44, 45, 46, 47, 48, 49, 50, 51, 52, 53, 54, 55, 56, 57, 58, 59, 60, 61, 62, 63, 64, 65, 66, 67, 68, 69, 70, 71, 72, 73, 74, 75, 76, 77, 78, 79, 80, 84, 85, 86, 87, 88, 89, 90, 91, 92, 93, 94, 95, 96, 97, 98, 99] (by decide +kernel) (by decide +kernel)
set_option maxRecDepth 20000 in
theorem gX4_either_X4_ask : GoodIn wsX4_either (wsV RX4 91 RX4 yX4_ask wsX4_ask) := goodIn_app (goodIn_of _ (by decide +kernel)) ggX4_either_X4_ask
set_option maxRecDepth 20000 in
theorem ggX4_either_X4_isAndOr : GoodIn wsX4_either wsX4_isAndOr := goodIn_r _ [83, 3] (by decide +kernel) (by decide +kernel)
set_option maxRecDepth 20000 in
theorem gX4_either_X4_isAndOr : GoodIn wsX4_either (va_wsS RX4 94 yX4_isAndOr wsX4_isAndOr) := goodIn_app (goodIn_of _ (by decide +kernel)) ggX4_either_X4_isAndOr
set_option maxRecDepth 20000 in
theorem ggX4_either_X4_emit : GoodIn wsX4_either wsX4_emit := goodIn_r _ [48, 49, 50, 84, 85, 86, 87, 88, 89, 90, 91] (by decide +kernel) (by decide +kernel)
set_option maxRecDepth 20000 in
theorem gX4_either_X4_emit : GoodIn wsX4_either (wsV RX4 84 RX4 yX4_emit wsX4_emit) := goodIn_app (goodIn_of _ (by decide +kernel)) ggX4_either_X4_emit
set_option maxRecDepth 20000 in
theorem ggX4_either_X9_advance : GoodIn wsX4_either wsX9_advance := goodIn_r _ [26, 27, 28, 29, 30, 31, 32, 33, 34, 92, 93, 94, 95, 96, 97, 98, 99] (by decide +kernel) (by decide +kernel)
set_option maxRecDepth 20000 in
theorem gX4_either_X9_advance : GoodIn wsX4_either (wsV RX4 68 RX9 yX9_advance wsX9_advance) := goodIn_app (goodIn_of _ (by decide +kernel)) ggX4_either_X9_advance
theorem dX4_either_0 : decode cX4_either 0 = .ok (.iconst 0, 1) := by decide +kernel
theorem dX4_either_1 : decode cX4_either 1 = .ok (.istore_n 1, 1) := by decide +kernel
theorem dX4_either_2 : decode cX4_either 2 = .ok (.aload_n 0, 1) := by decide +kernel
theorem dX4_either_3 : decode cX4_either 3 = .ok (.invokevirtual 91, 3) := by decide +kernel
theorem dX4_either_6 : decode cX4_either 6 = .ok (.istore_n 2, 1) := by decide +kernel
theorem dX4_either_7 : decode cX4_either 7 = .ok (.iconst 0, 1) := by decide +kernel
theorem dX4_either_8 : decode cX4_either 8 = .ok (.istore_n 3, 1) := by decide +kernel
theorem dX4_either_9 : decode cX4_either 9 = .ok (.iload_n 3, 1) := by decide +kernel
theorem dX4_either_10 : decode cX4_either 10 = .ok (.sipush 300, 3) := by decide +kernel
theorem dX4_either_13 : decode cX4_either 13 = .ok (.if_icmp .ge 90, 3) := by decide +kernel
theorem dX4_either_16 : decode cX4_either 16 = .ok (.iload_n 2, 1) := by decide +kernel
theorem dX4_either_17 : decode cX4_either 17 = .ok (.ifCond .eq 86, 3) := by decide +kernel
theorem dX4_either_20 : decode cX4_either 20 = .ok (.aload_n 0, 1) := by decide +kernel
theorem dX4_either_21 : decode cX4_either 21 = .ok (.getfield 12, 3) := by decide +kernel
theorem dX4_either_24 : decode cX4_either 24 = .ok (.getfield 45, 3) := by decide +kernel
theorem dX4_either_27 : decode cX4_either 27 = .ok (.invokestatic 94, 3) := by decide +kernel
theorem dX4_either_30 : decode cX4_either 30 = .ok (.ifCond .eq 73, 3) := by decide +kernel
theorem dX4_either_33 : decode cX4_either 33 = .ok (.aload_n 0, 1) := by decide +kernel
theorem dX4_either_34 : decode cX4_either 34 = .ok (.getfield 12, 3) := by decide +kernel
theorem dX4_either_37 : decode cX4_either 37 = .ok (.getfield 45, 3) := by decide +kernel
theorem dX4_either_40 : decode cX4_either 40 = .ok (.ldc 97, 2) := by decide +kernel
theorem dX4_either_42 : decode cX4_either 42 = .ok (.if_icmp .ne 7, 3) := by decide +kernel
theorem dX4_either_45 : decode cX4_either 45 = .ok (.iconst 1, 1) := by decide +kernel
theorem dX4_either_46 : decode cX4_either 46 = .ok (.goto 4, 3) := by decide +kernel
theorem dX4_either_49 : decode cX4_either 49 = .ok (.iconst 0, 1) := by decide +kernel
theorem dX4_either_50 : decode cX4_either 50 = .ok (.istore 4, 2) := by decide +kernel
theorem dX4_either_52 : decode cX4_either 52 = .ok (.iload 4, 2) := by decide +kernel
theorem dX4_either_54 : decode cX4_either 54 = .ok (.ifCond .ne 14, 3) := by decide +kernel
theorem dX4_either_57 : decode cX4_either 57 = .ok (.iload_n 1, 1) := by decide +kernel
theorem dX4_either_58 : decode cX4_either 58 = .ok (.ifCond .eq 10, 3) := by decide +kernel
theorem dX4_either_61 : decode cX4_either 61 = .ok (.aload_n 0, 1) := by decide +kernel
theorem dX4_either_62 : decode cX4_either 62 = .ok (.bipush 20, 2) := by decide +kernel
theorem dX4_either_64 : decode cX4_either 64 = .ok (.iconst 0, 1) := by decide +kernel
theorem dX4_either_65 : decode cX4_either 65 = .ok (.invokevirtual 84, 3) := by decide +kernel
theorem dX4_either_68 : decode cX4_either 68 = .ok (.aload_n 0, 1) := by decide +kernel
theorem dX4_either_69 : decode cX4_either 69 = .ok (.getfield 12, 3) := by decide +kernel
theorem dX4_either_72 : decode cX4_either 72 = .ok (.invokevirtual 68, 3) := by decide +kernel
theorem dX4_either_75 : decode cX4_either 75 = .ok (.aload_n 0, 1) := by decide +kernel
theorem dX4_either_76 : decode cX4_either 76 = .ok (.invokevirtual 91, 3) := by decide +kernel
theorem dX4_either_79 : decode cX4_either 79 = .ok (.istore_n 2, 1) := by decide +kernel
theorem dX4_either_80 : decode cX4_either 80 = .ok (.iload 4, 2) := by decide +kernel
theorem dX4_either_82 : decode cX4_either 82 = .ok (.ifCond .eq 13, 3) := by decide +kernel
theorem dX4_either_85 : decode cX4_either 85 = .ok (.aload_n 0, 1) := by decide +kernel
theorem dX4_either_86 : decode cX4_either 86 = .ok (.bipush 19, 2) := by decide +kernel
theorem dX4_either_88 : decode cX4_either 88 = .ok (.iconst 0, 1) := by decide +kernel
theorem dX4_either_89 : decode cX4_either 89 = .ok (.invokevirtual 84, 3) := by decide +kernel
theorem dX4_either_92 : decode cX4_either 92 = .ok (.goto 5, 3) := by decide +kernel
theorem dX4_either_95 : decode cX4_either 95 = .ok (.iconst 1, 1) := by decide +kernel
theorem dX4_either_96 : decode cX4_either 96 = .ok (.istore_n 1, 1) := by decide +kernel
theorem dX4_either_97 : decode cX4_either 97 = .ok (.iinc 3 1, 3) := by decide +kernel
theorem dX4_either_100 : decode cX4_either 100 = .ok (.goto (-91), 3) := by decide +kernel
theorem dX4_either_103 : decode cX4_either 103 = .ok (.iload_n 1, 1) := by decide +kernel
theorem dX4_either_104 : decode cX4_either 104 = .ok (.ifCond .eq 10, 3) := by decide +kernel
theorem dX4_either_107 : decode cX4_either 107 = .ok (.aload_n 0, 1) := by decide +kernel
theorem dX4_either_108 : decode cX4_either 108 = .ok (.bipush 20, 2) := by decide +kernel
theorem dX4_either_110 : decode cX4_either 110 = .ok (.iconst 0, 1) := by decide +kernel
theorem dX4_either_111 : decode cX4_either 111 = .ok (.invokevirtual 84, 3) := by decide +kernel
theorem dX4_either_114 : decode cX4_either 114 = .ok (.iload_n 2, 1) := by decide +kernel
theorem dX4_either_115 : decode cX4_either 115 = .ok (.ireturn, 1) := by decide +kernel
set_option maxRecDepth 20000 in
theorem ggX4_ask_X4_enter : GoodIn wsX4_ask wsX4_enter := goodIn_r _ [9, 4, 1, 10, 11, 12, 8, 13, 14, 15, 16, 17, 18, 19, 20, 21, 22, 23, 24, 25, 26, 27, 28, 29, 76, 77, 78, 79, 80, 81, 82, 83, 84, 85, 86, 87, 88, 89, 90, 91] (by decide +kernel) (by decide +kernel)
set_option maxRecDepth 20000 in
theorem gX4_ask_X4_enter : GoodIn wsX4_ask (wsV RX4 99 RX4 yX4_enter wsX4_enter) := goodIn_app (goodIn_of _ (by decide +kernel)) ggX4_ask_X4_enter
set_option maxRecDepth 20000 in
theorem ggX4_ask_X4_sum : GoodIn wsX4_ask wsX4_sum := goodIn_r _ [33, 1, 2, 34, 35, 36, 8, 37, 38, 39, 40, 41, 42, 43, 44, 45, 17, 18, 19, 20, 21, 22, 23, 24, 25, 26, 27, 28, 29, 46, 4, 5, 6, 7, 9, 10, 11, 12, 13, 14, 15, 16, 30, 31, 32, 47, 48, 49, 50, 51, 52, 53, 54, 55, 56, 57, 58, 59, 60, 61, 62, 63, 64, 65, 66, 67, 68, 69, 70, 71, 72, 76, 77, 78, 79, 80, 81, 82, 83, 84, 85, 86, 87, 88, 89, 90, 91] (by decide +kernel) (by decide +kernel)
set_option maxRecDepth 20000 in
theorem gX4_ask_X4_sum : GoodIn wsX4_ask (wsV RX4 78 RX4 yX4_sum wsX4_sum) := goodIn_app (goodIn_of _ (by decide +kernel)) ggX4_ask_X4_sum
set_option maxRecDepth 20000 in
theorem ggX4_ask_X4_compareOperation : GoodIn wsX4_ask wsX4_compareOperation := goodIn_r _ [75] (by decide +kernel) (by decide +kernel)
set_option maxRecDepth 20000 in
theorem gX4_ask_X4_compareOperation : GoodIn wsX4_ask (va_wsS RX4 102 yX4_compareOperation wsX4_compareOperation) := goodIn_app (goodIn_of _ (by decide +kernel)) ggX4_ask_X4_compareOperation
set_option maxRecDepth 20000 in
theorem ggX4_ask_X4_refuse : GoodIn wsX4_ask wsX4_refuse := goodIn_r _ [13, 14, 1, 15, 16, 76, 77, 78, 79, 80, 81, 82, 83, 84, 85, 86, 87, 88, 89, 90, 91] (by decide +kernel) (by decide +kernel)
set_option maxRecDepth 20000 in
theorem gX4_ask_X4_refuse : GoodIn wsX4_ask (wsV RX4 62 RX4 yX4_refuse wsX4_refuse) := goodIn_app (goodIn_of _ (by decide +kernel)) ggX4_ask_X4_refuse
set_option maxRecDepth 20000 in
theorem ggX4_ask_X9_advance : GoodIn wsX4_ask wsX9_advance := goodIn_r _ [21, 22, 23, 24, 25, 26, 27, 28, 29, 84, 85, 86, 87, 88, 89, 90, 91] (by decide +kernel) (by decide +kernel)
set_option maxRecDepth 20000 in
theorem gX4_ask_X9_advance : GoodIn wsX4_ask (wsV RX4 68 RX9 yX9_advance wsX9_advance) := goodIn_app (goodIn_of _ (by decide +kernel)) ggX4_ask_X9_advance
set_option maxRecDepth 20000 in
theorem ggX4_ask_X4_emit : GoodIn wsX4_ask wsX4_emit := goodIn_r _ [43, 44, 45, 76, 77, 78, 79, 80, 81, 82, 83] (by decide +kernel) (by decide +kernel)
set_option maxRecDepth 20000 in
theorem gX4_ask_X4_emit : GoodIn wsX4_ask (wsV RX4 84 RX4 yX4_emit wsX4_emit) := goodIn_app (goodIn_of _ (by decide +kernel)) ggX4_ask_X4_emit
theorem dX4_ask_0 : decode cX4_ask 0 = .ok (.iconst 0, 1) := by decide +kernel
theorem dX4_ask_1 : decode cX4_ask 1 = .ok (.istore_n 1, 1) := by decide +kernel
theorem dX4_ask_2 : decode cX4_ask 2 = .ok (.iload_n 1, 1) := by decide +kernel
theorem dX4_ask_3 : decode cX4_ask 3 = .ok (.bipush 8, 2) := by decide +kernel
theorem dX4_ask_5 : decode cX4_ask 5 = .ok (.if_icmp .gt 30, 3) := by decide +kernel
theorem dX4_ask_8 : decode cX4_ask 8 = .ok (.aload_n 0, 1) := by decide +kernel
theorem dX4_ask_9 : decode cX4_ask 9 = .ok (.getfield 12, 3) := by decide +kernel
theorem dX4_ask_12 : decode cX4_ask 12 = .ok (.getfield 45, 3) := by decide +kernel
theorem dX4_ask_15 : decode cX4_ask 15 = .ok (.ldc 98, 2) := by decide +kernel
theorem dX4_ask_17 : decode cX4_ask 17 = .ok (.if_icmp .ne 18, 3) := by decide +kernel
theorem dX4_ask_20 : decode cX4_ask 20 = .ok (.aload_n 0, 1) := by decide +kernel
theorem dX4_ask_21 : decode cX4_ask 21 = .ok (.invokevirtual 99, 3) := by decide +kernel
theorem dX4_ask_24 : decode cX4_ask 24 = .ok (.ifCond .ne 5, 3) := by decide +kernel
theorem dX4_ask_27 : decode cX4_ask 27 = .ok (.iconst 0, 1) := by decide +kernel
theorem dX4_ask_28 : decode cX4_ask 28 = .ok (.ireturn, 1) := by decide +kernel
theorem dX4_ask_29 : decode cX4_ask 29 = .ok (.iinc 1 1, 3) := by decide +kernel
theorem dX4_ask_32 : decode cX4_ask 32 = .ok (.goto (-30), 3) := by decide +kernel
theorem dX4_ask_35 : decode cX4_ask 35 = .ok (.aload_n 0, 1) := by decide +kernel
theorem dX4_ask_36 : decode cX4_ask 36 = .ok (.invokevirtual 78, 3) := by decide +kernel
theorem dX4_ask_39 : decode cX4_ask 39 = .ok (.ifCond .ne 5, 3) := by decide +kernel
theorem dX4_ask_42 : decode cX4_ask 42 = .ok (.iconst 0, 1) := by decide +kernel
theorem dX4_ask_43 : decode cX4_ask 43 = .ok (.ireturn, 1) := by decide +kernel
theorem dX4_ask_44 : decode cX4_ask 44 = .ok (.aload_n 0, 1) := by decide +kernel
theorem dX4_ask_45 : decode cX4_ask 45 = .ok (.getfield 12, 3) := by decide +kernel
theorem dX4_ask_48 : decode cX4_ask 48 = .ok (.getfield 45, 3) := by decide +kernel
theorem dX4_ask_51 : decode cX4_ask 51 = .ok (.invokestatic 102, 3) := by decide +kernel
theorem dX4_ask_54 : decode cX4_ask 54 = .ok (.istore_n 2, 1) := by decide +kernel
theorem dX4_ask_55 : decode cX4_ask 55 = .ok (.iload_n 2, 1) := by decide +kernel
theorem dX4_ask_56 : decode cX4_ask 56 = .ok (.iconst (-1), 1) := by decide +kernel
theorem dX4_ask_57 : decode cX4_ask 57 = .ok (.if_icmp .ne 9, 3) := by decide +kernel
theorem dX4_ask_60 : decode cX4_ask 60 = .ok (.aload_n 0, 1) := by decide +kernel
theorem dX4_ask_61 : decode cX4_ask 61 = .ok (.iconst 1, 1) := by decide +kernel
theorem dX4_ask_62 : decode cX4_ask 62 = .ok (.invokevirtual 62, 3) := by decide +kernel
theorem dX4_ask_65 : decode cX4_ask 65 = .ok (.ireturn, 1) := by decide +kernel
theorem dX4_ask_66 : decode cX4_ask 66 = .ok (.aload_n 0, 1) := by decide +kernel
theorem dX4_ask_67 : decode cX4_ask 67 = .ok (.getfield 12, 3) := by decide +kernel
theorem dX4_ask_70 : decode cX4_ask 70 = .ok (.invokevirtual 68, 3) := by decide +kernel
theorem dX4_ask_73 : decode cX4_ask 73 = .ok (.aload_n 0, 1) := by decide +kernel
theorem dX4_ask_74 : decode cX4_ask 74 = .ok (.invokevirtual 78, 3) := by decide +kernel
theorem dX4_ask_77 : decode cX4_ask 77 = .ok (.ifCond .ne 5, 3) := by decide +kernel
theorem dX4_ask_80 : decode cX4_ask 80 = .ok (.iconst 0, 1) := by decide +kernel
theorem dX4_ask_81 : decode cX4_ask 81 = .ok (.ireturn, 1) := by decide +kernel
theorem dX4_ask_82 : decode cX4_ask 82 = .ok (.aload_n 0, 1) := by decide +kernel
theorem dX4_ask_83 : decode cX4_ask 83 = .ok (.iload_n 2, 1) := by decide +kernel
theorem dX4_ask_84 : decode cX4_ask 84 = .ok (.iconst 0, 1) := by decide +kernel
theorem dX4_ask_85 : decode cX4_ask 85 = .ok (.invokevirtual 84, 3) := by decide +kernel
theorem dX4_ask_88 : decode cX4_ask 88 = .ok (.iconst 0, 1) := by decide +kernel
theorem dX4_ask_89 : decode cX4_ask 89 = .ok (.istore_n 3, 1) := by decide +kernel
theorem dX4_ask_90 : decode cX4_ask 90 = .ok (.iload_n 3, 1) := by decide +kernel
theorem dX4_ask_91 : decode cX4_ask 91 = .ok (.iload_n 1, 1) := by decide +kernel
theorem dX4_ask_92 : decode cX4_ask 92 = .ok (.if_icmp .ge 16, 3) := by decide +kernel
theorem dX4_ask_95 : decode cX4_ask 95 = .ok (.aload_n 0, 1) := by decide +kernel
theorem dX4_ask_96 : decode cX4_ask 96 = .ok (.bipush 6, 2) := by decide +kernel
theorem dX4_ask_98 : decode cX4_ask 98 = .ok (.iconst 0, 1) := by decide +kernel
theorem dX4_ask_99 : decode cX4_ask 99 = .ok (.invokevirtual 84, 3) := by decide +kernel
theorem dX4_ask_102 : decode cX4_ask 102 = .ok (.iinc 3 1, 3) := by decide +kernel
theorem dX4_ask_105 : decode cX4_ask 105 = .ok (.goto (-15), 3) := by decide +kernel
theorem dX4_ask_108 : decode cX4_ask 108 = .ok (.aload_n 0, 1) := by decide +kernel
theorem dX4_ask_109 : decode cX4_ask 109 = .ok (.dup, 1) := by decide +kernel
theorem dX4_ask_110 : decode cX4_ask 110 = .ok (.getfield 30, 3) := by decide +kernel
theorem dX4_ask_113 : decode cX4_ask 113 = .ok (.iload_n 1, 1) := by decide +kernel
theorem dX4_ask_114 : decode cX4_ask 114 = .ok (.isub, 1) := by decide +kernel
theorem dX4_ask_115 : decode cX4_ask 115 = .ok (.putfield 30, 3) := by decide +kernel
theorem dX4_ask_118 : decode cX4_ask 118 = .ok (.iconst 1, 1) := by decide +kernel
theorem dX4_ask_119 : decode cX4_ask 119 = .ok (.ireturn, 1) := by decide +kernel
set_option maxRecDepth 20000 in
theorem ggX4_sum_X4_one : GoodIn wsX4_sum wsX4_one := goodIn_r _ [51, 1, 2, 52, 53, 54, 6, 55, 56, 35, 36, 37, 38, 39, 40, 41, 10, 11, 12, 13, 14, 15, 16, 17, 18, 19, 20, 21, 22, 23, 24, 25, 26, 27, 28, 57, 58, 59, 60, 61, 62, 63, 64, 65, 66, 67, 68, 69, 70, 29, 30, 31, 32, 33, 34, 42, 43, 44, 45, 46, 47, 48, 49, 50, 3, 4, 5, 0, 7, 8, 9, 71, 72, 73, 74, 75, 76, 77, 78, 79, 80, 81, 82, 83, 84, 85, 86] (by decide +kernel) (by decide +kernel)
set_option maxRecDepth 20000 in
theorem gX4_sum_X4_one : GoodIn wsX4_sum (wsV RX4 105 RX4 yX4_one wsX4_one) := goodIn_app (goodIn_of _ (by decide +kernel)) ggX4_sum_X4_one
set_option maxRecDepth 20000 in
theorem ggX4_sum_X4_joinOperation : GoodIn wsX4_sum wsX4_joinOperation := goodIn_r _ [9] (by decide +kernel) (by decide +kernel)
set_option maxRecDepth 20000 in
theorem gX4_sum_X4_joinOperation : GoodIn wsX4_sum (va_wsS RX4 108 yX4_joinOperation wsX4_joinOperation) := goodIn_app (goodIn_of _ (by decide +kernel)) ggX4_sum_X4_joinOperation
set_option maxRecDepth 20000 in
theorem ggX4_sum_X4_emit : GoodIn wsX4_sum wsX4_emit := goodIn_r _ [13, 14, 15, 71, 72, 73, 74, 75, 76, 77, 78] (by decide +kernel) (by decide +kernel)
set_option maxRecDepth 20000 in
theorem gX4_sum_X4_emit : GoodIn wsX4_sum (wsV RX4 84 RX4 yX4_emit wsX4_emit) := goodIn_app (goodIn_of _ (by decide +kernel)) ggX4_sum_X4_emit
set_option maxRecDepth 20000 in
theorem ggX4_sum_X9_advance : GoodIn wsX4_sum wsX9_advance := goodIn_r _ [20, 21, 22, 23, 24, 25, 26, 27, 28, 79, 80, 81, 82, 83, 84, 85, 86] (by decide +kernel) (by decide +kernel)
set_option maxRecDepth 20000 in
theorem gX4_sum_X9_advance : GoodIn wsX4_sum (wsV RX4 68 RX9 yX9_advance wsX9_advance) := goodIn_app (goodIn_of _ (by decide +kernel)) ggX4_sum_X9_advance
theorem dX4_sum_0 : decode cX4_sum 0 = .ok (.iconst (-1), 1) := by decide +kernel
theorem dX4_sum_1 : decode cX4_sum 1 = .ok (.istore_n 1, 1) := by decide +kernel
theorem dX4_sum_2 : decode cX4_sum 2 = .ok (.aload_n 0, 1) := by decide +kernel
theorem dX4_sum_3 : decode cX4_sum 3 = .ok (.invokevirtual 105, 3) := by decide +kernel
theorem dX4_sum_6 : decode cX4_sum 6 = .ok (.istore_n 2, 1) := by decide +kernel
theorem dX4_sum_7 : decode cX4_sum 7 = .ok (.iconst 0, 1) := by decide +kernel
theorem dX4_sum_8 : decode cX4_sum 8 = .ok (.istore_n 3, 1) := by decide +kernel
theorem dX4_sum_9 : decode cX4_sum 9 = .ok (.iload_n 3, 1) := by decide +kernel
theorem dX4_sum_10 : decode cX4_sum 10 = .ok (.sipush 300, 3) := by decide +kernel
theorem dX4_sum_13 : decode cX4_sum 13 = .ok (.if_icmp .ge 101, 3) := by decide +kernel
theorem dX4_sum_16 : decode cX4_sum 16 = .ok (.iload_n 2, 1) := by decide +kernel
theorem dX4_sum_17 : decode cX4_sum 17 = .ok (.ifCond .eq 97, 3) := by decide +kernel
theorem dX4_sum_20 : decode cX4_sum 20 = .ok (.aload_n 0, 1) := by decide +kernel
theorem dX4_sum_21 : decode cX4_sum 21 = .ok (.getfield 12, 3) := by decide +kernel
theorem dX4_sum_24 : decode cX4_sum 24 = .ok (.getfield 45, 3) := by decide +kernel
theorem dX4_sum_27 : decode cX4_sum 27 = .ok (.invokestatic 108, 3) := by decide +kernel
theorem dX4_sum_30 : decode cX4_sum 30 = .ok (.istore 4, 2) := by decide +kernel
theorem dX4_sum_32 : decode cX4_sum 32 = .ok (.iload 4, 2) := by decide +kernel
theorem dX4_sum_34 : decode cX4_sum 34 = .ok (.iconst (-1), 1) := by decide +kernel
theorem dX4_sum_35 : decode cX4_sum 35 = .ok (.if_icmp .ne 6, 3) := by decide +kernel
theorem dX4_sum_38 : decode cX4_sum 38 = .ok (.goto 76, 3) := by decide +kernel
theorem dX4_sum_41 : decode cX4_sum 41 = .ok (.iload 4, 2) := by decide +kernel
theorem dX4_sum_43 : decode cX4_sum 43 = .ok (.bipush 9, 2) := by decide +kernel
theorem dX4_sum_45 : decode cX4_sum 45 = .ok (.if_icmp .eq 10, 3) := by decide +kernel
theorem dX4_sum_48 : decode cX4_sum 48 = .ok (.iload 4, 2) := by decide +kernel
theorem dX4_sum_50 : decode cX4_sum 50 = .ok (.bipush 10, 2) := by decide +kernel
theorem dX4_sum_52 : decode cX4_sum 52 = .ok (.if_icmp .ne 7, 3) := by decide +kernel
theorem dX4_sum_55 : decode cX4_sum 55 = .ok (.iconst 1, 1) := by decide +kernel
theorem dX4_sum_56 : decode cX4_sum 56 = .ok (.goto 4, 3) := by decide +kernel
theorem dX4_sum_59 : decode cX4_sum 59 = .ok (.iconst 0, 1) := by decide +kernel
theorem dX4_sum_60 : decode cX4_sum 60 = .ok (.istore 5, 2) := by decide +kernel
theorem dX4_sum_62 : decode cX4_sum 62 = .ok (.iload 5, 2) := by decide +kernel
theorem dX4_sum_64 : decode cX4_sum 64 = .ok (.ifCond .ne 14, 3) := by decide +kernel
theorem dX4_sum_67 : decode cX4_sum 67 = .ok (.iload_n 1, 1) := by decide +kernel
theorem dX4_sum_68 : decode cX4_sum 68 = .ok (.iconst (-1), 1) := by decide +kernel
theorem dX4_sum_69 : decode cX4_sum 69 = .ok (.if_icmp .eq 9, 3) := by decide +kernel
theorem dX4_sum_72 : decode cX4_sum 72 = .ok (.aload_n 0, 1) := by decide +kernel
theorem dX4_sum_73 : decode cX4_sum 73 = .ok (.iload_n 1, 1) := by decide +kernel
theorem dX4_sum_74 : decode cX4_sum 74 = .ok (.iconst 0, 1) := by decide +kernel
theorem dX4_sum_75 : decode cX4_sum 75 = .ok (.invokevirtual 84, 3) := by decide +kernel
theorem dX4_sum_78 : decode cX4_sum 78 = .ok (.aload_n 0, 1) := by decide +kernel
theorem dX4_sum_79 : decode cX4_sum 79 = .ok (.getfield 12, 3) := by decide +kernel
theorem dX4_sum_82 : decode cX4_sum 82 = .ok (.invokevirtual 68, 3) := by decide +kernel
theorem dX4_sum_85 : decode cX4_sum 85 = .ok (.aload_n 0, 1) := by decide +kernel
theorem dX4_sum_86 : decode cX4_sum 86 = .ok (.invokevirtual 105, 3) := by decide +kernel
theorem dX4_sum_89 : decode cX4_sum 89 = .ok (.istore_n 2, 1) := by decide +kernel
theorem dX4_sum_90 : decode cX4_sum 90 = .ok (.iload 5, 2) := by decide +kernel
theorem dX4_sum_92 : decode cX4_sum 92 = .ok (.ifCond .eq 13, 3) := by decide +kernel
theorem dX4_sum_95 : decode cX4_sum 95 = .ok (.aload_n 0, 1) := by decide +kernel
theorem dX4_sum_96 : decode cX4_sum 96 = .ok (.iload 4, 2) := by decide +kernel
theorem dX4_sum_98 : decode cX4_sum 98 = .ok (.iconst 0, 1) := by decide +kernel
theorem dX4_sum_99 : decode cX4_sum 99 = .ok (.invokevirtual 84, 3) := by decide +kernel
theorem dX4_sum_102 : decode cX4_sum 102 = .ok (.goto 6, 3) := by decide +kernel
theorem dX4_sum_105 : decode cX4_sum 105 = .ok (.iload 4, 2) := by decide +kernel
theorem dX4_sum_107 : decode cX4_sum 107 = .ok (.istore_n 1, 1) := by decide +kernel
theorem dX4_sum_108 : decode cX4_sum 108 = .ok (.iinc 3 1, 3) := by decide +kernel
theorem dX4_sum_111 : decode cX4_sum 111 = .ok (.goto (-102), 3) := by decide +kernel
theorem dX4_sum_114 : decode cX4_sum 114 = .ok (.iload_n 1, 1) := by decide +kernel
theorem dX4_sum_115 : decode cX4_sum 115 = .ok (.iconst (-1), 1) := by decide +kernel
theorem dX4_sum_116 : decode cX4_sum 116 = .ok (.if_icmp .eq 9, 3) := by decide +kernel
theorem dX4_sum_119 : decode cX4_sum 119 = .ok (.aload_n 0, 1) := by decide +kernel
theorem dX4_sum_120 : decode cX4_sum 120 = .ok (.iload_n 1, 1) := by decide +kernel
theorem dX4_sum_121 : decode cX4_sum 121 = .ok (.iconst 0, 1) := by decide +kernel
theorem dX4_sum_122 : decode cX4_sum 122 = .ok (.invokevirtual 84, 3) := by decide +kernel
theorem dX4_sum_125 : decode cX4_sum 125 = .ok (.iload_n 2, 1) := by decide +kernel
theorem dX4_sum_126 : decode cX4_sum 126 = .ok (.ireturn, 1) := by decide +kernel
set_option maxRecDepth 20000 in
theorem ggX4_one_X4_number : GoodIn wsX4_one wsX4_number := goodIn_r _ [7, 1, 2, 8, 9, 10, 11, 6, 12, 13, 14, 15, 16, 17, 18, 19, 20, 21, 22, 23, 24, 25, 26, 27, 28, 29, 30, 31, 32, 33, 34, 71, 72, 73, 74, 75, 76, 77, 78, 79, 80, 81, 82, 83, 84, 85, 86] (by decide +kernel) (by decide +kernel)
set_option maxRecDepth 20000 in
theorem gX4_one_X4_number : GoodIn wsX4_one (wsV RX4 111 RX4 yX4_number wsX4_number) := goodIn_app (goodIn_of _ (by decide +kernel)) ggX4_one_X4_number
set_option maxRecDepth 20000 in
theorem ggX4_one_X4_toldLetter : GoodIn wsX4_one wsX4_toldLetter := goodIn_r _ [38, 1, 8, 39, 9, 10, 11, 6, 12, 13, 14, 15, 16, 17, 18, 19, 20, 21, 22, 23, 24, 25, 26, 27, 28, 29, 30, 31, 32, 33, 34, 71, 72, 73, 74, 75, 76, 77, 78, 79, 80, 81, 82, 83, 84, 85, 86] (by decide +kernel) (by decide +kernel)
set_option maxRecDepth 20000 in
theorem gX4_one_X4_toldLetter : GoodIn wsX4_one (wsV RX4 115 RX4 yX4_toldLetter wsX4_toldLetter) := goodIn_app (goodIn_of _ (by decide +kernel)) ggX4_one_X4_toldLetter
set_option maxRecDepth 20000 in
theorem ggX4_one_X9_advance : GoodIn wsX4_one wsX9_advance := goodIn_r _ [26, 27, 28, 29, 30, 31, 32, 33, 34, 79, 80, 81, 82, 83, 84, 85, 86] (by decide +kernel) (by decide +kernel)
set_option maxRecDepth 20000 in
theorem gX4_one_X9_advance : GoodIn wsX4_one (wsV RX4 68 RX9 yX9_advance wsX9_advance) := goodIn_app (goodIn_of _ (by decide +kernel)) ggX4_one_X9_advance
set_option maxRecDepth 20000 in
theorem ggX4_one_X4_emit : GoodIn wsX4_one wsX4_emit := goodIn_r _ [19, 20, 21, 71, 72, 73, 74, 75, 76, 77, 78] (by decide +kernel) (by decide +kernel)
set_option maxRecDepth 20000 in
theorem gX4_one_X4_emit : GoodIn wsX4_one (wsV RX4 84 RX4 yX4_emit wsX4_emit) := goodIn_app (goodIn_of _ (by decide +kernel)) ggX4_one_X4_emit
set_option maxRecDepth 20000 in
theorem ggX4_one_X4_chosen : GoodIn wsX4_one wsX4_chosen := goodIn_r _ [62, 1, 2, 50, 9, 10, 11, 6, 12, 13, 14, 15, 51, 52, 53, 54, 22, 23, 24, 25, 26, 27, 28, 29, 30, 31, 32, 33, 34, 55, 56, 57, 58, 59, 60, 61, 16, 17, 18, 19, 20, 21, 49, 63, 64, 65, 66, 0, 3, 4, 5, 7, 8, 35, 36, 37, 38, 39, 40, 41, 42, 43, 44, 45, 46, 47, 48, 67, 68, 69, 70, 71, 72, 73, 74, 75, 76, 77, 78, 79, 80, 81, 82, 83, 84, 85, 86] (by decide +kernel) (by decide +kernel)
set_option maxRecDepth 20000 in
theorem gX4_one_X4_chosen : GoodIn wsX4_one (wsV RX4 118 RX4 yX4_chosen wsX4_chosen) := goodIn_app (goodIn_of _ (by decide +kernel)) ggX4_one_X4_chosen
set_option maxRecDepth 20000 in
theorem ggX4_one_X4_bracketed : GoodIn wsX4_one wsX4_bracketed := goodIn_r _ [49, 50, 51, 52, 53, 6, 54, 1, 9, 10, 11, 12, 13, 14, 15, 22, 23, 24, 25, 26, 27, 28, 29, 30, 31, 32, 33, 34, 55, 56, 57, 58, 59, 60, 61, 2, 62, 16, 17, 18, 19, 20, 21, 63, 64, 65, 66, 0, 3, 4, 5, 7, 8, 35, 36, 37, 38, 39, 40, 41, 42, 43, 44, 45, 46, 47, 48, 67, 68, 69, 70, 71, 72, 73, 74, 75, 76, 77, 78, 79, 80, 81, 82, 83, 84, 85, 86] (by decide +kernel) (by decide +kernel)
set_option maxRecDepth 20000 in
theorem gX4_one_X4_bracketed : GoodIn wsX4_one (wsV RX4 121 RX4 yX4_bracketed wsX4_bracketed) := goodIn_app (goodIn_of _ (by decide +kernel)) ggX4_one_X4_bracketed
set_option maxRecDepth 20000 in
theorem ggX4_one_X4_negated : GoodIn wsX4_one wsX4_negated := goodIn_r _ [63, 50, 51, 52, 53, 6, 54, 1, 9, 10, 11, 12, 13, 14, 15, 22, 23, 24, 25, 26, 27, 28, 29, 30, 31, 32, 33, 34, 64, 65, 66, 16, 17, 18, 19, 20, 21, 49, 55, 56, 57, 58, 59, 60, 61, 2, 62, 0, 3, 4, 5, 7, 8, 35, 36, 37, 38, 39, 40, 41, 42, 43, 44, 45, 46, 47, 48, 67, 68, 69, 70, 71, 72, 73, 74, 75, 76, 77, 78, 79, 80, 81, 82, 83, 84, 85, 86] (by decide +kernel) (by decide +kernel)
set_option maxRecDepth 20000 in
theorem gX4_one_X4_negated : GoodIn wsX4_one (wsV RX4 124 RX4 yX4_negated wsX4_negated) := goodIn_app (goodIn_of _ (by decide +kernel)) ggX4_one_X4_negated
set_option maxRecDepth 20000 in
theorem ggX4_one_X4_refuse : GoodIn wsX4_one wsX4_refuse := goodIn_r _ [12, 13, 1, 14, 15, 71, 72, 73, 74, 75, 76, 77, 78, 79, 80, 81, 82, 83, 84, 85, 86] (by decide +kernel) (by decide +kernel)
set_option maxRecDepth 20000 in
theorem gX4_one_X4_refuse : GoodIn wsX4_one (wsV RX4 62 RX4 yX4_refuse wsX4_refuse) := goodIn_app (goodIn_of _ (by decide +kernel)) ggX4_one_X4_refuse
theorem dX4_one_0 : decode cX4_one 0 = .ok (.aload_n 0, 1) := by decide +kernel
theorem dX4_one_1 : decode cX4_one 1 = .ok (.getfield 12, 3) := by decide +kernel
theorem dX4_one_4 : decode cX4_one 4 = .ok (.getfield 45, 3) := by decide +kernel
theorem dX4_one_7 : decode cX4_one 7 = .ok (.lookupswitch 178 #[(-4, 90), (-3, 81), (40, 168), (45, 173), (7168376, 154), (7170414, 140), (1818586739, 95), (1885432178, 110), (1953063787, 125)], 81) := by decide +kernel
theorem dX4_one_88 : decode cX4_one 88 = .ok (.aload_n 0, 1) := by decide +kernel
theorem dX4_one_89 : decode cX4_one 89 = .ok (.iconst 0, 1) := by decide +kernel
theorem dX4_one_90 : decode cX4_one 90 = .ok (.sipush 9999, 3) := by decide +kernel
theorem dX4_one_93 : decode cX4_one 93 = .ok (.invokevirtual 111, 3) := by decide +kernel
theorem dX4_one_96 : decode cX4_one 96 = .ok (.ireturn, 1) := by decide +kernel
theorem dX4_one_97 : decode cX4_one 97 = .ok (.aload_n 0, 1) := by decide +kernel
theorem dX4_one_98 : decode cX4_one 98 = .ok (.invokevirtual 115, 3) := by decide +kernel
theorem dX4_one_101 : decode cX4_one 101 = .ok (.ireturn, 1) := by decide +kernel
theorem dX4_one_102 : decode cX4_one 102 = .ok (.aload_n 0, 1) := by decide +kernel
theorem dX4_one_103 : decode cX4_one 103 = .ok (.getfield 12, 3) := by decide +kernel
theorem dX4_one_106 : decode cX4_one 106 = .ok (.invokevirtual 68, 3) := by decide +kernel
theorem dX4_one_109 : decode cX4_one 109 = .ok (.aload_n 0, 1) := by decide +kernel
theorem dX4_one_110 : decode cX4_one 110 = .ok (.iconst 2, 1) := by decide +kernel
theorem dX4_one_111 : decode cX4_one 111 = .ok (.bipush 15, 2) := by decide +kernel
theorem dX4_one_113 : decode cX4_one 113 = .ok (.invokevirtual 111, 3) := by decide +kernel
theorem dX4_one_116 : decode cX4_one 116 = .ok (.ireturn, 1) := by decide +kernel
theorem dX4_one_117 : decode cX4_one 117 = .ok (.aload_n 0, 1) := by decide +kernel
theorem dX4_one_118 : decode cX4_one 118 = .ok (.getfield 12, 3) := by decide +kernel
theorem dX4_one_121 : decode cX4_one 121 = .ok (.invokevirtual 68, 3) := by decide +kernel
theorem dX4_one_124 : decode cX4_one 124 = .ok (.aload_n 0, 1) := by decide +kernel
theorem dX4_one_125 : decode cX4_one 125 = .ok (.iconst 3, 1) := by decide +kernel
theorem dX4_one_126 : decode cX4_one 126 = .ok (.bipush 15, 2) := by decide +kernel
theorem dX4_one_128 : decode cX4_one 128 = .ok (.invokevirtual 111, 3) := by decide +kernel
theorem dX4_one_131 : decode cX4_one 131 = .ok (.ireturn, 1) := by decide +kernel
theorem dX4_one_132 : decode cX4_one 132 = .ok (.aload_n 0, 1) := by decide +kernel
theorem dX4_one_133 : decode cX4_one 133 = .ok (.iconst 4, 1) := by decide +kernel
theorem dX4_one_134 : decode cX4_one 134 = .ok (.iconst 0, 1) := by decide +kernel
theorem dX4_one_135 : decode cX4_one 135 = .ok (.invokevirtual 84, 3) := by decide +kernel
theorem dX4_one_138 : decode cX4_one 138 = .ok (.aload_n 0, 1) := by decide +kernel
