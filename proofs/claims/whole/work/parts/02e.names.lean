theorem dX6_takesPlaces_12 : decode cX6_takesPlaces 12 = .ok (.aload_n 0, 1) := by decide +kernel
theorem dX6_takesPlaces_13 : decode cX6_takesPlaces 13 = .ok (.getfield 12, 3) := by decide +kernel
theorem dX6_takesPlaces_16 : decode cX6_takesPlaces 16 = .ok (.iload_n 1, 1) := by decide +kernel
theorem dX6_takesPlaces_17 : decode cX6_takesPlaces 17 = .ok (.invokevirtual 73, 3) := by decide +kernel
theorem dX6_takesPlaces_20 : decode cX6_takesPlaces 20 = .ok (.iconst 1, 1) := by decide +kernel
theorem dX6_takesPlaces_21 : decode cX6_takesPlaces 21 = .ok (.ireturn, 1) := by decide +kernel
set_option maxRecDepth 20000 in
theorem ggX6_takesLink_X5_isPair : GoodIn wsX6_takesLink wsX5_isPair := goodIn_r _ [6, 7, 8, 9, 5, 10, 11, 32, 33, 34, 35, 36, 37, 38, 39, 40] (by decide +kernel) (by decide +kernel)
set_option maxRecDepth 20000 in
theorem gX6_takesLink_X5_isPair : GoodIn wsX6_takesLink (wsV RX6 77 RX5 yX5_isPair wsX5_isPair) := goodIn_app (goodIn_of _ (by decide +kernel)) ggX6_takesLink_X5_isPair
set_option maxRecDepth 20000 in
theorem ggX6_takesLink_X7_isWithin : GoodIn wsX6_takesLink wsX7_isWithin := goodIn_r _ [14] (by decide +kernel) (by decide +kernel)
set_option maxRecDepth 20000 in
theorem gX6_takesLink_X7_isWithin_n50 : GoodIn wsX6_takesLink (wsX7_isWithin) := ggX6_takesLink_X7_isWithin
set_option maxRecDepth 20000 in
theorem ggX6_takesLink_X5_lengthOf : GoodIn wsX6_takesLink wsX5_lengthOf := goodIn_r _ [18, 19, 32, 33, 34, 35, 36, 37, 38, 39, 40] (by decide +kernel) (by decide +kernel)
set_option maxRecDepth 20000 in
theorem gX6_takesLink_X5_lengthOf : GoodIn wsX6_takesLink (wsV RX6 80 RX5 yX5_lengthOf wsX5_lengthOf) := goodIn_app (goodIn_of _ (by decide +kernel)) ggX6_takesLink_X5_lengthOf
set_option maxRecDepth 20000 in
theorem ggX6_takesLink_X5_links : GoodIn wsX6_takesLink wsX5_links := goodIn_r _ [23, 24, 32, 33, 34, 35, 36, 37, 38, 39, 40] (by decide +kernel) (by decide +kernel)
set_option maxRecDepth 20000 in
theorem gX6_takesLink_X5_links : GoodIn wsX6_takesLink (wsV RX6 84 RX5 yX5_links wsX5_links) := goodIn_app (goodIn_of _ (by decide +kernel)) ggX6_takesLink_X5_links
set_option maxRecDepth 20000 in
theorem ggX6_takesLink_X5_setLength : GoodIn wsX6_takesLink wsX5_setLength := goodIn_r _ [28, 24, 19, 29, 16, 17, 5, 18, 32, 33, 34, 35, 36, 37, 38, 39, 40] (by decide +kernel) (by decide +kernel)
set_option maxRecDepth 20000 in
theorem gX6_takesLink_X5_setLength : GoodIn wsX6_takesLink (wsV RX6 87 RX5 yX5_setLength wsX5_setLength) := goodIn_app (goodIn_of _ (by decide +kernel)) ggX6_takesLink_X5_setLength
theorem dX6_takesLink_0 : decode cX6_takesLink 0 = .ok (.aload_n 0, 1) := by decide +kernel
theorem dX6_takesLink_1 : decode cX6_takesLink 1 = .ok (.getfield 12, 3) := by decide +kernel
theorem dX6_takesLink_4 : decode cX6_takesLink 4 = .ok (.iload_n 1, 1) := by decide +kernel
theorem dX6_takesLink_5 : decode cX6_takesLink 5 = .ok (.iload_n 2, 1) := by decide +kernel
theorem dX6_takesLink_6 : decode cX6_takesLink 6 = .ok (.invokevirtual 77, 3) := by decide +kernel
theorem dX6_takesLink_9 : decode cX6_takesLink 9 = .ok (.ifCond .eq 13, 3) := by decide +kernel
theorem dX6_takesLink_12 : decode cX6_takesLink 12 = .ok (.iload_n 3, 1) := by decide +kernel
theorem dX6_takesLink_13 : decode cX6_takesLink 13 = .ok (.iconst 1, 1) := by decide +kernel
theorem dX6_takesLink_14 : decode cX6_takesLink 14 = .ok (.bipush 9, 2) := by decide +kernel
theorem dX6_takesLink_16 : decode cX6_takesLink 16 = .ok (.invokestatic 50, 3) := by decide +kernel
theorem dX6_takesLink_19 : decode cX6_takesLink 19 = .ok (.ifCond .ne 5, 3) := by decide +kernel
theorem dX6_takesLink_22 : decode cX6_takesLink 22 = .ok (.iconst 0, 1) := by decide +kernel
theorem dX6_takesLink_23 : decode cX6_takesLink 23 = .ok (.ireturn, 1) := by decide +kernel
theorem dX6_takesLink_24 : decode cX6_takesLink 24 = .ok (.aload_n 0, 1) := by decide +kernel
theorem dX6_takesLink_25 : decode cX6_takesLink 25 = .ok (.getfield 12, 3) := by decide +kernel
theorem dX6_takesLink_28 : decode cX6_takesLink 28 = .ok (.iload_n 1, 1) := by decide +kernel
theorem dX6_takesLink_29 : decode cX6_takesLink 29 = .ok (.iload_n 2, 1) := by decide +kernel
theorem dX6_takesLink_30 : decode cX6_takesLink 30 = .ok (.invokevirtual 80, 3) := by decide +kernel
theorem dX6_takesLink_33 : decode cX6_takesLink 33 = .ok (.ifCond .ne 17, 3) := by decide +kernel
theorem dX6_takesLink_36 : decode cX6_takesLink 36 = .ok (.aload_n 0, 1) := by decide +kernel
theorem dX6_takesLink_37 : decode cX6_takesLink 37 = .ok (.getfield 12, 3) := by decide +kernel
theorem dX6_takesLink_40 : decode cX6_takesLink 40 = .ok (.invokevirtual 84, 3) := by decide +kernel
theorem dX6_takesLink_43 : decode cX6_takesLink 43 = .ok (.bipush 40, 2) := by decide +kernel
theorem dX6_takesLink_45 : decode cX6_takesLink 45 = .ok (.if_icmp .lt 5, 3) := by decide +kernel
theorem dX6_takesLink_48 : decode cX6_takesLink 48 = .ok (.iconst 0, 1) := by decide +kernel
theorem dX6_takesLink_49 : decode cX6_takesLink 49 = .ok (.ireturn, 1) := by decide +kernel
theorem dX6_takesLink_50 : decode cX6_takesLink 50 = .ok (.aload_n 0, 1) := by decide +kernel
theorem dX6_takesLink_51 : decode cX6_takesLink 51 = .ok (.getfield 12, 3) := by decide +kernel
theorem dX6_takesLink_54 : decode cX6_takesLink 54 = .ok (.iload_n 1, 1) := by decide +kernel
theorem dX6_takesLink_55 : decode cX6_takesLink 55 = .ok (.iload_n 2, 1) := by decide +kernel
theorem dX6_takesLink_56 : decode cX6_takesLink 56 = .ok (.iload_n 3, 1) := by decide +kernel
theorem dX6_takesLink_57 : decode cX6_takesLink 57 = .ok (.invokevirtual 87, 3) := by decide +kernel
theorem dX6_takesLink_60 : decode cX6_takesLink 60 = .ok (.iconst 1, 1) := by decide +kernel
theorem dX6_takesLink_61 : decode cX6_takesLink 61 = .ok (.ireturn, 1) := by decide +kernel
set_option maxRecDepth 20000 in
theorem ggX6_takesDelay_X5_isPlace : GoodIn wsX6_takesDelay wsX5_isPlace := goodIn_r _ [6, 7, 20, 21, 22, 23, 24, 25, 26, 27, 28] (by decide +kernel) (by decide +kernel)
set_option maxRecDepth 20000 in
theorem gX6_takesDelay_X5_isPlace : GoodIn wsX6_takesDelay (wsV RX6 91 RX5 yX5_isPlace wsX5_isPlace) := goodIn_app (goodIn_of _ (by decide +kernel)) ggX6_takesDelay_X5_isPlace
set_option maxRecDepth 20000 in
theorem ggX6_takesDelay_X7_isWithin : GoodIn wsX6_takesDelay wsX7_isWithin := goodIn_r _ [10] (by decide +kernel) (by decide +kernel)
set_option maxRecDepth 20000 in
theorem gX6_takesDelay_X7_isWithin_n50 : GoodIn wsX6_takesDelay (wsX7_isWithin) := ggX6_takesDelay_X7_isWithin
set_option maxRecDepth 20000 in
theorem ggX6_takesDelay_X5_tell : GoodIn wsX6_takesDelay wsX5_tell := goodIn_r _ [14, 15, 16, 17, 20, 21, 22, 23, 24, 25, 26, 27, 28] (by decide +kernel) (by decide +kernel)
set_option maxRecDepth 20000 in
theorem gX6_takesDelay_X5_tell : GoodIn wsX6_takesDelay (wsV RX6 94 RX5 yX5_tell wsX5_tell) := goodIn_app (goodIn_of _ (by decide +kernel)) ggX6_takesDelay_X5_tell
theorem dX6_takesDelay_0 : decode cX6_takesDelay 0 = .ok (.aload_n 0, 1) := by decide +kernel
theorem dX6_takesDelay_1 : decode cX6_takesDelay 1 = .ok (.getfield 12, 3) := by decide +kernel
theorem dX6_takesDelay_4 : decode cX6_takesDelay 4 = .ok (.iload_n 1, 1) := by decide +kernel
theorem dX6_takesDelay_5 : decode cX6_takesDelay 5 = .ok (.invokevirtual 91, 3) := by decide +kernel
theorem dX6_takesDelay_8 : decode cX6_takesDelay 8 = .ok (.ifCond .eq 24, 3) := by decide +kernel
theorem dX6_takesDelay_11 : decode cX6_takesDelay 11 = .ok (.iload_n 2, 1) := by decide +kernel
theorem dX6_takesDelay_12 : decode cX6_takesDelay 12 = .ok (.iconst 0, 1) := by decide +kernel
theorem dX6_takesDelay_13 : decode cX6_takesDelay 13 = .ok (.bipush 30, 2) := by decide +kernel
theorem dX6_takesDelay_15 : decode cX6_takesDelay 15 = .ok (.invokestatic 50, 3) := by decide +kernel
theorem dX6_takesDelay_18 : decode cX6_takesDelay 18 = .ok (.ifCond .eq 14, 3) := by decide +kernel
theorem dX6_takesDelay_21 : decode cX6_takesDelay 21 = .ok (.iload_n 3, 1) := by decide +kernel
theorem dX6_takesDelay_22 : decode cX6_takesDelay 22 = .ok (.iconst 0, 1) := by decide +kernel
theorem dX6_takesDelay_23 : decode cX6_takesDelay 23 = .ok (.sipush 999, 3) := by decide +kernel
theorem dX6_takesDelay_26 : decode cX6_takesDelay 26 = .ok (.invokestatic 50, 3) := by decide +kernel
theorem dX6_takesDelay_29 : decode cX6_takesDelay 29 = .ok (.ifCond .ne 5, 3) := by decide +kernel
theorem dX6_takesDelay_32 : decode cX6_takesDelay 32 = .ok (.iconst 0, 1) := by decide +kernel
theorem dX6_takesDelay_33 : decode cX6_takesDelay 33 = .ok (.ireturn, 1) := by decide +kernel
theorem dX6_takesDelay_34 : decode cX6_takesDelay 34 = .ok (.aload_n 0, 1) := by decide +kernel
theorem dX6_takesDelay_35 : decode cX6_takesDelay 35 = .ok (.getfield 12, 3) := by decide +kernel
theorem dX6_takesDelay_38 : decode cX6_takesDelay 38 = .ok (.iload_n 1, 1) := by decide +kernel
theorem dX6_takesDelay_39 : decode cX6_takesDelay 39 = .ok (.iload_n 2, 1) := by decide +kernel
theorem dX6_takesDelay_40 : decode cX6_takesDelay 40 = .ok (.iload_n 3, 1) := by decide +kernel
theorem dX6_takesDelay_41 : decode cX6_takesDelay 41 = .ok (.invokevirtual 94, 3) := by decide +kernel
theorem dX6_takesDelay_44 : decode cX6_takesDelay 44 = .ok (.iconst 1, 1) := by decide +kernel
theorem dX6_takesDelay_45 : decode cX6_takesDelay 45 = .ok (.ireturn, 1) := by decide +kernel
set_option maxRecDepth 20000 in
theorem ggX6_takesDrawing_X7_isWithin : GoodIn wsX6_takesDrawing wsX7_isWithin := goodIn_r _ [4] (by decide +kernel) (by decide +kernel)
set_option maxRecDepth 20000 in
theorem gX6_takesDrawing_X7_isWithin_n50 : GoodIn wsX6_takesDrawing (wsX7_isWithin) := ggX6_takesDrawing_X7_isWithin
set_option maxRecDepth 20000 in
theorem ggX6_takesDrawing_X5_setDrawing : GoodIn wsX6_takesDrawing wsX5_setDrawing := goodIn_r _ [9, 10, 11, 14, 15, 16, 17, 18, 19, 20, 21, 22] (by decide +kernel) (by decide +kernel)
set_option maxRecDepth 20000 in
theorem gX6_takesDrawing_X5_setDrawing : GoodIn wsX6_takesDrawing (wsV RX6 97 RX5 yX5_setDrawing wsX5_setDrawing) := goodIn_app (goodIn_of _ (by decide +kernel)) ggX6_takesDrawing_X5_setDrawing
theorem dX6_takesDrawing_0 : decode cX6_takesDrawing 0 = .ok (.iload_n 1, 1) := by decide +kernel
theorem dX6_takesDrawing_1 : decode cX6_takesDrawing 1 = .ok (.iconst 1, 1) := by decide +kernel
theorem dX6_takesDrawing_2 : decode cX6_takesDrawing 2 = .ok (.bipush 30, 2) := by decide +kernel
theorem dX6_takesDrawing_4 : decode cX6_takesDrawing 4 = .ok (.invokestatic 50, 3) := by decide +kernel
theorem dX6_takesDrawing_7 : decode cX6_takesDrawing 7 = .ok (.ifCond .eq 13, 3) := by decide +kernel
theorem dX6_takesDrawing_10 : decode cX6_takesDrawing 10 = .ok (.iload_n 2, 1) := by decide +kernel
theorem dX6_takesDrawing_11 : decode cX6_takesDrawing 11 = .ok (.iconst 0, 1) := by decide +kernel
theorem dX6_takesDrawing_12 : decode cX6_takesDrawing 12 = .ok (.bipush 10, 2) := by decide +kernel
theorem dX6_takesDrawing_14 : decode cX6_takesDrawing 14 = .ok (.invokestatic 50, 3) := by decide +kernel
theorem dX6_takesDrawing_17 : decode cX6_takesDrawing 17 = .ok (.ifCond .ne 5, 3) := by decide +kernel
theorem dX6_takesDrawing_20 : decode cX6_takesDrawing 20 = .ok (.iconst 0, 1) := by decide +kernel
theorem dX6_takesDrawing_21 : decode cX6_takesDrawing 21 = .ok (.ireturn, 1) := by decide +kernel
theorem dX6_takesDrawing_22 : decode cX6_takesDrawing 22 = .ok (.aload_n 0, 1) := by decide +kernel
theorem dX6_takesDrawing_23 : decode cX6_takesDrawing 23 = .ok (.getfield 12, 3) := by decide +kernel
theorem dX6_takesDrawing_26 : decode cX6_takesDrawing 26 = .ok (.iload_n 1, 1) := by decide +kernel
theorem dX6_takesDrawing_27 : decode cX6_takesDrawing 27 = .ok (.iload_n 2, 1) := by decide +kernel
theorem dX6_takesDrawing_28 : decode cX6_takesDrawing 28 = .ok (.invokevirtual 97, 3) := by decide +kernel
theorem dX6_takesDrawing_31 : decode cX6_takesDrawing 31 = .ok (.iconst 1, 1) := by decide +kernel
theorem dX6_takesDrawing_32 : decode cX6_takesDrawing 32 = .ok (.ireturn, 1) := by decide +kernel
set_option maxRecDepth 20000 in
theorem ggX6_takesZ_X7_isWithin : GoodIn wsX6_takesZ wsX7_isWithin := goodIn_r _ [4] (by decide +kernel) (by decide +kernel)
set_option maxRecDepth 20000 in
theorem gX6_takesZ_X7_isWithin_n50 : GoodIn wsX6_takesZ (wsX7_isWithin) := ggX6_takesZ_X7_isWithin
set_option maxRecDepth 20000 in
theorem ggX6_takesZ_X5_setZ : GoodIn wsX6_takesZ wsX5_setZ := goodIn_r _ [9, 10, 13, 14, 15, 16, 17, 18, 19, 20, 21] (by decide +kernel) (by decide +kernel)
set_option maxRecDepth 20000 in
theorem gX6_takesZ_X5_setZ : GoodIn wsX6_takesZ (wsV RX6 101 RX5 yX5_setZ wsX5_setZ) := goodIn_app (goodIn_of _ (by decide +kernel)) ggX6_takesZ_X5_setZ
theorem dX6_takesZ_0 : decode cX6_takesZ 0 = .ok (.iload_n 1, 1) := by decide +kernel
theorem dX6_takesZ_1 : decode cX6_takesZ 1 = .ok (.iconst 0, 1) := by decide +kernel
theorem dX6_takesZ_2 : decode cX6_takesZ 2 = .ok (.sipush 9999, 3) := by decide +kernel
theorem dX6_takesZ_5 : decode cX6_takesZ 5 = .ok (.invokestatic 50, 3) := by decide +kernel
theorem dX6_takesZ_8 : decode cX6_takesZ 8 = .ok (.ifCond .ne 5, 3) := by decide +kernel
theorem dX6_takesZ_11 : decode cX6_takesZ 11 = .ok (.iconst 0, 1) := by decide +kernel
theorem dX6_takesZ_12 : decode cX6_takesZ 12 = .ok (.ireturn, 1) := by decide +kernel
theorem dX6_takesZ_13 : decode cX6_takesZ 13 = .ok (.aload_n 0, 1) := by decide +kernel
theorem dX6_takesZ_14 : decode cX6_takesZ 14 = .ok (.getfield 12, 3) := by decide +kernel
theorem dX6_takesZ_17 : decode cX6_takesZ 17 = .ok (.iload_n 1, 1) := by decide +kernel
theorem dX6_takesZ_18 : decode cX6_takesZ 18 = .ok (.invokevirtual 101, 3) := by decide +kernel
theorem dX6_takesZ_21 : decode cX6_takesZ 21 = .ok (.iconst 1, 1) := by decide +kernel
theorem dX6_takesZ_22 : decode cX6_takesZ 22 = .ok (.ireturn, 1) := by decide +kernel
set_option maxRecDepth 20000 in
theorem ggX7_init_X2_init : GoodIn wsX7_init wsX2_init := goodIn_r _ [30, 31, 2, 3, 32, 33, 339, 340] (by decide +kernel) (by decide +kernel)
set_option maxRecDepth 20000 in
theorem gX7_init_X2_init_n9 : GoodIn wsX7_init (wsX2_init) := ggX7_init_X2_init
set_option maxRecDepth 20000 in
theorem ggX7_init_X6_init : GoodIn wsX7_init wsX6_init := goodIn_r _ [35, 36, 2, 3, 37, 13, 14, 38, 39, 40, 41, 42, 43, 44, 45, 46, 47, 48, 350, 351, 352, 353, 354, 355, 356, 357, 358, 348, 349] (by decide +kernel) (by decide +kernel)
set_option maxRecDepth 20000 in
theorem gX7_init_X6_init_n18 : GoodIn wsX7_init (wsX6_init) := ggX7_init_X6_init
set_option maxRecDepth 20000 in
theorem ggX7_init_X5_init : GoodIn wsX7_init wsX5_init := goodIn_r _ [42, 43, 2, 3, 39, 44, 45, 46, 47, 48, 350, 351, 352, 353, 354, 355, 356, 357, 358] (by decide +kernel) (by decide +kernel)
set_option maxRecDepth 20000 in
theorem gX7_init_X5_init_n25 : GoodIn wsX7_init (wsX5_init) := ggX7_init_X5_init
set_option maxRecDepth 20000 in
theorem ggX7_init_X4_init : GoodIn wsX7_init wsX4_init := goodIn_r _ [50, 51, 2, 3, 39, 52, 359] (by decide +kernel) (by decide +kernel)
set_option maxRecDepth 20000 in
theorem gX7_init_X4_init_n32 : GoodIn wsX7_init (wsX4_init) := ggX7_init_X4_init
set_option maxRecDepth 20000 in
theorem ggX7_init_X1_init : GoodIn wsX7_init wsX1_init := goodIn_r _ [55, 56, 2, 3, 39, 57, 58, 59, 60, 61, 360, 361, 362, 363, 364, 365] (by decide +kernel) (by decide +kernel)
set_option maxRecDepth 20000 in
theorem gX7_init_X1_init : GoodIn wsX7_init (wsX1_init) := ggX7_init_X1_init
set_option maxRecDepth 20000 in
theorem ggX7_init_X3_init : GoodIn wsX7_init wsX3_init := goodIn_r _ [64, 65, 2, 3, 66, 67, 68, 69, 70, 71, 72, 366, 367, 368, 369, 370, 371, 372, 373, 374, 375, 376] (by decide +kernel) (by decide +kernel)
set_option maxRecDepth 20000 in
theorem gX7_init_X3_init : GoodIn wsX7_init (wsX3_init) := ggX7_init_X3_init
set_option maxRecDepth 20000 in
theorem ggX7_init_J0_length_8abf5 : GoodIn wsX7_init wsJ0_length_8abf5 := goodIn_r _ [77, 78, 79, 80, 81, 76, 82, 83, 84] (by decide +kernel) (by decide +kernel)
set_option maxRecDepth 20000 in
theorem gX7_init_J0_length_8abf5 : GoodIn wsX7_init (wsV RX7 58 RJ0 yJ0_length_8abf5 wsJ0_length_8abf5) := goodIn_app (goodIn_of _ (by decide +kernel)) ggX7_init_J0_length_8abf5
set_option maxRecDepth 20000 in
theorem ggX7_init_J0_charAt_5068e : GoodIn wsX7_init wsJ0_charAt_5068e := goodIn_r _ [88, 78, 89, 90, 91, 76, 92, 83, 84, 93, 94, 95, 96, 97, 98, 99, 100, 101, 102, 103, 104, 105, 106, 107, 108, 109, 110, 111, 112, 113, 114, 115, 116, 117, 118, 119, 120, 121] (by decide +kernel) (by decide +kernel)
set_option maxRecDepth 20000 in
theorem gX7_init_J0_charAt_5068e : GoodIn wsX7_init (wsV RX7 64 RJ0 yJ0_charAt_5068e wsJ0_charAt_5068e) := goodIn_app (goodIn_of _ (by decide +kernel)) ggX7_init_J0_charAt_5068e
set_option maxRecDepth 20000 in
theorem ggX7_init_X2_append : GoodIn wsX7_init wsX2_append := goodIn_r _ [125, 33, 126, 127, 128, 129, 6, 130, 339, 340] (by decide +kernel) (by decide +kernel)
set_option maxRecDepth 20000 in
theorem gX7_init_X2_append : GoodIn wsX7_init (wsV RX7 68 RX2 yX2_append wsX2_append) := goodIn_app (goodIn_of _ (by decide +kernel)) ggX7_init_X2_append
set_option maxRecDepth 20000 in
theorem ggX7_init_X7_layText : GoodIn wsX7_init wsX7_layText := goodIn_r _ [135, 11, 7, 15, 28, 136, 137, 138, 10, 139, 38, 140, 141, 142, 14, 143, 44, 144, 145, 146, 147, 148, 149, 150, 151, 152, 153, 154, 155, 156, 46, 47, 48, 157, 158, 159, 6, 160, 126, 161, 162, 163, 164, 165, 166, 167, 168, 33, 169, 134, 170, 171, 172, 173, 174, 175, 176, 177, 40, 178, 179, 180, 181, 182, 183, 184, 185, 186, 187, 188, 189, 190, 191, 192, 193, 194, 195, 196, 197, 198, 199, 200, 201, 202, 203, 204, 205, 206, 207, 208, 209, 210, 211, 212, 213, 214, 215, 216, 217, 218, 219, 220, 221, 222, 223, 224, 225, 226, 227, 228, 229, 230, 231, 232, 233, 234, 235, 236, 237, 238, 239, 240, 241, 242, 243, 244, 245, 246, 247, 248, 249, 250, 251, 252, 253, 254, 255, 256, 257, 258, 259, 27, 260, 261, 262, 263, 264, 265, 19, 23, 266, 267, 268, 18, 269, 52, 270, 271, 272, 273, 274, 275, 276, 277, 278, 279, 280, 281, 282, 283, 284, 285, 286, 287, 288, 289, 290, 291, 22, 292, 60, 57, 58, 59, 293, 294, 295, 296, 297, 298, 299, 300, 301, 302, 303, 304, 305, 306, 307, 308, 309, 310, 311, 312, 313, 314, 315, 316, 317, 318, 319, 320, 321, 322, 323, 324, 325, 61, 326, 327, 328, 329, 330, 331, 332, 333, 334, 341, 342, 343, 344, 345, 346, 347, 348, 349, 350, 351, 352, 353, 354, 355, 356, 357, 358, 339, 340, 366, 367, 368, 359, 360, 361, 362, 363, 364, 365] (by decide +kernel) (by decide +kernel)
set_option maxRecDepth 20000 in
theorem gX7_init_X7_layText : GoodIn wsX7_init (wsV RX7 72 RX7 yX7_layText wsX7_layText) := goodIn_app (goodIn_of _ (by decide +kernel)) ggX7_init_X7_layText
set_option maxRecDepth 20000 in
theorem ggX7_init_X2_clear : GoodIn wsX7_init wsX2_clear := goodIn_r _ [338, 126, 339, 340] (by decide +kernel) (by decide +kernel)
set_option maxRecDepth 20000 in
theorem gX7_init_X2_clear : GoodIn wsX7_init (wsV RX7 75 RX2 yX2_clear wsX2_clear) := goodIn_app (goodIn_of _ (by decide +kernel)) ggX7_init_X2_clear
theorem dX7_init_0 : decode cX7_init 0 = .ok (.aload_n 0, 1) := by decide +kernel
theorem dX7_init_1 : decode cX7_init 1 = .ok (.invokespecial 1, 3) := by decide +kernel
theorem dX7_init_4 : decode cX7_init 4 = .ok (.aload_n 0, 1) := by decide +kernel
theorem dX7_init_5 : decode cX7_init 5 = .ok (.new 7, 3) := by decide +kernel
theorem dX7_init_8 : decode cX7_init 8 = .ok (.dup, 1) := by decide +kernel
theorem dX7_init_9 : decode cX7_init 9 = .ok (.invokespecial 9, 3) := by decide +kernel
theorem dX7_init_12 : decode cX7_init 12 = .ok (.putfield 10, 3) := by decide +kernel
theorem dX7_init_15 : decode cX7_init 15 = .ok (.aload_n 0, 1) := by decide +kernel
theorem dX7_init_16 : decode cX7_init 16 = .ok (.new 16, 3) := by decide +kernel
theorem dX7_init_19 : decode cX7_init 19 = .ok (.dup, 1) := by decide +kernel
theorem dX7_init_20 : decode cX7_init 20 = .ok (.invokespecial 18, 3) := by decide +kernel
theorem dX7_init_23 : decode cX7_init 23 = .ok (.putfield 19, 3) := by decide +kernel
theorem dX7_init_26 : decode cX7_init 26 = .ok (.aload_n 0, 1) := by decide +kernel
theorem dX7_init_27 : decode cX7_init 27 = .ok (.new 23, 3) := by decide +kernel
theorem dX7_init_30 : decode cX7_init 30 = .ok (.dup, 1) := by decide +kernel
theorem dX7_init_31 : decode cX7_init 31 = .ok (.invokespecial 25, 3) := by decide +kernel
theorem dX7_init_34 : decode cX7_init 34 = .ok (.putfield 26, 3) := by decide +kernel
theorem dX7_init_37 : decode cX7_init 37 = .ok (.aload_n 0, 1) := by decide +kernel
theorem dX7_init_38 : decode cX7_init 38 = .ok (.new 30, 3) := by decide +kernel
theorem dX7_init_41 : decode cX7_init 41 = .ok (.dup, 1) := by decide +kernel
theorem dX7_init_42 : decode cX7_init 42 = .ok (.invokespecial 32, 3) := by decide +kernel
theorem dX7_init_45 : decode cX7_init 45 = .ok (.putfield 33, 3) := by decide +kernel
theorem dX7_init_48 : decode cX7_init 48 = .ok (.aload_n 0, 1) := by decide +kernel
theorem dX7_init_49 : decode cX7_init 49 = .ok (.new 37, 3) := by decide +kernel
theorem dX7_init_52 : decode cX7_init 52 = .ok (.dup, 1) := by decide +kernel
theorem dX7_init_53 : decode cX7_init 53 = .ok (.aload_n 0, 1) := by decide +kernel
theorem dX7_init_54 : decode cX7_init 54 = .ok (.getfield 26, 3) := by decide +kernel
theorem dX7_init_57 : decode cX7_init 57 = .ok (.aload_n 0, 1) := by decide +kernel
theorem dX7_init_58 : decode cX7_init 58 = .ok (.getfield 33, 3) := by decide +kernel
theorem dX7_init_61 : decode cX7_init 61 = .ok (.invokespecial 39, 3) := by decide +kernel
theorem dX7_init_64 : decode cX7_init 64 = .ok (.putfield 42, 3) := by decide +kernel
theorem dX7_init_67 : decode cX7_init 67 = .ok (.aload_n 0, 1) := by decide +kernel
theorem dX7_init_68 : decode cX7_init 68 = .ok (.new 37, 3) := by decide +kernel
theorem dX7_init_71 : decode cX7_init 71 = .ok (.dup, 1) := by decide +kernel
theorem dX7_init_72 : decode cX7_init 72 = .ok (.aload_n 0, 1) := by decide +kernel
theorem dX7_init_73 : decode cX7_init 73 = .ok (.getfield 26, 3) := by decide +kernel
theorem dX7_init_76 : decode cX7_init 76 = .ok (.aload_n 0, 1) := by decide +kernel
theorem dX7_init_77 : decode cX7_init 77 = .ok (.getfield 33, 3) := by decide +kernel
theorem dX7_init_80 : decode cX7_init 80 = .ok (.invokespecial 39, 3) := by decide +kernel
theorem dX7_init_83 : decode cX7_init 83 = .ok (.putfield 46, 3) := by decide +kernel
theorem dX7_init_86 : decode cX7_init 86 = .ok (.aload_n 0, 1) := by decide +kernel
theorem dX7_init_87 : decode cX7_init 87 = .ok (.new 49, 3) := by decide +kernel
theorem dX7_init_90 : decode cX7_init 90 = .ok (.dup, 1) := by decide +kernel
theorem dX7_init_91 : decode cX7_init 91 = .ok (.invokespecial 51, 3) := by decide +kernel
theorem dX7_init_94 : decode cX7_init 94 = .ok (.putfield 52, 3) := by decide +kernel
theorem dX7_init_97 : decode cX7_init 97 = .ok (.iconst 0, 1) := by decide +kernel
theorem dX7_init_98 : decode cX7_init 98 = .ok (.istore_n 1, 1) := by decide +kernel
theorem dX7_init_99 : decode cX7_init 99 = .ok (.iload_n 1, 1) := by decide +kernel
theorem dX7_init_100 : decode cX7_init 100 = .ok (.ldc 56, 2) := by decide +kernel
theorem dX7_init_102 : decode cX7_init 102 = .ok (.invokevirtual 58, 3) := by decide +kernel
theorem dX7_init_105 : decode cX7_init 105 = .ok (.if_icmp .ge 22, 3) := by decide +kernel
theorem dX7_init_108 : decode cX7_init 108 = .ok (.aload_n 0, 1) := by decide +kernel
theorem dX7_init_109 : decode cX7_init 109 = .ok (.getfield 10, 3) := by decide +kernel
theorem dX7_init_112 : decode cX7_init 112 = .ok (.ldc 56, 2) := by decide +kernel
theorem dX7_init_114 : decode cX7_init 114 = .ok (.iload_n 1, 1) := by decide +kernel
theorem dX7_init_115 : decode cX7_init 115 = .ok (.invokevirtual 64, 3) := by decide +kernel
theorem dX7_init_118 : decode cX7_init 118 = .ok (.invokevirtual 68, 3) := by decide +kernel
theorem dX7_init_121 : decode cX7_init 121 = .ok (.iinc 1 1, 3) := by decide +kernel
theorem dX7_init_124 : decode cX7_init 124 = .ok (.goto (-25), 3) := by decide +kernel
theorem dX7_init_127 : decode cX7_init 127 = .ok (.aload_n 0, 1) := by decide +kernel
theorem dX7_init_128 : decode cX7_init 128 = .ok (.invokevirtual 72, 3) := by decide +kernel
theorem dX7_init_131 : decode cX7_init 131 = .ok (.pop, 1) := by decide +kernel
theorem dX7_init_132 : decode cX7_init 132 = .ok (.aload_n 0, 1) := by decide +kernel
theorem dX7_init_133 : decode cX7_init 133 = .ok (.getfield 10, 3) := by decide +kernel
theorem dX7_init_136 : decode cX7_init 136 = .ok (.invokevirtual 75, 3) := by decide +kernel
theorem dX7_init_139 : decode cX7_init 139 = .ok (.return_, 1) := by decide +kernel
set_option maxRecDepth 20000 in
theorem ggX7_write_X7_isWithin : GoodIn wsX7_write wsX7_isWithin := goodIn_r _ [5] (by decide +kernel) (by decide +kernel)
set_option maxRecDepth 20000 in
theorem gX7_write_X7_isWithin : GoodIn wsX7_write (va_wsS RX7 78 yX7_isWithin wsX7_isWithin) := goodIn_app (goodIn_of _ (by decide +kernel)) ggX7_write_X7_isWithin
set_option maxRecDepth 20000 in
theorem ggX7_write_X2_isFull : GoodIn wsX7_write wsX2_isFull := goodIn_r _ [10, 11, 12, 29, 30] (by decide +kernel) (by decide +kernel)
set_option maxRecDepth 20000 in
theorem gX7_write_X2_isFull : GoodIn wsX7_write (wsV RX7 82 RX2 yX2_isFull wsX2_isFull) := goodIn_app (goodIn_of _ (by decide +kernel)) ggX7_write_X2_isFull
set_option maxRecDepth 20000 in
theorem ggX7_write_X2_append : GoodIn wsX7_write wsX2_append := goodIn_r _ [16, 12, 11, 17, 7, 8, 9, 10, 29, 30] (by decide +kernel) (by decide +kernel)
set_option maxRecDepth 20000 in
theorem gX7_write_X2_append : GoodIn wsX7_write (wsV RX7 68 RX2 yX2_append wsX2_append) := goodIn_app (goodIn_of _ (by decide +kernel)) ggX7_write_X2_append
set_option maxRecDepth 20000 in
theorem ggX7_write_X2_size : GoodIn wsX7_write wsX2_size := goodIn_r _ [21, 11, 29, 30] (by decide +kernel) (by decide +kernel)
set_option maxRecDepth 20000 in
theorem gX7_write_X2_size : GoodIn wsX7_write (wsV RX7 86 RX2 yX2_size wsX2_size) := goodIn_app (goodIn_of _ (by decide +kernel)) ggX7_write_X2_size
theorem dX7_write_0 : decode cX7_write 0 = .ok (.iload_n 1, 1) := by decide +kernel
theorem dX7_write_1 : decode cX7_write 1 = .ok (.bipush 32, 2) := by decide +kernel
theorem dX7_write_3 : decode cX7_write 3 = .ok (.bipush 126, 2) := by decide +kernel
theorem dX7_write_5 : decode cX7_write 5 = .ok (.invokestatic 78, 3) := by decide +kernel
theorem dX7_write_8 : decode cX7_write 8 = .ok (.ifCond .ne 5, 3) := by decide +kernel
theorem dX7_write_11 : decode cX7_write 11 = .ok (.iconst (-1), 1) := by decide +kernel
theorem dX7_write_12 : decode cX7_write 12 = .ok (.ireturn, 1) := by decide +kernel
theorem dX7_write_13 : decode cX7_write 13 = .ok (.aload_n 0, 1) := by decide +kernel
theorem dX7_write_14 : decode cX7_write 14 = .ok (.getfield 10, 3) := by decide +kernel
theorem dX7_write_17 : decode cX7_write 17 = .ok (.invokevirtual 82, 3) := by decide +kernel
theorem dX7_write_20 : decode cX7_write 20 = .ok (.ifCond .eq 6, 3) := by decide +kernel
theorem dX7_write_23 : decode cX7_write 23 = .ok (.bipush (-3), 2) := by decide +kernel
theorem dX7_write_25 : decode cX7_write 25 = .ok (.ireturn, 1) := by decide +kernel
theorem dX7_write_26 : decode cX7_write 26 = .ok (.aload_n 0, 1) := by decide +kernel
theorem dX7_write_27 : decode cX7_write 27 = .ok (.getfield 10, 3) := by decide +kernel
theorem dX7_write_30 : decode cX7_write 30 = .ok (.iload_n 1, 1) := by decide +kernel
theorem dX7_write_31 : decode cX7_write 31 = .ok (.invokevirtual 68, 3) := by decide +kernel
theorem dX7_write_34 : decode cX7_write 34 = .ok (.aload_n 0, 1) := by decide +kernel
theorem dX7_write_35 : decode cX7_write 35 = .ok (.getfield 10, 3) := by decide +kernel
theorem dX7_write_38 : decode cX7_write 38 = .ok (.invokevirtual 86, 3) := by decide +kernel
theorem dX7_write_41 : decode cX7_write 41 = .ok (.ireturn, 1) := by decide +kernel
set_option maxRecDepth 20000 in
theorem ggX7_wipe_X2_size : GoodIn wsX7_wipe wsX2_size := goodIn_r _ [6, 7, 19, 20] (by decide +kernel) (by decide +kernel)
set_option maxRecDepth 20000 in
theorem gX7_wipe_X2_size : GoodIn wsX7_wipe (wsV RX7 86 RX2 yX2_size wsX2_size) := goodIn_app (goodIn_of _ (by decide +kernel)) ggX7_wipe_X2_size
set_option maxRecDepth 20000 in
theorem ggX7_wipe_X2_clear : GoodIn wsX7_wipe wsX2_clear := goodIn_r _ [11, 7, 19, 20] (by decide +kernel) (by decide +kernel)
set_option maxRecDepth 20000 in
theorem gX7_wipe_X2_clear : GoodIn wsX7_wipe (wsV RX7 75 RX2 yX2_clear wsX2_clear) := goodIn_app (goodIn_of _ (by decide +kernel)) ggX7_wipe_X2_clear
theorem dX7_wipe_0 : decode cX7_wipe 0 = .ok (.aload_n 0, 1) := by decide +kernel
theorem dX7_wipe_1 : decode cX7_wipe 1 = .ok (.getfield 10, 3) := by decide +kernel
theorem dX7_wipe_4 : decode cX7_wipe 4 = .ok (.invokevirtual 86, 3) := by decide +kernel
theorem dX7_wipe_7 : decode cX7_wipe 7 = .ok (.istore_n 1, 1) := by decide +kernel
theorem dX7_wipe_8 : decode cX7_wipe 8 = .ok (.aload_n 0, 1) := by decide +kernel
theorem dX7_wipe_9 : decode cX7_wipe 9 = .ok (.getfield 10, 3) := by decide +kernel
theorem dX7_wipe_12 : decode cX7_wipe 12 = .ok (.invokevirtual 75, 3) := by decide +kernel
theorem dX7_wipe_15 : decode cX7_wipe 15 = .ok (.iload_n 1, 1) := by decide +kernel
theorem dX7_wipe_16 : decode cX7_wipe 16 = .ok (.ireturn, 1) := by decide +kernel
set_option maxRecDepth 20000 in
theorem ggX7_fault_X6_firstFault : GoodIn wsX7_fault wsX6_firstFault := goodIn_r _ [7, 8, 9, 10, 11, 12, 13, 14, 15, 16, 17, 18, 19, 20, 21, 22, 23, 24, 25, 26, 27, 28, 29, 30, 31, 32, 33, 34, 35, 36, 37, 38, 39, 6, 40, 41, 42, 43, 44, 45, 46, 47, 48, 49, 50, 51, 52, 53, 54, 55, 56, 57, 58, 59, 60, 61, 62, 63, 64, 65, 66, 67, 68, 69, 70, 71, 72, 73, 74, 75, 76, 77, 78, 79, 80, 81, 82, 83, 84, 85, 86, 87, 88, 89, 90, 91, 92, 93, 94, 95, 96, 97, 98, 99, 100, 101, 102, 103, 104, 105, 106, 107, 108, 109, 110, 111, 112, 113, 114, 115, 116, 117, 118, 119, 120, 121, 122, 130, 131, 132, 133, 134, 135, 136, 137, 138, 139, 140, 141, 142] (by decide +kernel) (by decide +kernel)
set_option maxRecDepth 20000 in
theorem gX7_fault_X6_firstFault : GoodIn wsX7_fault (wsV RX7 89 RX6 yX6_firstFault wsX6_firstFault) := goodIn_app (goodIn_of _ (by decide +kernel)) ggX7_fault_X6_firstFault
theorem dX7_fault_0 : decode cX7_fault 0 = .ok (.aload_n 0, 1) := by decide +kernel
theorem dX7_fault_1 : decode cX7_fault 1 = .ok (.getfield 19, 3) := by decide +kernel
theorem dX7_fault_4 : decode cX7_fault 4 = .ok (.aload_n 0, 1) := by decide +kernel
theorem dX7_fault_5 : decode cX7_fault 5 = .ok (.getfield 10, 3) := by decide +kernel
theorem dX7_fault_8 : decode cX7_fault 8 = .ok (.invokevirtual 89, 3) := by decide +kernel
theorem dX7_fault_11 : decode cX7_fault 11 = .ok (.ireturn, 1) := by decide +kernel
set_option maxRecDepth 20000 in
theorem ggX7_lay_X7_layText : GoodIn wsX7_lay wsX7_layText := goodIn_r _ [5, 6, 7, 8, 9, 10, 11, 12, 13, 14, 15, 16, 17, 18, 19, 20, 21, 22, 23, 24, 25, 26, 27, 28, 29, 30, 31, 32, 33, 34, 35, 36, 37, 38, 39, 40, 41, 42, 43, 44, 45, 46, 47, 48, 49, 50, 51, 52, 53, 4, 54, 55, 56, 57, 58, 59, 60, 61, 62, 63, 64, 65, 66, 67, 68, 69, 70, 71, 72, 73, 74, 75, 76, 77, 78, 79, 80, 81, 82, 83, 84, 85, 86, 87, 88, 89, 90, 91, 92, 93, 94, 95, 96, 97, 98, 99, 100, 101, 102, 103, 104, 105, 106, 107, 108, 109, 110, 111, 112, 113, 114, 115, 116, 117, 118, 119, 120, 121, 122, 123, 124, 125, 126, 127, 128, 129, 130, 131, 132, 133, 134, 135, 136, 137, 138, 139, 140, 141, 142, 143, 144, 145, 146, 147, 148, 149, 150, 151, 152, 153, 154, 155, 156, 157, 158, 159, 160, 161, 162, 163, 164, 165, 166, 167, 168, 169, 170, 171, 172, 173, 174, 175, 176, 177, 178, 179, 180, 181, 182, 183, 184, 185, 186, 187, 188, 189, 190, 191, 192, 193, 194, 195, 196, 197, 198, 199, 200, 201, 202, 203, 204, 205, 206, 207, 208, 209, 210, 211, 212, 213, 214, 215, 216, 217, 218, 219, 220, 221, 222, 223, 224, 225, 226, 227, 228, 229, 230, 231, 232, 233, 234, 235, 236, 237, 238, 239, 240, 241, 242, 243, 244, 245, 246, 247, 248, 249, 250, 251, 252, 253, 254, 255, 256, 257, 258, 259, 260] (by decide +kernel) (by decide +kernel)
set_option maxRecDepth 20000 in
theorem gX7_lay_X7_layText : GoodIn wsX7_lay (wsV RX7 72 RX7 yX7_layText wsX7_layText) := goodIn_app (goodIn_of _ (by decide +kernel)) ggX7_lay_X7_layText
theorem dX7_lay_0 : decode cX7_lay 0 = .ok (.aload_n 0, 1) := by decide +kernel
theorem dX7_lay_1 : decode cX7_lay 1 = .ok (.invokevirtual 72, 3) := by decide +kernel
theorem dX7_lay_4 : decode cX7_lay 4 = .ok (.ireturn, 1) := by decide +kernel
set_option maxRecDepth 20000 in
theorem ggX7_link_X5_isPair : GoodIn wsX7_link wsX5_isPair := goodIn_r _ [6, 7, 8, 9, 5, 10, 11, 160, 161, 162, 163, 164, 165, 166, 167, 168] (by decide +kernel) (by decide +kernel)
set_option maxRecDepth 20000 in
theorem gX7_link_X5_isPair : GoodIn wsX7_link (wsV RX7 93 RX5 yX5_isPair wsX5_isPair) := goodIn_app (goodIn_of _ (by decide +kernel)) ggX7_link_X5_isPair
set_option maxRecDepth 20000 in
theorem ggX7_link_X7_isWithin : GoodIn wsX7_link wsX7_isWithin := goodIn_r _ [15] (by decide +kernel) (by decide +kernel)
set_option maxRecDepth 20000 in
theorem gX7_link_X7_isWithin : GoodIn wsX7_link (va_wsS RX7 78 yX7_isWithin wsX7_isWithin) := goodIn_app (goodIn_of _ (by decide +kernel)) ggX7_link_X7_isWithin
set_option maxRecDepth 20000 in
theorem ggX7_link_X5_lengthOf : GoodIn wsX7_link wsX5_lengthOf := goodIn_r _ [19, 20, 160, 161, 162, 163, 164, 165, 166, 167, 168] (by decide +kernel) (by decide +kernel)
set_option maxRecDepth 20000 in
theorem gX7_link_X5_lengthOf : GoodIn wsX7_link (wsV RX7 97 RX5 yX5_lengthOf wsX5_lengthOf) := goodIn_app (goodIn_of _ (by decide +kernel)) ggX7_link_X5_lengthOf
set_option maxRecDepth 20000 in
theorem ggX7_link_X5_links : GoodIn wsX7_link wsX5_links := goodIn_r _ [24, 25, 160, 161, 162, 163, 164, 165, 166, 167, 168] (by decide +kernel) (by decide +kernel)
set_option maxRecDepth 20000 in
theorem gX7_link_X5_links : GoodIn wsX7_link (wsV RX7 101 RX5 yX5_links wsX5_links) := goodIn_app (goodIn_of _ (by decide +kernel)) ggX7_link_X5_links
set_option maxRecDepth 20000 in
theorem ggX7_link_X7_changeLength : GoodIn wsX7_link wsX7_changeLength := goodIn_r _ [29, 30, 1, 31, 32, 33, 34, 35, 36, 37, 38, 39, 40, 41, 42, 43, 44, 45, 46, 47, 48, 49, 50, 51, 52, 53, 54, 55, 56, 17, 18, 5, 19, 20, 57, 58, 59, 60, 25, 61, 62, 63, 64, 14, 65, 66, 67, 68, 69, 70, 71, 72, 73, 74, 75, 76, 77, 78, 11, 79, 80, 81, 82, 83, 84, 85, 86, 87, 88, 89, 90, 91, 92, 93, 94, 95, 96, 97, 98, 99, 100, 101, 102, 103, 104, 105, 106, 107, 108, 109, 110, 111, 112, 113, 114, 115, 116, 117, 118, 119, 120, 121, 122, 123, 124, 125, 126, 127, 128, 129, 130, 131, 132, 133, 134, 135, 136, 137, 138, 139, 140, 141, 142, 143, 144, 145, 146, 147, 148, 149, 150, 151, 152, 153, 154, 155, 156, 157, 158, 159, 169, 170, 171, 172, 173, 174, 175, 176, 177, 178, 179, 160, 161, 162, 163, 164, 165, 166, 167, 168, 180, 181, 182, 183, 184, 185, 186] (by decide +kernel) (by decide +kernel)
set_option maxRecDepth 20000 in
theorem gX7_link_X7_changeLength : GoodIn wsX7_link (wsV RX7 104 RX7 yX7_changeLength wsX7_changeLength) := goodIn_app (goodIn_of _ (by decide +kernel)) ggX7_link_X7_changeLength
theorem dX7_link_0 : decode cX7_link 0 = .ok (.aload_n 0, 1) := by decide +kernel
theorem dX7_link_1 : decode cX7_link 1 = .ok (.getfield 26, 3) := by decide +kernel
theorem dX7_link_4 : decode cX7_link 4 = .ok (.iload_n 1, 1) := by decide +kernel
theorem dX7_link_5 : decode cX7_link 5 = .ok (.iload_n 2, 1) := by decide +kernel
theorem dX7_link_6 : decode cX7_link 6 = .ok (.invokevirtual 93, 3) := by decide +kernel
theorem dX7_link_9 : decode cX7_link 9 = .ok (.ifCond .eq 13, 3) := by decide +kernel
theorem dX7_link_12 : decode cX7_link 12 = .ok (.iload_n 3, 1) := by decide +kernel
theorem dX7_link_13 : decode cX7_link 13 = .ok (.iconst 1, 1) := by decide +kernel
theorem dX7_link_14 : decode cX7_link 14 = .ok (.bipush 9, 2) := by decide +kernel
theorem dX7_link_16 : decode cX7_link 16 = .ok (.invokestatic 78, 3) := by decide +kernel
theorem dX7_link_19 : decode cX7_link 19 = .ok (.ifCond .ne 5, 3) := by decide +kernel
theorem dX7_link_22 : decode cX7_link 22 = .ok (.iconst (-1), 1) := by decide +kernel
theorem dX7_link_23 : decode cX7_link 23 = .ok (.ireturn, 1) := by decide +kernel
theorem dX7_link_24 : decode cX7_link 24 = .ok (.aload_n 0, 1) := by decide +kernel
theorem dX7_link_25 : decode cX7_link 25 = .ok (.getfield 26, 3) := by decide +kernel
theorem dX7_link_28 : decode cX7_link 28 = .ok (.iload_n 1, 1) := by decide +kernel
theorem dX7_link_29 : decode cX7_link 29 = .ok (.iload_n 2, 1) := by decide +kernel
theorem dX7_link_30 : decode cX7_link 30 = .ok (.invokevirtual 97, 3) := by decide +kernel
theorem dX7_link_33 : decode cX7_link 33 = .ok (.istore 4, 2) := by decide +kernel
theorem dX7_link_35 : decode cX7_link 35 = .ok (.iload 4, 2) := by decide +kernel
theorem dX7_link_37 : decode cX7_link 37 = .ok (.iload_n 3, 1) := by decide +kernel
theorem dX7_link_38 : decode cX7_link 38 = .ok (.if_icmp .ne 6, 3) := by decide +kernel
theorem dX7_link_41 : decode cX7_link 41 = .ok (.bipush (-2), 2) := by decide +kernel
theorem dX7_link_43 : decode cX7_link 43 = .ok (.ireturn, 1) := by decide +kernel
theorem dX7_link_44 : decode cX7_link 44 = .ok (.iload 4, 2) := by decide +kernel
theorem dX7_link_46 : decode cX7_link 46 = .ok (.ifCond .ne 18, 3) := by decide +kernel
theorem dX7_link_49 : decode cX7_link 49 = .ok (.aload_n 0, 1) := by decide +kernel
theorem dX7_link_50 : decode cX7_link 50 = .ok (.getfield 26, 3) := by decide +kernel
theorem dX7_link_53 : decode cX7_link 53 = .ok (.invokevirtual 101, 3) := by decide +kernel
theorem dX7_link_56 : decode cX7_link 56 = .ok (.bipush 40, 2) := by decide +kernel
theorem dX7_link_58 : decode cX7_link 58 = .ok (.if_icmp .lt 6, 3) := by decide +kernel
theorem dX7_link_61 : decode cX7_link 61 = .ok (.bipush (-3), 2) := by decide +kernel
theorem dX7_link_63 : decode cX7_link 63 = .ok (.ireturn, 1) := by decide +kernel
theorem dX7_link_64 : decode cX7_link 64 = .ok (.aload_n 0, 1) := by decide +kernel
theorem dX7_link_65 : decode cX7_link 65 = .ok (.iload_n 1, 1) := by decide +kernel
theorem dX7_link_66 : decode cX7_link 66 = .ok (.iload_n 2, 1) := by decide +kernel
theorem dX7_link_67 : decode cX7_link 67 = .ok (.iload_n 3, 1) := by decide +kernel
theorem dX7_link_68 : decode cX7_link 68 = .ok (.invokevirtual 104, 3) := by decide +kernel
theorem dX7_link_71 : decode cX7_link 71 = .ok (.aload_n 0, 1) := by decide +kernel
theorem dX7_link_72 : decode cX7_link 72 = .ok (.getfield 26, 3) := by decide +kernel
theorem dX7_link_75 : decode cX7_link 75 = .ok (.invokevirtual 101, 3) := by decide +kernel
theorem dX7_link_78 : decode cX7_link 78 = .ok (.ireturn, 1) := by decide +kernel
set_option maxRecDepth 20000 in
theorem ggX7_unlink_X5_isPair : GoodIn wsX7_unlink wsX5_isPair := goodIn_r _ [6, 7, 8, 9, 5, 10, 11, 153, 154, 155, 156, 157, 158, 159, 160, 161] (by decide +kernel) (by decide +kernel)
set_option maxRecDepth 20000 in
theorem gX7_unlink_X5_isPair : GoodIn wsX7_unlink (wsV RX7 93 RX5 yX5_isPair wsX5_isPair) := goodIn_app (goodIn_of _ (by decide +kernel)) ggX7_unlink_X5_isPair
set_option maxRecDepth 20000 in
theorem ggX7_unlink_X5_lengthOf : GoodIn wsX7_unlink wsX5_lengthOf := goodIn_r _ [15, 16, 153, 154, 155, 156, 157, 158, 159, 160, 161] (by decide +kernel) (by decide +kernel)
set_option maxRecDepth 20000 in
theorem gX7_unlink_X5_lengthOf : GoodIn wsX7_unlink (wsV RX7 97 RX5 yX5_lengthOf wsX5_lengthOf) := goodIn_app (goodIn_of _ (by decide +kernel)) ggX7_unlink_X5_lengthOf
set_option maxRecDepth 20000 in
theorem ggX7_unlink_X7_changeLength : GoodIn wsX7_unlink wsX7_changeLength := goodIn_r _ [21, 22, 1, 23, 24, 25, 26, 27, 28, 29, 30, 31, 32, 33, 34, 35, 36, 37, 38, 39, 40, 41, 42, 43, 44, 45, 46, 47, 48, 13, 14, 5, 15, 16, 49, 50, 51, 52, 53, 54, 55, 56, 57, 20, 58, 59, 60, 61, 62, 63, 64, 65, 66, 67, 68, 69, 70, 71, 11, 72, 73, 74, 75, 76, 77, 78, 79, 80, 81, 82, 83, 84, 85, 86, 87, 88, 89, 90, 91, 92, 93, 94, 95, 96, 97, 98, 99, 100, 101, 102, 103, 104, 105, 106, 107, 108, 109, 110, 111, 112, 113, 114, 115, 116, 117, 118, 119, 120, 121, 122, 123, 124, 125, 126, 127, 128, 129, 130, 131, 132, 133, 134, 135, 136, 137, 138, 139, 140, 141, 142, 143, 144, 145, 146, 147, 148, 149, 150, 151, 152, 162, 163, 164, 165, 166, 167, 168, 169, 170, 171, 172, 153, 154, 155, 156, 157, 158, 159, 160, 161, 173, 174, 175, 176, 177, 178, 179] (by decide +kernel) (by decide +kernel)
set_option maxRecDepth 20000 in
theorem gX7_unlink_X7_changeLength : GoodIn wsX7_unlink (wsV RX7 104 RX7 yX7_changeLength wsX7_changeLength) := goodIn_app (goodIn_of _ (by decide +kernel)) ggX7_unlink_X7_changeLength
theorem dX7_unlink_0 : decode cX7_unlink 0 = .ok (.aload_n 0, 1) := by decide +kernel
theorem dX7_unlink_1 : decode cX7_unlink 1 = .ok (.getfield 26, 3) := by decide +kernel
theorem dX7_unlink_4 : decode cX7_unlink 4 = .ok (.iload_n 1, 1) := by decide +kernel
theorem dX7_unlink_5 : decode cX7_unlink 5 = .ok (.iload_n 2, 1) := by decide +kernel
theorem dX7_unlink_6 : decode cX7_unlink 6 = .ok (.invokevirtual 93, 3) := by decide +kernel
theorem dX7_unlink_9 : decode cX7_unlink 9 = .ok (.ifCond .ne 5, 3) := by decide +kernel
theorem dX7_unlink_12 : decode cX7_unlink 12 = .ok (.iconst (-1), 1) := by decide +kernel
theorem dX7_unlink_13 : decode cX7_unlink 13 = .ok (.ireturn, 1) := by decide +kernel
theorem dX7_unlink_14 : decode cX7_unlink 14 = .ok (.aload_n 0, 1) := by decide +kernel
theorem dX7_unlink_15 : decode cX7_unlink 15 = .ok (.getfield 26, 3) := by decide +kernel
theorem dX7_unlink_18 : decode cX7_unlink 18 = .ok (.iload_n 1, 1) := by decide +kernel
theorem dX7_unlink_19 : decode cX7_unlink 19 = .ok (.iload_n 2, 1) := by decide +kernel
theorem dX7_unlink_20 : decode cX7_unlink 20 = .ok (.invokevirtual 97, 3) := by decide +kernel
theorem dX7_unlink_23 : decode cX7_unlink 23 = .ok (.istore_n 3, 1) := by decide +kernel
theorem dX7_unlink_24 : decode cX7_unlink 24 = .ok (.iload_n 3, 1) := by decide +kernel
theorem dX7_unlink_25 : decode cX7_unlink 25 = .ok (.ifCond .ne 6, 3) := by decide +kernel
theorem dX7_unlink_28 : decode cX7_unlink 28 = .ok (.bipush (-2), 2) := by decide +kernel
theorem dX7_unlink_30 : decode cX7_unlink 30 = .ok (.ireturn, 1) := by decide +kernel
theorem dX7_unlink_31 : decode cX7_unlink 31 = .ok (.aload_n 0, 1) := by decide +kernel
theorem dX7_unlink_32 : decode cX7_unlink 32 = .ok (.iload_n 1, 1) := by decide +kernel
theorem dX7_unlink_33 : decode cX7_unlink 33 = .ok (.iload_n 2, 1) := by decide +kernel
theorem dX7_unlink_34 : decode cX7_unlink 34 = .ok (.iconst 0, 1) := by decide +kernel
theorem dX7_unlink_35 : decode cX7_unlink 35 = .ok (.invokevirtual 104, 3) := by decide +kernel
theorem dX7_unlink_38 : decode cX7_unlink 38 = .ok (.iload_n 3, 1) := by decide +kernel
theorem dX7_unlink_39 : decode cX7_unlink 39 = .ok (.ireturn, 1) := by decide +kernel
set_option maxRecDepth 20000 in
theorem ggX7_delay_X5_isPlace : GoodIn wsX7_delay wsX5_isPlace := goodIn_r _ [8, 9, 131, 132, 133, 134, 135, 136, 137, 138, 139] (by decide +kernel) (by decide +kernel)
set_option maxRecDepth 20000 in
theorem gX7_delay_X5_isPlace : GoodIn wsX7_delay (wsV RX7 108 RX5 yX5_isPlace wsX5_isPlace) := goodIn_app (goodIn_of _ (by decide +kernel)) ggX7_delay_X5_isPlace
set_option maxRecDepth 20000 in
theorem ggX7_delay_X7_isWithin : GoodIn wsX7_delay wsX7_isWithin := goodIn_r _ [13] (by decide +kernel) (by decide +kernel)
set_option maxRecDepth 20000 in
theorem gX7_delay_X7_isWithin : GoodIn wsX7_delay (va_wsS RX7 78 yX7_isWithin wsX7_isWithin) := goodIn_app (goodIn_of _ (by decide +kernel)) ggX7_delay_X7_isWithin
set_option maxRecDepth 20000 in
theorem ggX7_delay_X1_delayOf : GoodIn wsX7_delay wsX1_delayOf := goodIn_r _ [18, 19, 140, 141, 142, 143, 144, 145] (by decide +kernel) (by decide +kernel)
set_option maxRecDepth 20000 in
theorem gX7_delay_X1_delayOf : GoodIn wsX7_delay (wsV RX7 112 RX1 yX1_delayOf wsX1_delayOf) := goodIn_app (goodIn_of _ (by decide +kernel)) ggX7_delay_X1_delayOf
set_option maxRecDepth 20000 in
theorem ggX7_delay_X3_keepDelay : GoodIn wsX7_delay wsX3_keepDelay := goodIn_r _ [24, 25, 26, 27, 23, 28, 29, 30, 31, 32, 33, 34, 35, 36, 37, 38, 39, 40, 41, 42, 43, 44, 45, 46, 47, 48, 7, 49, 50, 51, 52, 53, 54, 55, 56, 57, 58, 59, 60, 61, 62, 63, 64, 65, 66, 67, 68, 69, 70, 71, 72, 73, 74, 75, 76, 77, 78, 146, 147, 148, 149, 150, 151, 152, 153, 154, 155, 156, 131, 132, 133, 134, 135, 136, 137, 138, 139] (by decide +kernel) (by decide +kernel)
set_option maxRecDepth 20000 in
theorem gX7_delay_X3_keepDelay : GoodIn wsX7_delay (wsV RX7 116 RX3 yX3_keepDelay wsX3_keepDelay) := goodIn_app (goodIn_of _ (by decide +kernel)) ggX7_delay_X3_keepDelay
set_option maxRecDepth 20000 in
theorem ggX7_delay_X5_tell : GoodIn wsX7_delay wsX5_tell := goodIn_r _ [82, 50, 60, 78, 131, 132, 133, 134, 135, 136, 137, 138, 139] (by decide +kernel) (by decide +kernel)
set_option maxRecDepth 20000 in
theorem gX7_delay_X5_tell : GoodIn wsX7_delay (wsV RX7 120 RX5 yX5_tell wsX5_tell) := goodIn_app (goodIn_of _ (by decide +kernel)) ggX7_delay_X5_tell
set_option maxRecDepth 20000 in
theorem ggX7_delay_X5_z : GoodIn wsX7_delay wsX5_z := goodIn_r _ [54, 55, 131, 132, 133, 134, 135, 136, 137, 138, 139] (by decide +kernel) (by decide +kernel)
set_option maxRecDepth 20000 in
theorem gX7_delay_X5_z : GoodIn wsX7_delay (wsV RX7 123 RX5 yX5_z wsX5_z) := goodIn_app (goodIn_of _ (by decide +kernel)) ggX7_delay_X5_z
set_option maxRecDepth 20000 in
theorem ggX7_delay_X1_settleBy : GoodIn wsX7_delay wsX1_settleBy := goodIn_r _ [87, 88, 19, 89, 90, 91, 92, 93, 7, 94, 9, 95, 57, 58, 59, 50, 60, 61, 62, 63, 64, 65, 66, 67, 68, 69, 70, 71, 72, 73, 96, 75, 76, 77, 78, 97, 98, 99, 17, 100, 101, 102, 103, 34, 104, 105, 106, 107, 108, 109, 110, 111, 112, 113, 114, 115, 116, 117, 118, 119, 120, 121, 122, 123, 140, 141, 142, 143, 144, 145, 131, 132, 133, 134, 135, 136, 137, 138, 139, 157] (by decide +kernel) (by decide +kernel)
set_option maxRecDepth 20000 in
theorem gX7_delay_X1_settleBy : GoodIn wsX7_delay (wsV RX7 126 RX1 yX1_settleBy wsX1_settleBy) := goodIn_app (goodIn_of _ (by decide +kernel)) ggX7_delay_X1_settleBy
theorem dX7_delay_0 : decode cX7_delay 0 = .ok (.aload_n 0, 1) := by decide +kernel
theorem dX7_delay_1 : decode cX7_delay 1 = .ok (.getfield 26, 3) := by decide +kernel
theorem dX7_delay_4 : decode cX7_delay 4 = .ok (.iload_n 1, 1) := by decide +kernel
theorem dX7_delay_5 : decode cX7_delay 5 = .ok (.invokevirtual 108, 3) := by decide +kernel
theorem dX7_delay_8 : decode cX7_delay 8 = .ok (.ifCond .eq 24, 3) := by decide +kernel
theorem dX7_delay_11 : decode cX7_delay 11 = .ok (.iload_n 2, 1) := by decide +kernel
theorem dX7_delay_12 : decode cX7_delay 12 = .ok (.iconst 0, 1) := by decide +kernel
theorem dX7_delay_13 : decode cX7_delay 13 = .ok (.bipush 30, 2) := by decide +kernel
theorem dX7_delay_15 : decode cX7_delay 15 = .ok (.invokestatic 78, 3) := by decide +kernel
theorem dX7_delay_18 : decode cX7_delay 18 = .ok (.ifCond .eq 14, 3) := by decide +kernel
theorem dX7_delay_21 : decode cX7_delay 21 = .ok (.iload_n 3, 1) := by decide +kernel
theorem dX7_delay_22 : decode cX7_delay 22 = .ok (.iconst 0, 1) := by decide +kernel
theorem dX7_delay_23 : decode cX7_delay 23 = .ok (.sipush 999, 3) := by decide +kernel
theorem dX7_delay_26 : decode cX7_delay 26 = .ok (.invokestatic 78, 3) := by decide +kernel
theorem dX7_delay_29 : decode cX7_delay 29 = .ok (.ifCond .ne 5, 3) := by decide +kernel
theorem dX7_delay_32 : decode cX7_delay 32 = .ok (.iconst (-1), 1) := by decide +kernel
theorem dX7_delay_33 : decode cX7_delay 33 = .ok (.ireturn, 1) := by decide +kernel
theorem dX7_delay_34 : decode cX7_delay 34 = .ok (.aload_n 0, 1) := by decide +kernel
theorem dX7_delay_35 : decode cX7_delay 35 = .ok (.getfield 42, 3) := by decide +kernel
theorem dX7_delay_38 : decode cX7_delay 38 = .ok (.iload_n 1, 1) := by decide +kernel
theorem dX7_delay_39 : decode cX7_delay 39 = .ok (.invokevirtual 112, 3) := by decide +kernel
theorem dX7_delay_42 : decode cX7_delay 42 = .ok (.istore 4, 2) := by decide +kernel
theorem dX7_delay_44 : decode cX7_delay 44 = .ok (.aload_n 0, 1) := by decide +kernel
theorem dX7_delay_45 : decode cX7_delay 45 = .ok (.getfield 52, 3) := by decide +kernel
theorem dX7_delay_48 : decode cX7_delay 48 = .ok (.aload_n 0, 1) := by decide +kernel
theorem dX7_delay_49 : decode cX7_delay 49 = .ok (.getfield 26, 3) := by decide +kernel
theorem dX7_delay_52 : decode cX7_delay 52 = .ok (.iload_n 1, 1) := by decide +kernel
theorem dX7_delay_53 : decode cX7_delay 53 = .ok (.invokevirtual 116, 3) := by decide +kernel
theorem dX7_delay_56 : decode cX7_delay 56 = .ok (.aload_n 0, 1) := by decide +kernel
theorem dX7_delay_57 : decode cX7_delay 57 = .ok (.getfield 26, 3) := by decide +kernel
theorem dX7_delay_60 : decode cX7_delay 60 = .ok (.iload_n 1, 1) := by decide +kernel
theorem dX7_delay_61 : decode cX7_delay 61 = .ok (.iload_n 2, 1) := by decide +kernel
theorem dX7_delay_62 : decode cX7_delay 62 = .ok (.iload_n 3, 1) := by decide +kernel
theorem dX7_delay_63 : decode cX7_delay 63 = .ok (.invokevirtual 120, 3) := by decide +kernel
theorem dX7_delay_66 : decode cX7_delay 66 = .ok (.aload_n 0, 1) := by decide +kernel
theorem dX7_delay_67 : decode cX7_delay 67 = .ok (.getfield 42, 3) := by decide +kernel
theorem dX7_delay_70 : decode cX7_delay 70 = .ok (.aload_n 0, 1) := by decide +kernel
theorem dX7_delay_71 : decode cX7_delay 71 = .ok (.getfield 26, 3) := by decide +kernel
theorem dX7_delay_74 : decode cX7_delay 74 = .ok (.invokevirtual 123, 3) := by decide +kernel
theorem dX7_delay_77 : decode cX7_delay 77 = .ok (.invokevirtual 126, 3) := by decide +kernel
theorem dX7_delay_80 : decode cX7_delay 80 = .ok (.iload 4, 2) := by decide +kernel
theorem dX7_delay_82 : decode cX7_delay 82 = .ok (.ireturn, 1) := by decide +kernel
set_option maxRecDepth 20000 in
theorem ggX7_drawn_X5_isPlace : GoodIn wsX7_drawn wsX5_isPlace := goodIn_r _ [8, 9, 128, 129, 130, 131, 132, 133, 134, 135, 136] (by decide +kernel) (by decide +kernel)
set_option maxRecDepth 20000 in
theorem gX7_drawn_X5_isPlace : GoodIn wsX7_drawn (wsV RX7 108 RX5 yX5_isPlace wsX5_isPlace) := goodIn_app (goodIn_of _ (by decide +kernel)) ggX7_drawn_X5_isPlace
set_option maxRecDepth 20000 in
theorem ggX7_drawn_X5_isTold : GoodIn wsX7_drawn wsX5_isTold := goodIn_r _ [13, 14, 128, 129, 130, 131, 132, 133, 134, 135, 136] (by decide +kernel) (by decide +kernel)
set_option maxRecDepth 20000 in
theorem gX7_drawn_X5_isTold : GoodIn wsX7_drawn (wsV RX7 129 RX5 yX5_isTold wsX5_isTold) := goodIn_app (goodIn_of _ (by decide +kernel)) ggX7_drawn_X5_isTold
set_option maxRecDepth 20000 in
theorem ggX7_drawn_X3_keepDelay : GoodIn wsX7_drawn wsX3_keepDelay := goodIn_r _ [19, 20, 21, 22, 18, 23, 24, 25, 26, 27, 28, 29, 30, 31, 32, 33, 34, 35, 36, 37, 38, 39, 40, 41, 11, 12, 7, 13, 14, 42, 43, 44, 45, 46, 47, 48, 49, 50, 51, 52, 53, 54, 55, 56, 57, 58, 59, 60, 61, 62, 63, 64, 65, 66, 67, 68, 69, 137, 138, 139, 140, 141, 142, 143, 144, 145, 146, 147, 128, 129, 130, 131, 132, 133, 134, 135, 136] (by decide +kernel) (by decide +kernel)
set_option maxRecDepth 20000 in
theorem gX7_drawn_X3_keepDelay : GoodIn wsX7_drawn (wsV RX7 116 RX3 yX3_keepDelay wsX3_keepDelay) := goodIn_app (goodIn_of _ (by decide +kernel)) ggX7_drawn_X3_keepDelay
set_option maxRecDepth 20000 in
theorem ggX7_drawn_X5_untell : GoodIn wsX7_drawn wsX5_untell := goodIn_r _ [73, 14, 51, 69, 128, 129, 130, 131, 132, 133, 134, 135, 136] (by decide +kernel) (by decide +kernel)
set_option maxRecDepth 20000 in
theorem gX7_drawn_X5_untell : GoodIn wsX7_drawn (wsV RX7 132 RX5 yX5_untell wsX5_untell) := goodIn_app (goodIn_of _ (by decide +kernel)) ggX7_drawn_X5_untell
set_option maxRecDepth 20000 in
theorem ggX7_drawn_X5_z : GoodIn wsX7_drawn wsX5_z := goodIn_r _ [45, 46, 128, 129, 130, 131, 132, 133, 134, 135, 136] (by decide +kernel) (by decide +kernel)
set_option maxRecDepth 20000 in
theorem gX7_drawn_X5_z : GoodIn wsX7_drawn (wsV RX7 123 RX5 yX5_z wsX5_z) := goodIn_app (goodIn_of _ (by decide +kernel)) ggX7_drawn_X5_z
set_option maxRecDepth 20000 in
theorem ggX7_drawn_X1_settleBy : GoodIn wsX7_drawn wsX1_settleBy := goodIn_r _ [79, 80, 81, 82, 83, 84, 85, 86, 7, 87, 9, 88, 48, 49, 50, 14, 51, 52, 53, 54, 55, 56, 57, 58, 59, 60, 61, 62, 63, 64, 89, 66, 67, 68, 69, 90, 91, 92, 78, 93, 94, 95, 96, 29, 97, 98, 99, 100, 101, 102, 103, 104, 105, 106, 107, 108, 109, 110, 111, 112, 113, 114, 115, 116, 148, 149, 150, 151, 152, 153, 128, 129, 130, 131, 132, 133, 134, 135, 136, 154] (by decide +kernel) (by decide +kernel)
set_option maxRecDepth 20000 in
theorem gX7_drawn_X1_settleBy : GoodIn wsX7_drawn (wsV RX7 126 RX1 yX1_settleBy wsX1_settleBy) := goodIn_app (goodIn_of _ (by decide +kernel)) ggX7_drawn_X1_settleBy
set_option maxRecDepth 20000 in
theorem ggX7_drawn_X1_delayOf : GoodIn wsX7_drawn wsX1_delayOf := goodIn_r _ [120, 81, 148, 149, 150, 151, 152, 153] (by decide +kernel) (by decide +kernel)
set_option maxRecDepth 20000 in
theorem gX7_drawn_X1_delayOf : GoodIn wsX7_drawn (wsV RX7 112 RX1 yX1_delayOf wsX1_delayOf) := goodIn_app (goodIn_of _ (by decide +kernel)) ggX7_drawn_X1_delayOf
theorem dX7_drawn_0 : decode cX7_drawn 0 = .ok (.aload_n 0, 1) := by decide +kernel
theorem dX7_drawn_1 : decode cX7_drawn 1 = .ok (.getfield 26, 3) := by decide +kernel
theorem dX7_drawn_4 : decode cX7_drawn 4 = .ok (.iload_n 1, 1) := by decide +kernel
theorem dX7_drawn_5 : decode cX7_drawn 5 = .ok (.invokevirtual 108, 3) := by decide +kernel
theorem dX7_drawn_8 : decode cX7_drawn 8 = .ok (.ifCond .ne 5, 3) := by decide +kernel
theorem dX7_drawn_11 : decode cX7_drawn 11 = .ok (.iconst (-1), 1) := by decide +kernel
theorem dX7_drawn_12 : decode cX7_drawn 12 = .ok (.ireturn, 1) := by decide +kernel
theorem dX7_drawn_13 : decode cX7_drawn 13 = .ok (.aload_n 0, 1) := by decide +kernel
theorem dX7_drawn_14 : decode cX7_drawn 14 = .ok (.getfield 26, 3) := by decide +kernel
theorem dX7_drawn_17 : decode cX7_drawn 17 = .ok (.iload_n 1, 1) := by decide +kernel
theorem dX7_drawn_18 : decode cX7_drawn 18 = .ok (.invokevirtual 129, 3) := by decide +kernel
theorem dX7_drawn_21 : decode cX7_drawn 21 = .ok (.ifCond .ne 6, 3) := by decide +kernel
theorem dX7_drawn_24 : decode cX7_drawn 24 = .ok (.bipush (-2), 2) := by decide +kernel
theorem dX7_drawn_26 : decode cX7_drawn 26 = .ok (.ireturn, 1) := by decide +kernel
theorem dX7_drawn_27 : decode cX7_drawn 27 = .ok (.aload_n 0, 1) := by decide +kernel
theorem dX7_drawn_28 : decode cX7_drawn 28 = .ok (.getfield 52, 3) := by decide +kernel
theorem dX7_drawn_31 : decode cX7_drawn 31 = .ok (.aload_n 0, 1) := by decide +kernel
theorem dX7_drawn_32 : decode cX7_drawn 32 = .ok (.getfield 26, 3) := by decide +kernel
theorem dX7_drawn_35 : decode cX7_drawn 35 = .ok (.iload_n 1, 1) := by decide +kernel
theorem dX7_drawn_36 : decode cX7_drawn 36 = .ok (.invokevirtual 116, 3) := by decide +kernel
theorem dX7_drawn_39 : decode cX7_drawn 39 = .ok (.aload_n 0, 1) := by decide +kernel
theorem dX7_drawn_40 : decode cX7_drawn 40 = .ok (.getfield 26, 3) := by decide +kernel
theorem dX7_drawn_43 : decode cX7_drawn 43 = .ok (.iload_n 1, 1) := by decide +kernel
theorem dX7_drawn_44 : decode cX7_drawn 44 = .ok (.invokevirtual 132, 3) := by decide +kernel
theorem dX7_drawn_47 : decode cX7_drawn 47 = .ok (.aload_n 0, 1) := by decide +kernel
theorem dX7_drawn_48 : decode cX7_drawn 48 = .ok (.getfield 42, 3) := by decide +kernel
theorem dX7_drawn_51 : decode cX7_drawn 51 = .ok (.aload_n 0, 1) := by decide +kernel
theorem dX7_drawn_52 : decode cX7_drawn 52 = .ok (.getfield 26, 3) := by decide +kernel
theorem dX7_drawn_55 : decode cX7_drawn 55 = .ok (.invokevirtual 123, 3) := by decide +kernel
theorem dX7_drawn_58 : decode cX7_drawn 58 = .ok (.invokevirtual 126, 3) := by decide +kernel
theorem dX7_drawn_61 : decode cX7_drawn 61 = .ok (.aload_n 0, 1) := by decide +kernel
theorem dX7_drawn_62 : decode cX7_drawn 62 = .ok (.getfield 42, 3) := by decide +kernel
theorem dX7_drawn_65 : decode cX7_drawn 65 = .ok (.iload_n 1, 1) := by decide +kernel
theorem dX7_drawn_66 : decode cX7_drawn 66 = .ok (.invokevirtual 112, 3) := by decide +kernel
theorem dX7_drawn_69 : decode cX7_drawn 69 = .ok (.ireturn, 1) := by decide +kernel
set_option maxRecDepth 20000 in
theorem ggX7_draws_X7_isWithin : GoodIn wsX7_draws wsX7_isWithin := goodIn_r _ [7] (by decide +kernel) (by decide +kernel)
set_option maxRecDepth 20000 in
theorem gX7_draws_X7_isWithin : GoodIn wsX7_draws (va_wsS RX7 78 yX7_isWithin wsX7_isWithin) := goodIn_app (goodIn_of _ (by decide +kernel)) ggX7_draws_X7_isWithin
set_option maxRecDepth 20000 in
theorem ggX7_draws_X5_z : GoodIn wsX7_draws wsX5_z := goodIn_r _ [12, 13, 114, 115, 116, 117, 118, 119, 120, 121, 122] (by decide +kernel) (by decide +kernel)
set_option maxRecDepth 20000 in
theorem gX7_draws_X5_z : GoodIn wsX7_draws (wsV RX7 123 RX5 yX5_z wsX5_z) := goodIn_app (goodIn_of _ (by decide +kernel)) ggX7_draws_X5_z
set_option maxRecDepth 20000 in
theorem ggX7_draws_X3_keepZ : GoodIn wsX7_draws wsX3_keepZ := goodIn_r _ [18, 19, 20, 21, 17, 22, 23, 24, 25, 26, 27, 28, 29, 30, 31, 32, 33, 34, 35, 36, 37, 9, 10, 11, 12, 13, 123, 124, 125, 126, 127, 128, 129, 130, 131, 132, 133, 114, 115, 116, 117, 118, 119, 120, 121, 122] (by decide +kernel) (by decide +kernel)
set_option maxRecDepth 20000 in
theorem gX7_draws_X3_keepZ : GoodIn wsX7_draws (wsV RX7 135 RX3 yX3_keepZ wsX3_keepZ) := goodIn_app (goodIn_of _ (by decide +kernel)) ggX7_draws_X3_keepZ
set_option maxRecDepth 20000 in
theorem ggX7_draws_X5_setZ : GoodIn wsX7_draws wsX5_setZ := goodIn_r _ [41, 13, 114, 115, 116, 117, 118, 119, 120, 121, 122] (by decide +kernel) (by decide +kernel)
set_option maxRecDepth 20000 in
theorem gX7_draws_X5_setZ : GoodIn wsX7_draws (wsV RX7 139 RX5 yX5_setZ wsX5_setZ) := goodIn_app (goodIn_of _ (by decide +kernel)) ggX7_draws_X5_setZ
set_option maxRecDepth 20000 in
theorem ggX7_draws_X1_settleBy : GoodIn wsX7_draws wsX1_settleBy := goodIn_r _ [46, 47, 48, 49, 50, 51, 52, 53, 11, 54, 55, 56, 57, 58, 59, 60, 61, 62, 63, 64, 65, 66, 67, 68, 69, 70, 71, 72, 73, 74, 75, 76, 77, 78, 79, 80, 81, 82, 45, 83, 84, 85, 86, 28, 87, 88, 89, 90, 91, 92, 93, 94, 95, 96, 97, 98, 99, 100, 101, 102, 103, 104, 105, 106, 134, 135, 136, 137, 138, 139, 114, 115, 116, 117, 118, 119, 120, 121, 122, 140] (by decide +kernel) (by decide +kernel)
set_option maxRecDepth 20000 in
theorem gX7_draws_X1_settleBy : GoodIn wsX7_draws (wsV RX7 126 RX1 yX1_settleBy wsX1_settleBy) := goodIn_app (goodIn_of _ (by decide +kernel)) ggX7_draws_X1_settleBy
theorem dX7_draws_0 : decode cX7_draws 0 = .ok (.iload_n 1, 1) := by decide +kernel
theorem dX7_draws_1 : decode cX7_draws 1 = .ok (.iconst 0, 1) := by decide +kernel
theorem dX7_draws_2 : decode cX7_draws 2 = .ok (.sipush 9999, 3) := by decide +kernel
theorem dX7_draws_5 : decode cX7_draws 5 = .ok (.invokestatic 78, 3) := by decide +kernel
theorem dX7_draws_8 : decode cX7_draws 8 = .ok (.ifCond .ne 5, 3) := by decide +kernel
theorem dX7_draws_11 : decode cX7_draws 11 = .ok (.iconst (-1), 1) := by decide +kernel
theorem dX7_draws_12 : decode cX7_draws 12 = .ok (.ireturn, 1) := by decide +kernel
theorem dX7_draws_13 : decode cX7_draws 13 = .ok (.aload_n 0, 1) := by decide +kernel
theorem dX7_draws_14 : decode cX7_draws 14 = .ok (.getfield 26, 3) := by decide +kernel
theorem dX7_draws_17 : decode cX7_draws 17 = .ok (.invokevirtual 123, 3) := by decide +kernel
theorem dX7_draws_20 : decode cX7_draws 20 = .ok (.istore_n 2, 1) := by decide +kernel
theorem dX7_draws_21 : decode cX7_draws 21 = .ok (.iload_n 2, 1) := by decide +kernel
theorem dX7_draws_22 : decode cX7_draws 22 = .ok (.iload_n 1, 1) := by decide +kernel
theorem dX7_draws_23 : decode cX7_draws 23 = .ok (.if_icmp .ne 6, 3) := by decide +kernel
theorem dX7_draws_26 : decode cX7_draws 26 = .ok (.bipush (-2), 2) := by decide +kernel
theorem dX7_draws_28 : decode cX7_draws 28 = .ok (.ireturn, 1) := by decide +kernel
theorem dX7_draws_29 : decode cX7_draws 29 = .ok (.aload_n 0, 1) := by decide +kernel
theorem dX7_draws_30 : decode cX7_draws 30 = .ok (.getfield 52, 3) := by decide +kernel
theorem dX7_draws_33 : decode cX7_draws 33 = .ok (.aload_n 0, 1) := by decide +kernel
theorem dX7_draws_34 : decode cX7_draws 34 = .ok (.getfield 26, 3) := by decide +kernel
theorem dX7_draws_37 : decode cX7_draws 37 = .ok (.invokevirtual 135, 3) := by decide +kernel
theorem dX7_draws_40 : decode cX7_draws 40 = .ok (.aload_n 0, 1) := by decide +kernel
theorem dX7_draws_41 : decode cX7_draws 41 = .ok (.getfield 26, 3) := by decide +kernel
theorem dX7_draws_44 : decode cX7_draws 44 = .ok (.iload_n 1, 1) := by decide +kernel
theorem dX7_draws_45 : decode cX7_draws 45 = .ok (.invokevirtual 139, 3) := by decide +kernel
theorem dX7_draws_48 : decode cX7_draws 48 = .ok (.aload_n 0, 1) := by decide +kernel
theorem dX7_draws_49 : decode cX7_draws 49 = .ok (.getfield 42, 3) := by decide +kernel
theorem dX7_draws_52 : decode cX7_draws 52 = .ok (.iload_n 1, 1) := by decide +kernel
theorem dX7_draws_53 : decode cX7_draws 53 = .ok (.invokevirtual 126, 3) := by decide +kernel
theorem dX7_draws_56 : decode cX7_draws 56 = .ok (.iload_n 2, 1) := by decide +kernel
theorem dX7_draws_57 : decode cX7_draws 57 = .ok (.ireturn, 1) := by decide +kernel
set_option maxRecDepth 20000 in
theorem ggX7_undo_X3_kept : GoodIn wsX7_undo wsX3_kept := goodIn_r _ [7, 8, 152, 153, 154] (by decide +kernel) (by decide +kernel)
set_option maxRecDepth 20000 in
theorem gX7_undo_X3_kept : GoodIn wsX7_undo (wsV RX7 142 RX3 yX3_kept wsX3_kept) := goodIn_app (goodIn_of _ (by decide +kernel)) ggX7_undo_X3_kept
set_option maxRecDepth 20000 in
theorem ggX7_undo_X3_takeBack : GoodIn wsX7_undo wsX3_takeBack := goodIn_r _ [12, 8, 13, 14, 15, 16, 17, 18, 19, 20, 21, 22, 23, 24, 25, 26, 27, 28, 29, 30, 31, 32, 33, 34, 35, 36, 37, 38, 39, 40, 41, 42, 43, 44, 45, 46, 47, 48, 49, 50, 51, 52, 53, 54, 152, 153, 154, 155, 156, 157, 158, 159, 160, 161, 162, 163, 164, 165, 166, 167, 168, 169, 170, 171] (by decide +kernel) (by decide +kernel)
set_option maxRecDepth 20000 in
theorem gX7_undo_X3_takeBack : GoodIn wsX7_undo (wsV RX7 145 RX3 yX3_takeBack wsX3_takeBack) := goodIn_app (goodIn_of _ (by decide +kernel)) ggX7_undo_X3_takeBack
set_option maxRecDepth 20000 in
theorem ggX7_undo_X7_settleAll : GoodIn wsX7_undo wsX7_settleAll := goodIn_r _ [59, 60, 2, 61, 62, 63, 64, 65, 66, 67, 68, 69, 70, 71, 31, 72, 73, 74, 36, 37, 38, 34, 75, 76, 77, 78, 79, 80, 81, 82, 83, 84, 85, 86, 87, 88, 89, 90, 43, 91, 92, 93, 94, 95, 96, 97, 98, 99, 100, 101, 102, 103, 104, 48, 49, 105, 106, 107, 108, 109, 110, 111, 112, 113, 114, 115, 116, 117, 118, 119, 120, 121, 50, 122, 123, 124, 125, 126, 127, 128, 129, 130, 131, 132, 133, 134, 135, 136, 137, 138, 139, 140, 141, 142, 143, 144, 145, 146, 147, 148, 149, 150, 151, 172, 163, 164, 165, 166, 167, 168, 169, 170, 171, 173, 174, 175, 176, 177, 178] (by decide +kernel) (by decide +kernel)
set_option maxRecDepth 20000 in
theorem gX7_undo_X7_settleAll : GoodIn wsX7_undo (wsV RX7 148 RX7 yX7_settleAll wsX7_settleAll) := goodIn_app (goodIn_of _ (by decide +kernel)) ggX7_undo_X7_settleAll
theorem dX7_undo_0 : decode cX7_undo 0 = .ok (.aload_n 0, 1) := by decide +kernel
theorem dX7_undo_1 : decode cX7_undo 1 = .ok (.getfield 52, 3) := by decide +kernel
theorem dX7_undo_4 : decode cX7_undo 4 = .ok (.invokevirtual 142, 3) := by decide +kernel
theorem dX7_undo_7 : decode cX7_undo 7 = .ok (.ifCond .ne 6, 3) := by decide +kernel
theorem dX7_undo_10 : decode cX7_undo 10 = .ok (.bipush (-2), 2) := by decide +kernel
theorem dX7_undo_12 : decode cX7_undo 12 = .ok (.ireturn, 1) := by decide +kernel
theorem dX7_undo_13 : decode cX7_undo 13 = .ok (.aload_n 0, 1) := by decide +kernel
theorem dX7_undo_14 : decode cX7_undo 14 = .ok (.getfield 52, 3) := by decide +kernel
theorem dX7_undo_17 : decode cX7_undo 17 = .ok (.aload_n 0, 1) := by decide +kernel
theorem dX7_undo_18 : decode cX7_undo 18 = .ok (.getfield 26, 3) := by decide +kernel
theorem dX7_undo_21 : decode cX7_undo 21 = .ok (.invokevirtual 145, 3) := by decide +kernel
theorem dX7_undo_24 : decode cX7_undo 24 = .ok (.aload_n 0, 1) := by decide +kernel
theorem dX7_undo_25 : decode cX7_undo 25 = .ok (.invokevirtual 148, 3) := by decide +kernel
theorem dX7_undo_28 : decode cX7_undo 28 = .ok (.aload_n 0, 1) := by decide +kernel
theorem dX7_undo_29 : decode cX7_undo 29 = .ok (.getfield 52, 3) := by decide +kernel
theorem dX7_undo_32 : decode cX7_undo 32 = .ok (.invokevirtual 142, 3) := by decide +kernel
theorem dX7_undo_35 : decode cX7_undo 35 = .ok (.ireturn, 1) := by decide +kernel
set_option maxRecDepth 20000 in
theorem ggX7_place_X5_isPlace : GoodIn wsX7_place wsX5_isPlace := goodIn_r _ [7, 8, 94, 95, 96, 97, 98, 99, 100, 101, 102] (by decide +kernel) (by decide +kernel)
set_option maxRecDepth 20000 in
theorem gX7_place_X5_isPlace : GoodIn wsX7_place (wsV RX7 108 RX5 yX5_isPlace wsX5_isPlace) := goodIn_app (goodIn_of _ (by decide +kernel)) ggX7_place_X5_isPlace
set_option maxRecDepth 20000 in
theorem ggX7_place_X1_delayOf : GoodIn wsX7_place wsX1_delayOf := goodIn_r _ [13, 14, 103, 104, 105, 106, 107, 108] (by decide +kernel) (by decide +kernel)
set_option maxRecDepth 20000 in
theorem gX7_place_X1_delayOf : GoodIn wsX7_place (wsV RX7 112 RX1 yX1_delayOf wsX1_delayOf) := goodIn_app (goodIn_of _ (by decide +kernel)) ggX7_place_X1_delayOf
set_option maxRecDepth 20000 in
theorem ggX7_place_X1_fractionOf : GoodIn wsX7_place wsX1_fractionOf := goodIn_r _ [18, 19, 103, 104, 105, 106, 107, 108] (by decide +kernel) (by decide +kernel)
set_option maxRecDepth 20000 in
theorem gX7_place_X1_fractionOf : GoodIn wsX7_place (wsV RX7 151 RX1 yX1_fractionOf wsX1_fractionOf) := goodIn_app (goodIn_of _ (by decide +kernel)) ggX7_place_X1_fractionOf
set_option maxRecDepth 20000 in
theorem ggX7_place_X5_isTold : GoodIn wsX7_place wsX5_isTold := goodIn_r _ [23, 24, 94, 95, 96, 97, 98, 99, 100, 101, 102] (by decide +kernel) (by decide +kernel)
set_option maxRecDepth 20000 in
theorem gX7_place_X5_isTold : GoodIn wsX7_place (wsV RX7 129 RX5 yX5_isTold wsX5_isTold) := goodIn_app (goodIn_of _ (by decide +kernel)) ggX7_place_X5_isTold
set_option maxRecDepth 20000 in
theorem ggX7_place_X1_startOf : GoodIn wsX7_place wsX1_startOf := goodIn_r _ [28, 29, 14, 103, 104, 105, 106, 107, 108] (by decide +kernel) (by decide +kernel)
set_option maxRecDepth 20000 in
theorem gX7_place_X1_startOf : GoodIn wsX7_place (wsV RX7 154 RX1 yX1_startOf wsX1_startOf) := goodIn_app (goodIn_of _ (by decide +kernel)) ggX7_place_X1_startOf
set_option maxRecDepth 20000 in
theorem ggX7_place_X1_headOf : GoodIn wsX7_place wsX1_headOf := goodIn_r _ [33, 34, 103, 104, 105, 106, 107, 108] (by decide +kernel) (by decide +kernel)
set_option maxRecDepth 20000 in
theorem gX7_place_X1_headOf : GoodIn wsX7_place (wsV RX7 157 RX1 yX1_headOf wsX1_headOf) := goodIn_app (goodIn_of _ (by decide +kernel)) ggX7_place_X1_headOf
set_option maxRecDepth 20000 in
theorem ggX7_place_X1_numberOf : GoodIn wsX7_place wsX1_numberOf := goodIn_r _ [38, 34, 39, 40, 41, 12, 42, 43, 44, 45, 46, 103, 104, 105, 106, 107, 108] (by decide +kernel) (by decide +kernel)
set_option maxRecDepth 20000 in
theorem gX7_place_X1_numberOf : GoodIn wsX7_place (wsV RX7 160 RX1 yX1_numberOf wsX1_numberOf) := goodIn_app (goodIn_of _ (by decide +kernel)) ggX7_place_X1_numberOf
set_option maxRecDepth 20000 in
theorem ggX7_place_X1_depthOf : GoodIn wsX7_place wsX1_depthOf := goodIn_r _ [50, 51, 34, 52, 53, 54, 55, 56, 57, 103, 104, 105, 106, 107, 108, 109] (by decide +kernel) (by decide +kernel)
set_option maxRecDepth 20000 in
theorem gX7_place_X1_depthOf : GoodIn wsX7_place (wsV RX7 163 RX1 yX1_depthOf wsX1_depthOf) := goodIn_app (goodIn_of _ (by decide +kernel)) ggX7_place_X1_depthOf
set_option maxRecDepth 20000 in
theorem ggX7_place_X1_hourOf : GoodIn wsX7_place wsX1_hourOf := goodIn_r _ [61, 34, 62, 26, 27, 12, 28, 29, 14, 63, 48, 49, 50, 51, 52, 53, 54, 55, 56, 57, 103, 104, 105, 106, 107, 108, 109] (by decide +kernel) (by decide +kernel)
set_option maxRecDepth 20000 in
theorem gX7_place_X1_hourOf : GoodIn wsX7_place (wsV RX7 166 RX1 yX1_hourOf wsX1_hourOf) := goodIn_app (goodIn_of _ (by decide +kernel)) ggX7_place_X1_hourOf
set_option maxRecDepth 20000 in
theorem ggX7_place_X1_upOf : GoodIn wsX7_place wsX1_upOf := goodIn_r _ [67, 68, 43, 44, 45, 12, 46, 34, 69, 70, 71, 6, 72, 8, 73, 74, 75, 76, 77, 78, 79, 80, 81, 63, 48, 49, 50, 51, 52, 53, 54, 55, 56, 57, 103, 104, 105, 106, 107, 108, 94, 95, 96, 97, 98, 99, 100, 101, 102, 109] (by decide +kernel) (by decide +kernel)
set_option maxRecDepth 20000 in
theorem gX7_place_X1_upOf : GoodIn wsX7_place (wsV RX7 169 RX1 yX1_upOf wsX1_upOf) := goodIn_app (goodIn_of _ (by decide +kernel)) ggX7_place_X1_upOf
set_option maxRecDepth 20000 in
theorem ggX7_place_X5_linksAt : GoodIn wsX7_place wsX5_linksAt := goodIn_r _ [85, 8, 86, 74, 75, 6, 76, 77, 94, 95, 96, 97, 98, 99, 100, 101, 102] (by decide +kernel) (by decide +kernel)
set_option maxRecDepth 20000 in
theorem gX7_place_X5_linksAt : GoodIn wsX7_place (wsV RX7 172 RX5 yX5_linksAt wsX5_linksAt) := goodIn_app (goodIn_of _ (by decide +kernel)) ggX7_place_X5_linksAt
theorem dX7_place_0 : decode cX7_place 0 = .ok (.aload_n 0, 1) := by decide +kernel
theorem dX7_place_1 : decode cX7_place 1 = .ok (.getfield 26, 3) := by decide +kernel
theorem dX7_place_4 : decode cX7_place 4 = .ok (.iload_n 1, 1) := by decide +kernel
theorem dX7_place_5 : decode cX7_place 5 = .ok (.invokevirtual 108, 3) := by decide +kernel
theorem dX7_place_8 : decode cX7_place 8 = .ok (.ifCond .ne 5, 3) := by decide +kernel
theorem dX7_place_11 : decode cX7_place 11 = .ok (.iconst (-1), 1) := by decide +kernel
theorem dX7_place_12 : decode cX7_place 12 = .ok (.ireturn, 1) := by decide +kernel
theorem dX7_place_13 : decode cX7_place 13 = .ok (.iload_n 2, 1) := by decide +kernel
theorem dX7_place_14 : decode cX7_place 14 = .ok (.tableswitch 172 0 9 #[54, 65, 76, 95, 106, 117, 128, 139, 150, 161], 54) := by decide +kernel
theorem dX7_place_68 : decode cX7_place 68 = .ok (.aload_n 0, 1) := by decide +kernel
theorem dX7_place_69 : decode cX7_place 69 = .ok (.getfield 42, 3) := by decide +kernel
theorem dX7_place_72 : decode cX7_place 72 = .ok (.iload_n 1, 1) := by decide +kernel
theorem dX7_place_73 : decode cX7_place 73 = .ok (.invokevirtual 112, 3) := by decide +kernel
theorem dX7_place_76 : decode cX7_place 76 = .ok (.goto 111, 3) := by decide +kernel
theorem dX7_place_79 : decode cX7_place 79 = .ok (.aload_n 0, 1) := by decide +kernel
theorem dX7_place_80 : decode cX7_place 80 = .ok (.getfield 42, 3) := by decide +kernel
theorem dX7_place_83 : decode cX7_place 83 = .ok (.iload_n 1, 1) := by decide +kernel
theorem dX7_place_84 : decode cX7_place 84 = .ok (.invokevirtual 151, 3) := by decide +kernel
theorem dX7_place_87 : decode cX7_place 87 = .ok (.goto 100, 3) := by decide +kernel
theorem dX7_place_90 : decode cX7_place 90 = .ok (.aload_n 0, 1) := by decide +kernel
theorem dX7_place_91 : decode cX7_place 91 = .ok (.getfield 26, 3) := by decide +kernel
theorem dX7_place_94 : decode cX7_place 94 = .ok (.iload_n 1, 1) := by decide +kernel
theorem dX7_place_95 : decode cX7_place 95 = .ok (.invokevirtual 129, 3) := by decide +kernel
theorem dX7_place_98 : decode cX7_place 98 = .ok (.ifCond .eq 7, 3) := by decide +kernel
theorem dX7_place_101 : decode cX7_place 101 = .ok (.iconst 1, 1) := by decide +kernel
theorem dX7_place_102 : decode cX7_place 102 = .ok (.goto 85, 3) := by decide +kernel
theorem dX7_place_105 : decode cX7_place 105 = .ok (.iconst 0, 1) := by decide +kernel
theorem dX7_place_106 : decode cX7_place 106 = .ok (.goto 81, 3) := by decide +kernel
theorem dX7_place_109 : decode cX7_place 109 = .ok (.aload_n 0, 1) := by decide +kernel
theorem dX7_place_110 : decode cX7_place 110 = .ok (.getfield 42, 3) := by decide +kernel
theorem dX7_place_113 : decode cX7_place 113 = .ok (.iload_n 1, 1) := by decide +kernel
theorem dX7_place_114 : decode cX7_place 114 = .ok (.invokevirtual 154, 3) := by decide +kernel
theorem dX7_place_117 : decode cX7_place 117 = .ok (.goto 70, 3) := by decide +kernel
theorem dX7_place_120 : decode cX7_place 120 = .ok (.aload_n 0, 1) := by decide +kernel
theorem dX7_place_121 : decode cX7_place 121 = .ok (.getfield 42, 3) := by decide +kernel
theorem dX7_place_124 : decode cX7_place 124 = .ok (.iload_n 1, 1) := by decide +kernel
theorem dX7_place_125 : decode cX7_place 125 = .ok (.invokevirtual 157, 3) := by decide +kernel
theorem dX7_place_128 : decode cX7_place 128 = .ok (.goto 59, 3) := by decide +kernel
theorem dX7_place_131 : decode cX7_place 131 = .ok (.aload_n 0, 1) := by decide +kernel
theorem dX7_place_132 : decode cX7_place 132 = .ok (.getfield 42, 3) := by decide +kernel
theorem dX7_place_135 : decode cX7_place 135 = .ok (.iload_n 1, 1) := by decide +kernel
theorem dX7_place_136 : decode cX7_place 136 = .ok (.invokevirtual 160, 3) := by decide +kernel
theorem dX7_place_139 : decode cX7_place 139 = .ok (.goto 48, 3) := by decide +kernel
theorem dX7_place_142 : decode cX7_place 142 = .ok (.aload_n 0, 1) := by decide +kernel
theorem dX7_place_143 : decode cX7_place 143 = .ok (.getfield 42, 3) := by decide +kernel
theorem dX7_place_146 : decode cX7_place 146 = .ok (.iload_n 1, 1) := by decide +kernel
theorem dX7_place_147 : decode cX7_place 147 = .ok (.invokevirtual 163, 3) := by decide +kernel
theorem dX7_place_150 : decode cX7_place 150 = .ok (.goto 37, 3) := by decide +kernel
theorem dX7_place_153 : decode cX7_place 153 = .ok (.aload_n 0, 1) := by decide +kernel
theorem dX7_place_154 : decode cX7_place 154 = .ok (.getfield 42, 3) := by decide +kernel
theorem dX7_place_157 : decode cX7_place 157 = .ok (.iload_n 1, 1) := by decide +kernel
theorem dX7_place_158 : decode cX7_place 158 = .ok (.invokevirtual 166, 3) := by decide +kernel
theorem dX7_place_161 : decode cX7_place 161 = .ok (.goto 26, 3) := by decide +kernel
theorem dX7_place_164 : decode cX7_place 164 = .ok (.aload_n 0, 1) := by decide +kernel
theorem dX7_place_165 : decode cX7_place 165 = .ok (.getfield 42, 3) := by decide +kernel
theorem dX7_place_168 : decode cX7_place 168 = .ok (.iload_n 1, 1) := by decide +kernel
theorem dX7_place_169 : decode cX7_place 169 = .ok (.invokevirtual 169, 3) := by decide +kernel
theorem dX7_place_172 : decode cX7_place 172 = .ok (.goto 15, 3) := by decide +kernel
theorem dX7_place_175 : decode cX7_place 175 = .ok (.aload_n 0, 1) := by decide +kernel
theorem dX7_place_176 : decode cX7_place 176 = .ok (.getfield 26, 3) := by decide +kernel
theorem dX7_place_179 : decode cX7_place 179 = .ok (.iload_n 1, 1) := by decide +kernel
theorem dX7_place_180 : decode cX7_place 180 = .ok (.invokevirtual 172, 3) := by decide +kernel
theorem dX7_place_183 : decode cX7_place 183 = .ok (.goto 4, 3) := by decide +kernel
theorem dX7_place_186 : decode cX7_place 186 = .ok (.iconst (-1), 1) := by decide +kernel
theorem dX7_place_187 : decode cX7_place 187 = .ok (.ireturn, 1) := by decide +kernel
set_option maxRecDepth 20000 in
theorem ggX7_far_X5_isPlace : GoodIn wsX7_far wsX5_isPlace := goodIn_r _ [7, 8, 28, 29, 30, 31, 32, 33, 34, 35, 36] (by decide +kernel) (by decide +kernel)
set_option maxRecDepth 20000 in
theorem gX7_far_X5_isPlace : GoodIn wsX7_far (wsV RX7 108 RX5 yX5_isPlace wsX5_isPlace) := goodIn_app (goodIn_of _ (by decide +kernel)) ggX7_far_X5_isPlace
set_option maxRecDepth 20000 in
theorem ggX7_far_X4_areJoined : GoodIn wsX7_far wsX4_areJoined := goodIn_r _ [13, 14, 15, 16, 17, 12, 18, 19, 37] (by decide +kernel) (by decide +kernel)
set_option maxRecDepth 20000 in
theorem gX7_far_X4_areJoined : GoodIn wsX7_far (wsV RX7 175 RX4 yX4_areJoined wsX4_areJoined) := goodIn_app (goodIn_of _ (by decide +kernel)) ggX7_far_X4_areJoined
set_option maxRecDepth 20000 in
theorem ggX7_far_X4_between : GoodIn wsX7_far wsX4_between := goodIn_r _ [18, 19, 37] (by decide +kernel) (by decide +kernel)
set_option maxRecDepth 20000 in
theorem gX7_far_X4_between : GoodIn wsX7_far (wsV RX7 178 RX4 yX4_between wsX4_between) := goodIn_app (goodIn_of _ (by decide +kernel)) ggX7_far_X4_between
theorem dX7_far_0 : decode cX7_far 0 = .ok (.aload_n 0, 1) := by decide +kernel
theorem dX7_far_1 : decode cX7_far 1 = .ok (.getfield 26, 3) := by decide +kernel
theorem dX7_far_4 : decode cX7_far 4 = .ok (.iload_n 1, 1) := by decide +kernel
theorem dX7_far_5 : decode cX7_far 5 = .ok (.invokevirtual 108, 3) := by decide +kernel
theorem dX7_far_8 : decode cX7_far 8 = .ok (.ifCond .eq 14, 3) := by decide +kernel
theorem dX7_far_11 : decode cX7_far 11 = .ok (.aload_n 0, 1) := by decide +kernel
theorem dX7_far_12 : decode cX7_far 12 = .ok (.getfield 26, 3) := by decide +kernel
theorem dX7_far_15 : decode cX7_far 15 = .ok (.iload_n 2, 1) := by decide +kernel
theorem dX7_far_16 : decode cX7_far 16 = .ok (.invokevirtual 108, 3) := by decide +kernel
theorem dX7_far_19 : decode cX7_far 19 = .ok (.ifCond .ne 5, 3) := by decide +kernel
theorem dX7_far_22 : decode cX7_far 22 = .ok (.iconst (-1), 1) := by decide +kernel
theorem dX7_far_23 : decode cX7_far 23 = .ok (.ireturn, 1) := by decide +kernel
theorem dX7_far_24 : decode cX7_far 24 = .ok (.aload_n 0, 1) := by decide +kernel
theorem dX7_far_25 : decode cX7_far 25 = .ok (.getfield 33, 3) := by decide +kernel
theorem dX7_far_28 : decode cX7_far 28 = .ok (.iload_n 1, 1) := by decide +kernel
theorem dX7_far_29 : decode cX7_far 29 = .ok (.iload_n 2, 1) := by decide +kernel
theorem dX7_far_30 : decode cX7_far 30 = .ok (.invokevirtual 175, 3) := by decide +kernel
theorem dX7_far_33 : decode cX7_far 33 = .ok (.ifCond .eq 15, 3) := by decide +kernel
theorem dX7_far_36 : decode cX7_far 36 = .ok (.aload_n 0, 1) := by decide +kernel
theorem dX7_far_37 : decode cX7_far 37 = .ok (.getfield 33, 3) := by decide +kernel
theorem dX7_far_40 : decode cX7_far 40 = .ok (.iload_n 1, 1) := by decide +kernel
theorem dX7_far_41 : decode cX7_far 41 = .ok (.iload_n 2, 1) := by decide +kernel
theorem dX7_far_42 : decode cX7_far 42 = .ok (.invokevirtual 178, 3) := by decide +kernel
theorem dX7_far_45 : decode cX7_far 45 = .ok (.goto 5, 3) := by decide +kernel
theorem dX7_far_48 : decode cX7_far 48 = .ok (.bipush (-4), 2) := by decide +kernel
theorem dX7_far_50 : decode cX7_far 50 = .ok (.ireturn, 1) := by decide +kernel
set_option maxRecDepth 20000 in
theorem ggX7_front_X7_isWithin : GoodIn wsX7_front wsX7_isWithin := goodIn_r _ [6] (by decide +kernel) (by decide +kernel)
set_option maxRecDepth 20000 in
theorem gX7_front_X7_isWithin : GoodIn wsX7_front (va_wsS RX7 78 yX7_isWithin wsX7_isWithin) := goodIn_app (goodIn_of _ (by decide +kernel)) ggX7_front_X7_isWithin
set_option maxRecDepth 20000 in
theorem ggX7_front_X5_places : GoodIn wsX7_front wsX5_places := goodIn_r _ [11, 12, 43, 44, 45, 46, 47, 48, 49, 50, 51] (by decide +kernel) (by decide +kernel)
set_option maxRecDepth 20000 in
theorem gX7_front_X5_places : GoodIn wsX7_front (wsV RX7 181 RX5 yX5_places wsX5_places) := goodIn_app (goodIn_of _ (by decide +kernel)) ggX7_front_X5_places
set_option maxRecDepth 20000 in
theorem ggX7_front_X1_hourOf : GoodIn wsX7_front wsX1_hourOf := goodIn_r _ [17, 18, 19, 20, 21, 16, 22, 23, 24, 25, 26, 27, 28, 29, 30, 31, 32, 33, 34, 35, 52, 53, 54, 55, 56, 57, 58] (by decide +kernel) (by decide +kernel)
set_option maxRecDepth 20000 in
theorem gX7_front_X1_hourOf : GoodIn wsX7_front (wsV RX7 166 RX1 yX1_hourOf wsX1_hourOf) := goodIn_app (goodIn_of _ (by decide +kernel)) ggX7_front_X1_hourOf
theorem dX7_front_0 : decode cX7_front 0 = .ok (.iload_n 1, 1) := by decide +kernel
theorem dX7_front_1 : decode cX7_front 1 = .ok (.iconst 0, 1) := by decide +kernel
theorem dX7_front_2 : decode cX7_front 2 = .ok (.sipush 200, 3) := by decide +kernel
theorem dX7_front_5 : decode cX7_front 5 = .ok (.invokestatic 78, 3) := by decide +kernel
theorem dX7_front_8 : decode cX7_front 8 = .ok (.ifCond .eq 8, 3) := by decide +kernel
theorem dX7_front_11 : decode cX7_front 11 = .ok (.iload_n 2, 1) := by decide +kernel
theorem dX7_front_12 : decode cX7_front 12 = .ok (.iconst (-1), 1) := by decide +kernel
theorem dX7_front_13 : decode cX7_front 13 = .ok (.if_icmp .ge 5, 3) := by decide +kernel
theorem dX7_front_16 : decode cX7_front 16 = .ok (.iconst (-1), 1) := by decide +kernel
theorem dX7_front_17 : decode cX7_front 17 = .ok (.ireturn, 1) := by decide +kernel
theorem dX7_front_18 : decode cX7_front 18 = .ok (.iconst 0, 1) := by decide +kernel
theorem dX7_front_19 : decode cX7_front 19 = .ok (.istore_n 3, 1) := by decide +kernel
theorem dX7_front_20 : decode cX7_front 20 = .ok (.iconst 0, 1) := by decide +kernel
theorem dX7_front_21 : decode cX7_front 21 = .ok (.istore 4, 2) := by decide +kernel
theorem dX7_front_23 : decode cX7_front 23 = .ok (.iload 4, 2) := by decide +kernel
theorem dX7_front_25 : decode cX7_front 25 = .ok (.aload_n 0, 1) := by decide +kernel
theorem dX7_front_26 : decode cX7_front 26 = .ok (.getfield 26, 3) := by decide +kernel
theorem dX7_front_29 : decode cX7_front 29 = .ok (.invokevirtual 181, 3) := by decide +kernel
theorem dX7_front_32 : decode cX7_front 32 = .ok (.if_icmp .ge 33, 3) := by decide +kernel
theorem dX7_front_35 : decode cX7_front 35 = .ok (.aload_n 0, 1) := by decide +kernel
theorem dX7_front_36 : decode cX7_front 36 = .ok (.getfield 42, 3) := by decide +kernel
theorem dX7_front_39 : decode cX7_front 39 = .ok (.iload 4, 2) := by decide +kernel
theorem dX7_front_41 : decode cX7_front 41 = .ok (.invokevirtual 166, 3) := by decide +kernel
theorem dX7_front_44 : decode cX7_front 44 = .ok (.iload_n 1, 1) := by decide +kernel
theorem dX7_front_45 : decode cX7_front 45 = .ok (.if_icmp .ne 14, 3) := by decide +kernel
theorem dX7_front_48 : decode cX7_front 48 = .ok (.iload_n 3, 1) := by decide +kernel
theorem dX7_front_49 : decode cX7_front 49 = .ok (.iload_n 2, 1) := by decide +kernel
theorem dX7_front_50 : decode cX7_front 50 = .ok (.if_icmp .ne 6, 3) := by decide +kernel
theorem dX7_front_53 : decode cX7_front 53 = .ok (.iload 4, 2) := by decide +kernel
theorem dX7_front_55 : decode cX7_front 55 = .ok (.ireturn, 1) := by decide +kernel
theorem dX7_front_56 : decode cX7_front 56 = .ok (.iinc 3 1, 3) := by decide +kernel
theorem dX7_front_59 : decode cX7_front 59 = .ok (.iinc 4 1, 3) := by decide +kernel
theorem dX7_front_62 : decode cX7_front 62 = .ok (.goto (-39), 3) := by decide +kernel
theorem dX7_front_65 : decode cX7_front 65 = .ok (.iload_n 2, 1) := by decide +kernel
theorem dX7_front_66 : decode cX7_front 66 = .ok (.iconst (-1), 1) := by decide +kernel
theorem dX7_front_67 : decode cX7_front 67 = .ok (.if_icmp .ne 7, 3) := by decide +kernel
theorem dX7_front_70 : decode cX7_front 70 = .ok (.iload_n 3, 1) := by decide +kernel
theorem dX7_front_71 : decode cX7_front 71 = .ok (.goto 5, 3) := by decide +kernel
theorem dX7_front_74 : decode cX7_front 74 = .ok (.bipush (-4), 2) := by decide +kernel
theorem dX7_front_76 : decode cX7_front 76 = .ok (.ireturn, 1) := by decide +kernel
set_option maxRecDepth 20000 in
theorem ggX7_linkOf_X5_isPair : GoodIn wsX7_linkOf wsX5_isPair := goodIn_r _ [7, 8, 9, 10, 6, 11, 12, 64, 65, 66, 67, 68, 69, 70, 71, 72] (by decide +kernel) (by decide +kernel)
set_option maxRecDepth 20000 in
theorem gX7_linkOf_X5_isPair : GoodIn wsX7_linkOf (wsV RX7 93 RX5 yX5_isPair wsX5_isPair) := goodIn_app (goodIn_of _ (by decide +kernel)) ggX7_linkOf_X5_isPair
set_option maxRecDepth 20000 in
theorem ggX7_linkOf_X7_isWithin : GoodIn wsX7_linkOf wsX7_isWithin := goodIn_r _ [16] (by decide +kernel) (by decide +kernel)
set_option maxRecDepth 20000 in
theorem gX7_linkOf_X7_isWithin : GoodIn wsX7_linkOf (va_wsS RX7 78 yX7_isWithin wsX7_isWithin) := goodIn_app (goodIn_of _ (by decide +kernel)) ggX7_linkOf_X7_isWithin
set_option maxRecDepth 20000 in
theorem ggX7_linkOf_X5_lengthOf : GoodIn wsX7_linkOf wsX5_lengthOf := goodIn_r _ [20, 21, 64, 65, 66, 67, 68, 69, 70, 71, 72] (by decide +kernel) (by decide +kernel)
set_option maxRecDepth 20000 in
theorem gX7_linkOf_X5_lengthOf : GoodIn wsX7_linkOf (wsV RX7 97 RX5 yX5_lengthOf wsX5_lengthOf) := goodIn_app (goodIn_of _ (by decide +kernel)) ggX7_linkOf_X5_lengthOf
set_option maxRecDepth 20000 in
theorem ggX7_linkOf_X1_kindOf : GoodIn wsX7_linkOf wsX1_kindOf := goodIn_r _ [26, 27, 28, 29, 25, 30, 31, 32, 33, 34, 35, 36, 37, 38, 39, 40, 41, 42, 43, 6, 44, 12, 45, 18, 19, 20, 21, 46, 47, 48, 49, 50, 51, 52, 53, 54, 55, 56, 73, 74, 75, 76, 77, 78, 64, 65, 66, 67, 68, 69, 70, 71, 72, 79] (by decide +kernel) (by decide +kernel)
set_option maxRecDepth 20000 in
theorem gX7_linkOf_X1_kindOf : GoodIn wsX7_linkOf (wsV RX7 184 RX1 yX1_kindOf wsX1_kindOf) := goodIn_app (goodIn_of _ (by decide +kernel)) ggX7_linkOf_X1_kindOf
theorem dX7_linkOf_0 : decode cX7_linkOf 0 = .ok (.aload_n 0, 1) := by decide +kernel
theorem dX7_linkOf_1 : decode cX7_linkOf 1 = .ok (.getfield 26, 3) := by decide +kernel
theorem dX7_linkOf_4 : decode cX7_linkOf 4 = .ok (.iload_n 1, 1) := by decide +kernel
theorem dX7_linkOf_5 : decode cX7_linkOf 5 = .ok (.iload_n 2, 1) := by decide +kernel
theorem dX7_linkOf_6 : decode cX7_linkOf 6 = .ok (.invokevirtual 93, 3) := by decide +kernel
theorem dX7_linkOf_9 : decode cX7_linkOf 9 = .ok (.ifCond .eq 12, 3) := by decide +kernel
theorem dX7_linkOf_12 : decode cX7_linkOf 12 = .ok (.iload_n 3, 1) := by decide +kernel
theorem dX7_linkOf_13 : decode cX7_linkOf 13 = .ok (.iconst 0, 1) := by decide +kernel
theorem dX7_linkOf_14 : decode cX7_linkOf 14 = .ok (.iconst 1, 1) := by decide +kernel
theorem dX7_linkOf_15 : decode cX7_linkOf 15 = .ok (.invokestatic 78, 3) := by decide +kernel
theorem dX7_linkOf_18 : decode cX7_linkOf 18 = .ok (.ifCond .ne 5, 3) := by decide +kernel
theorem dX7_linkOf_21 : decode cX7_linkOf 21 = .ok (.iconst (-1), 1) := by decide +kernel
theorem dX7_linkOf_22 : decode cX7_linkOf 22 = .ok (.ireturn, 1) := by decide +kernel
theorem dX7_linkOf_23 : decode cX7_linkOf 23 = .ok (.aload_n 0, 1) := by decide +kernel
theorem dX7_linkOf_24 : decode cX7_linkOf 24 = .ok (.getfield 26, 3) := by decide +kernel
theorem dX7_linkOf_27 : decode cX7_linkOf 27 = .ok (.iload_n 1, 1) := by decide +kernel
theorem dX7_linkOf_28 : decode cX7_linkOf 28 = .ok (.iload_n 2, 1) := by decide +kernel
theorem dX7_linkOf_29 : decode cX7_linkOf 29 = .ok (.invokevirtual 97, 3) := by decide +kernel
theorem dX7_linkOf_32 : decode cX7_linkOf 32 = .ok (.ifCond .ne 6, 3) := by decide +kernel
theorem dX7_linkOf_35 : decode cX7_linkOf 35 = .ok (.bipush (-4), 2) := by decide +kernel
theorem dX7_linkOf_37 : decode cX7_linkOf 37 = .ok (.ireturn, 1) := by decide +kernel
theorem dX7_linkOf_38 : decode cX7_linkOf 38 = .ok (.iload_n 3, 1) := by decide +kernel
theorem dX7_linkOf_39 : decode cX7_linkOf 39 = .ok (.ifCond .ne 15, 3) := by decide +kernel
theorem dX7_linkOf_42 : decode cX7_linkOf 42 = .ok (.aload_n 0, 1) := by decide +kernel
theorem dX7_linkOf_43 : decode cX7_linkOf 43 = .ok (.getfield 26, 3) := by decide +kernel
theorem dX7_linkOf_46 : decode cX7_linkOf 46 = .ok (.iload_n 1, 1) := by decide +kernel
theorem dX7_linkOf_47 : decode cX7_linkOf 47 = .ok (.iload_n 2, 1) := by decide +kernel
theorem dX7_linkOf_48 : decode cX7_linkOf 48 = .ok (.invokevirtual 97, 3) := by decide +kernel
theorem dX7_linkOf_51 : decode cX7_linkOf 51 = .ok (.goto 12, 3) := by decide +kernel
theorem dX7_linkOf_54 : decode cX7_linkOf 54 = .ok (.aload_n 0, 1) := by decide +kernel
theorem dX7_linkOf_55 : decode cX7_linkOf 55 = .ok (.getfield 42, 3) := by decide +kernel
theorem dX7_linkOf_58 : decode cX7_linkOf 58 = .ok (.iload_n 1, 1) := by decide +kernel
theorem dX7_linkOf_59 : decode cX7_linkOf 59 = .ok (.iload_n 2, 1) := by decide +kernel
theorem dX7_linkOf_60 : decode cX7_linkOf 60 = .ok (.invokevirtual 184, 3) := by decide +kernel
theorem dX7_linkOf_63 : decode cX7_linkOf 63 = .ok (.ireturn, 1) := by decide +kernel
set_option maxRecDepth 20000 in
theorem ggX7_cluster_X7_isCluster : GoodIn wsX7_cluster wsX7_isCluster := goodIn_r _ [6, 1, 7, 8, 9, 10, 11, 12, 13, 14, 15, 16, 17, 18, 19, 20, 21, 22, 23, 24, 25, 26, 27, 28, 29, 5, 30, 90, 91, 92, 93, 94, 95, 96, 97, 98, 99, 100, 101, 102, 103, 104, 105, 106, 107, 108, 109, 110, 111] (by decide +kernel) (by decide +kernel)
set_option maxRecDepth 20000 in
theorem gX7_cluster_X7_isCluster : GoodIn wsX7_cluster (wsV RX7 187 RX7 yX7_isCluster wsX7_isCluster) := goodIn_app (goodIn_of _ (by decide +kernel)) ggX7_cluster_X7_isCluster
set_option maxRecDepth 20000 in
theorem ggX7_cluster_X1_headNumbered : GoodIn wsX7_cluster wsX1_headNumbered := goodIn_r _ [34, 12, 13, 14, 15, 16, 17, 18, 23, 24, 25, 10, 26, 27, 35, 36, 37, 38, 19, 20, 21, 22, 97, 98, 99, 100, 101, 102, 103, 104, 105, 106, 107, 108, 109, 110, 111] (by decide +kernel) (by decide +kernel)
set_option maxRecDepth 20000 in
theorem gX7_cluster_X1_headNumbered : GoodIn wsX7_cluster (wsV RX7 190 RX1 yX1_headNumbered wsX1_headNumbered) := goodIn_app (goodIn_of _ (by decide +kernel)) ggX7_cluster_X1_headNumbered
set_option maxRecDepth 20000 in
theorem ggX7_cluster_X1_membersOf : GoodIn wsX7_cluster wsX1_membersOf := goodIn_r _ [42, 12, 27, 13, 14, 15, 16, 17, 18, 97, 98, 99, 100, 101, 102, 103, 104, 105, 106, 107, 108, 109, 110, 111] (by decide +kernel) (by decide +kernel)
set_option maxRecDepth 20000 in
theorem gX7_cluster_X1_membersOf : GoodIn wsX7_cluster (wsV RX7 193 RX1 yX1_membersOf wsX1_membersOf) := goodIn_app (goodIn_of _ (by decide +kernel)) ggX7_cluster_X1_membersOf
set_option maxRecDepth 20000 in
theorem ggX7_cluster_J6_bitCount_0f7a4 : GoodIn wsX7_cluster wsJ6_bitCount_0f7a4 := goodIn_r _ [46, 47, 48, 49] (by decide +kernel) (by decide +kernel)
set_option maxRecDepth 20000 in
theorem gX7_cluster_J6_bitCount_0f7a4 : GoodIn wsX7_cluster (va_wsS RX7 196 yJ6_bitCount_0f7a4 wsJ6_bitCount_0f7a4) := goodIn_app (goodIn_of _ (by decide +kernel)) ggX7_cluster_J6_bitCount_0f7a4
set_option maxRecDepth 20000 in
theorem ggX7_cluster_X1_wideOf : GoodIn wsX7_cluster wsX1_wideOf := goodIn_r _ [53, 12, 27, 54, 55, 56, 57, 13, 14, 15, 16, 17, 18, 58, 59, 60, 10, 61, 62, 63, 64, 65, 66, 67, 68, 97, 98, 99, 100, 101, 102, 103, 104, 105, 106, 107, 108, 109, 110, 111, 112] (by decide +kernel) (by decide +kernel)
set_option maxRecDepth 20000 in
theorem gX7_cluster_X1_wideOf : GoodIn wsX7_cluster (wsV RX7 201 RX1 yX1_wideOf wsX1_wideOf) := goodIn_app (goodIn_of _ (by decide +kernel)) ggX7_cluster_X1_wideOf
set_option maxRecDepth 20000 in
theorem ggX7_cluster_X1_cutLinksOf : GoodIn wsX7_cluster wsX1_cutLinksOf := goodIn_r _ [72, 12, 13, 14, 15, 16, 17, 18, 73, 74, 75, 10, 76, 77, 78, 79, 80, 27, 81, 82, 83, 84, 85, 97, 98, 99, 100, 101, 102, 103, 104, 105, 106, 107, 108, 109, 110, 111] (by decide +kernel) (by decide +kernel)
set_option maxRecDepth 20000 in
theorem gX7_cluster_X1_cutLinksOf : GoodIn wsX7_cluster (wsV RX7 204 RX1 yX1_cutLinksOf wsX1_cutLinksOf) := goodIn_app (goodIn_of _ (by decide +kernel)) ggX7_cluster_X1_cutLinksOf
set_option maxRecDepth 20000 in
theorem ggX7_cluster_X1_neighboursOf : GoodIn wsX7_cluster wsX1_neighboursOf := goodIn_r _ [89, 12, 13, 14, 15, 16, 17, 18, 73, 74, 75, 10, 76, 77, 78, 79, 80, 27, 81, 82, 83, 84, 85, 97, 98, 99, 100, 101, 102, 103, 104, 105, 106, 107, 108, 109, 110, 111] (by decide +kernel) (by decide +kernel)
set_option maxRecDepth 20000 in
theorem gX7_cluster_X1_neighboursOf : GoodIn wsX7_cluster (wsV RX7 207 RX1 yX1_neighboursOf wsX1_neighboursOf) := goodIn_app (goodIn_of _ (by decide +kernel)) ggX7_cluster_X1_neighboursOf
theorem dX7_cluster_0 : decode cX7_cluster 0 = .ok (.aload_n 0, 1) := by decide +kernel
theorem dX7_cluster_1 : decode cX7_cluster 1 = .ok (.iload_n 1, 1) := by decide +kernel
theorem dX7_cluster_2 : decode cX7_cluster 2 = .ok (.invokevirtual 187, 3) := by decide +kernel
theorem dX7_cluster_5 : decode cX7_cluster 5 = .ok (.ifCond .ne 5, 3) := by decide +kernel
theorem dX7_cluster_8 : decode cX7_cluster 8 = .ok (.iconst (-1), 1) := by decide +kernel
theorem dX7_cluster_9 : decode cX7_cluster 9 = .ok (.ireturn, 1) := by decide +kernel
theorem dX7_cluster_10 : decode cX7_cluster 10 = .ok (.aload_n 0, 1) := by decide +kernel
theorem dX7_cluster_11 : decode cX7_cluster 11 = .ok (.getfield 42, 3) := by decide +kernel
theorem dX7_cluster_14 : decode cX7_cluster 14 = .ok (.iload_n 1, 1) := by decide +kernel
theorem dX7_cluster_15 : decode cX7_cluster 15 = .ok (.invokevirtual 190, 3) := by decide +kernel
theorem dX7_cluster_18 : decode cX7_cluster 18 = .ok (.istore_n 3, 1) := by decide +kernel
theorem dX7_cluster_19 : decode cX7_cluster 19 = .ok (.iload_n 2, 1) := by decide +kernel
theorem dX7_cluster_20 : decode cX7_cluster 20 = .ok (.tableswitch 102 0 5 #[40, 44, 58, 69, 80, 91], 40) := by decide +kernel
theorem dX7_cluster_60 : decode cX7_cluster 60 = .ok (.iload_n 3, 1) := by decide +kernel
theorem dX7_cluster_61 : decode cX7_cluster 61 = .ok (.goto 62, 3) := by decide +kernel
theorem dX7_cluster_64 : decode cX7_cluster 64 = .ok (.aload_n 0, 1) := by decide +kernel
theorem dX7_cluster_65 : decode cX7_cluster 65 = .ok (.getfield 42, 3) := by decide +kernel
theorem dX7_cluster_68 : decode cX7_cluster 68 = .ok (.iload_n 3, 1) := by decide +kernel
theorem dX7_cluster_69 : decode cX7_cluster 69 = .ok (.invokevirtual 193, 3) := by decide +kernel
theorem dX7_cluster_72 : decode cX7_cluster 72 = .ok (.invokestatic 196, 3) := by decide +kernel
theorem dX7_cluster_75 : decode cX7_cluster 75 = .ok (.goto 48, 3) := by decide +kernel
theorem dX7_cluster_78 : decode cX7_cluster 78 = .ok (.aload_n 0, 1) := by decide +kernel
theorem dX7_cluster_79 : decode cX7_cluster 79 = .ok (.getfield 42, 3) := by decide +kernel
theorem dX7_cluster_82 : decode cX7_cluster 82 = .ok (.iload_n 3, 1) := by decide +kernel
theorem dX7_cluster_83 : decode cX7_cluster 83 = .ok (.invokevirtual 201, 3) := by decide +kernel
theorem dX7_cluster_86 : decode cX7_cluster 86 = .ok (.goto 37, 3) := by decide +kernel
theorem dX7_cluster_89 : decode cX7_cluster 89 = .ok (.aload_n 0, 1) := by decide +kernel
theorem dX7_cluster_90 : decode cX7_cluster 90 = .ok (.getfield 42, 3) := by decide +kernel
theorem dX7_cluster_93 : decode cX7_cluster 93 = .ok (.iload_n 3, 1) := by decide +kernel
theorem dX7_cluster_94 : decode cX7_cluster 94 = .ok (.invokevirtual 204, 3) := by decide +kernel
theorem dX7_cluster_97 : decode cX7_cluster 97 = .ok (.goto 26, 3) := by decide +kernel
theorem dX7_cluster_100 : decode cX7_cluster 100 = .ok (.aload_n 0, 1) := by decide +kernel
theorem dX7_cluster_101 : decode cX7_cluster 101 = .ok (.getfield 42, 3) := by decide +kernel
theorem dX7_cluster_104 : decode cX7_cluster 104 = .ok (.iload_n 3, 1) := by decide +kernel
theorem dX7_cluster_105 : decode cX7_cluster 105 = .ok (.invokevirtual 207, 3) := by decide +kernel
theorem dX7_cluster_108 : decode cX7_cluster 108 = .ok (.goto 15, 3) := by decide +kernel
theorem dX7_cluster_111 : decode cX7_cluster 111 = .ok (.aload_n 0, 1) := by decide +kernel
theorem dX7_cluster_112 : decode cX7_cluster 112 = .ok (.getfield 42, 3) := by decide +kernel
theorem dX7_cluster_115 : decode cX7_cluster 115 = .ok (.iload_n 3, 1) := by decide +kernel
theorem dX7_cluster_116 : decode cX7_cluster 116 = .ok (.invokevirtual 193, 3) := by decide +kernel
theorem dX7_cluster_119 : decode cX7_cluster 119 = .ok (.goto 4, 3) := by decide +kernel
theorem dX7_cluster_122 : decode cX7_cluster 122 = .ok (.iconst (-1), 1) := by decide +kernel
theorem dX7_cluster_123 : decode cX7_cluster 123 = .ok (.ireturn, 1) := by decide +kernel
set_option maxRecDepth 20000 in
theorem ggX7_beside_X7_isCluster : GoodIn wsX7_beside wsX7_isCluster := goodIn_r _ [6, 1, 7, 8, 9, 10, 11, 12, 13, 14, 15, 16, 17, 18, 19, 20, 21, 22, 23, 24, 25, 26, 27, 28, 29, 5, 30, 56, 57, 58, 59, 60, 61, 62, 63, 64, 65, 66, 67, 68, 69, 70, 71, 72, 73, 74, 75, 76, 77] (by decide +kernel) (by decide +kernel)
set_option maxRecDepth 20000 in
theorem gX7_beside_X7_isCluster : GoodIn wsX7_beside (wsV RX7 187 RX7 yX7_isCluster wsX7_isCluster) := goodIn_app (goodIn_of _ (by decide +kernel)) ggX7_beside_X7_isCluster
set_option maxRecDepth 20000 in
theorem ggX7_beside_X7_isWithin : GoodIn wsX7_beside wsX7_isWithin := goodIn_r _ [30] (by decide +kernel) (by decide +kernel)
set_option maxRecDepth 20000 in
theorem gX7_beside_X7_isWithin : GoodIn wsX7_beside (va_wsS RX7 78 yX7_isWithin wsX7_isWithin) := goodIn_app (goodIn_of _ (by decide +kernel)) ggX7_beside_X7_isWithin
set_option maxRecDepth 20000 in
theorem ggX7_beside_X1_headNumbered : GoodIn wsX7_beside wsX1_headNumbered := goodIn_r _ [34, 12, 13, 14, 15, 16, 17, 18, 23, 24, 25, 10, 26, 27, 35, 36, 37, 38, 19, 20, 21, 22, 63, 64, 65, 66, 67, 68, 69, 70, 71, 72, 73, 74, 75, 76, 77] (by decide +kernel) (by decide +kernel)
set_option maxRecDepth 20000 in
theorem gX7_beside_X1_headNumbered : GoodIn wsX7_beside (wsV RX7 190 RX1 yX1_headNumbered wsX1_headNumbered) := goodIn_app (goodIn_of _ (by decide +kernel)) ggX7_beside_X1_headNumbered
set_option maxRecDepth 20000 in
theorem ggX7_beside_X1_cutLinksBetween : GoodIn wsX7_beside wsX1_cutLinksBetween := goodIn_r _ [42, 12, 13, 14, 15, 16, 17, 18, 43, 44, 45, 10, 46, 27, 47, 48, 49, 50, 51, 63, 64, 65, 66, 67, 68, 69, 70, 71, 72, 73, 74, 75, 76, 77] (by decide +kernel) (by decide +kernel)
set_option maxRecDepth 20000 in
theorem gX7_beside_X1_cutLinksBetween : GoodIn wsX7_beside (wsV RX7 210 RX1 yX1_cutLinksBetween wsX1_cutLinksBetween) := goodIn_app (goodIn_of _ (by decide +kernel)) ggX7_beside_X1_cutLinksBetween
set_option maxRecDepth 20000 in
theorem ggX7_beside_X1_shortestBetween : GoodIn wsX7_beside wsX1_shortestBetween := goodIn_r _ [55, 12, 13, 14, 15, 16, 17, 18, 43, 44, 45, 10, 46, 27, 47, 48, 49, 50, 51, 63, 64, 65, 66, 67, 68, 69, 70, 71, 72, 73, 74, 75, 76, 77] (by decide +kernel) (by decide +kernel)
set_option maxRecDepth 20000 in
theorem gX7_beside_X1_shortestBetween : GoodIn wsX7_beside (wsV RX7 213 RX1 yX1_shortestBetween wsX1_shortestBetween) := goodIn_app (goodIn_of _ (by decide +kernel)) ggX7_beside_X1_shortestBetween
theorem dX7_beside_0 : decode cX7_beside 0 = .ok (.aload_n 0, 1) := by decide +kernel
theorem dX7_beside_1 : decode cX7_beside 1 = .ok (.iload_n 1, 1) := by decide +kernel
theorem dX7_beside_2 : decode cX7_beside 2 = .ok (.invokevirtual 187, 3) := by decide +kernel
theorem dX7_beside_5 : decode cX7_beside 5 = .ok (.ifCond .eq 25, 3) := by decide +kernel
theorem dX7_beside_8 : decode cX7_beside 8 = .ok (.aload_n 0, 1) := by decide +kernel
theorem dX7_beside_9 : decode cX7_beside 9 = .ok (.iload_n 2, 1) := by decide +kernel
theorem dX7_beside_10 : decode cX7_beside 10 = .ok (.invokevirtual 187, 3) := by decide +kernel
theorem dX7_beside_13 : decode cX7_beside 13 = .ok (.ifCond .eq 17, 3) := by decide +kernel
theorem dX7_beside_16 : decode cX7_beside 16 = .ok (.iload_n 1, 1) := by decide +kernel
theorem dX7_beside_17 : decode cX7_beside 17 = .ok (.iload_n 2, 1) := by decide +kernel
theorem dX7_beside_18 : decode cX7_beside 18 = .ok (.if_icmp .eq 12, 3) := by decide +kernel
theorem dX7_beside_21 : decode cX7_beside 21 = .ok (.iload_n 3, 1) := by decide +kernel
theorem dX7_beside_22 : decode cX7_beside 22 = .ok (.iconst 0, 1) := by decide +kernel
theorem dX7_beside_23 : decode cX7_beside 23 = .ok (.iconst 1, 1) := by decide +kernel
theorem dX7_beside_24 : decode cX7_beside 24 = .ok (.invokestatic 78, 3) := by decide +kernel
theorem dX7_beside_27 : decode cX7_beside 27 = .ok (.ifCond .ne 5, 3) := by decide +kernel
theorem dX7_beside_30 : decode cX7_beside 30 = .ok (.iconst (-1), 1) := by decide +kernel
theorem dX7_beside_31 : decode cX7_beside 31 = .ok (.ireturn, 1) := by decide +kernel
theorem dX7_beside_32 : decode cX7_beside 32 = .ok (.aload_n 0, 1) := by decide +kernel
theorem dX7_beside_33 : decode cX7_beside 33 = .ok (.getfield 42, 3) := by decide +kernel
theorem dX7_beside_36 : decode cX7_beside 36 = .ok (.iload_n 1, 1) := by decide +kernel
theorem dX7_beside_37 : decode cX7_beside 37 = .ok (.invokevirtual 190, 3) := by decide +kernel
theorem dX7_beside_40 : decode cX7_beside 40 = .ok (.istore 4, 2) := by decide +kernel
theorem dX7_beside_42 : decode cX7_beside 42 = .ok (.aload_n 0, 1) := by decide +kernel
theorem dX7_beside_43 : decode cX7_beside 43 = .ok (.getfield 42, 3) := by decide +kernel
theorem dX7_beside_46 : decode cX7_beside 46 = .ok (.iload_n 2, 1) := by decide +kernel
theorem dX7_beside_47 : decode cX7_beside 47 = .ok (.invokevirtual 190, 3) := by decide +kernel
theorem dX7_beside_50 : decode cX7_beside 50 = .ok (.istore 5, 2) := by decide +kernel
theorem dX7_beside_52 : decode cX7_beside 52 = .ok (.iload_n 3, 1) := by decide +kernel
theorem dX7_beside_53 : decode cX7_beside 53 = .ok (.ifCond .ne 17, 3) := by decide +kernel
theorem dX7_beside_56 : decode cX7_beside 56 = .ok (.aload_n 0, 1) := by decide +kernel
theorem dX7_beside_57 : decode cX7_beside 57 = .ok (.getfield 42, 3) := by decide +kernel
theorem dX7_beside_60 : decode cX7_beside 60 = .ok (.iload 4, 2) := by decide +kernel
theorem dX7_beside_62 : decode cX7_beside 62 = .ok (.iload 5, 2) := by decide +kernel
theorem dX7_beside_64 : decode cX7_beside 64 = .ok (.invokevirtual 210, 3) := by decide +kernel
theorem dX7_beside_67 : decode cX7_beside 67 = .ok (.goto 14, 3) := by decide +kernel
theorem dX7_beside_70 : decode cX7_beside 70 = .ok (.aload_n 0, 1) := by decide +kernel
theorem dX7_beside_71 : decode cX7_beside 71 = .ok (.getfield 42, 3) := by decide +kernel
theorem dX7_beside_74 : decode cX7_beside 74 = .ok (.iload 4, 2) := by decide +kernel
theorem dX7_beside_76 : decode cX7_beside 76 = .ok (.iload 5, 2) := by decide +kernel
theorem dX7_beside_78 : decode cX7_beside 78 = .ok (.invokevirtual 213, 3) := by decide +kernel
theorem dX7_beside_81 : decode cX7_beside 81 = .ok (.ireturn, 1) := by decide +kernel
set_option maxRecDepth 20000 in
theorem ggX7_tried_X7_isWithin : GoodIn wsX7_tried wsX7_isWithin := goodIn_r _ [5] (by decide +kernel) (by decide +kernel)
set_option maxRecDepth 20000 in
theorem gX7_tried_X7_isWithin : GoodIn wsX7_tried (va_wsS RX7 78 yX7_isWithin wsX7_isWithin) := goodIn_app (goodIn_of _ (by decide +kernel)) ggX7_tried_X7_isWithin
set_option maxRecDepth 20000 in
theorem ggX7_tried_X1_settleBy : GoodIn wsX7_tried wsX1_settleBy := goodIn_r _ [10, 11, 12, 13, 14, 15, 16, 17, 18, 19, 20, 21, 22, 23, 24, 25, 26, 27, 28, 29, 30, 31, 32, 33, 34, 35, 36, 37, 38, 39, 40, 41, 42, 43, 44, 45, 46, 47, 9, 48, 49, 50, 51, 52, 53, 54, 55, 56, 57, 58, 59, 60, 61, 62, 63, 64, 65, 66, 67, 68, 69, 70, 71, 72, 121, 122, 123, 124, 125, 126, 127, 128, 129, 130, 131, 132, 133, 134, 135, 136] (by decide +kernel) (by decide +kernel)
set_option maxRecDepth 20000 in
theorem gX7_tried_X1_settleBy : GoodIn wsX7_tried (wsV RX7 126 RX1 yX1_settleBy wsX1_settleBy) := goodIn_app (goodIn_of _ (by decide +kernel)) ggX7_tried_X1_settleBy
set_option maxRecDepth 20000 in
theorem ggX7_tried_X1_clusters : GoodIn wsX7_tried wsX1_clusters := goodIn_r _ [76, 11, 15, 16, 17, 18, 19, 20, 77, 78, 79, 9, 80, 81, 82, 83, 84, 14, 121, 122, 123, 124, 125, 126, 127, 128, 129, 130, 131, 132, 133, 134, 135] (by decide +kernel) (by decide +kernel)
set_option maxRecDepth 20000 in
theorem gX7_tried_X1_clusters : GoodIn wsX7_tried (wsV RX7 216 RX1 yX1_clusters wsX1_clusters) := goodIn_app (goodIn_of _ (by decide +kernel)) ggX7_tried_X1_clusters
set_option maxRecDepth 20000 in
theorem ggX7_tried_X1_cutLinks : GoodIn wsX7_tried wsX1_cutLinks := goodIn_r _ [88, 11, 15, 16, 17, 18, 19, 20, 89, 90, 91, 92, 93, 94, 95, 96, 9, 97, 14, 121, 122, 123, 124, 125, 126, 127, 128, 129, 130, 131, 132, 133, 134, 135] (by decide +kernel) (by decide +kernel)
set_option maxRecDepth 20000 in
theorem gX7_tried_X1_cutLinks : GoodIn wsX7_tried (wsV RX7 219 RX1 yX1_cutLinks wsX1_cutLinks) := goodIn_app (goodIn_of _ (by decide +kernel)) ggX7_tried_X1_cutLinks
set_option maxRecDepth 20000 in
theorem ggX7_tried_X1_greatestWide : GoodIn wsX7_tried wsX1_greatestWide := goodIn_r _ [101, 11, 50, 51, 52, 53, 15, 16, 17, 18, 19, 20, 102, 103, 104, 9, 105, 58, 14, 63, 64, 65, 66, 67, 68, 121, 122, 123, 124, 125, 126, 127, 128, 129, 130, 131, 132, 133, 134, 135, 136] (by decide +kernel) (by decide +kernel)
set_option maxRecDepth 20000 in
theorem gX7_tried_X1_greatestWide : GoodIn wsX7_tried (wsV RX7 222 RX1 yX1_greatestWide wsX1_greatestWide) := goodIn_app (goodIn_of _ (by decide +kernel)) ggX7_tried_X1_greatestWide
set_option maxRecDepth 20000 in
theorem ggX7_tried_X1_lastHour : GoodIn wsX7_tried wsX1_lastHour := goodIn_r _ [109, 11, 50, 51, 52, 53, 15, 16, 17, 18, 19, 20, 110, 111, 112, 9, 113, 14, 59, 60, 61, 62, 49, 12, 102, 103, 104, 105, 58, 63, 64, 65, 66, 67, 68, 121, 122, 123, 124, 125, 126, 127, 128, 129, 130, 131, 132, 133, 134, 135, 136] (by decide +kernel) (by decide +kernel)
set_option maxRecDepth 20000 in
theorem gX7_tried_X1_lastHour : GoodIn wsX7_tried (wsV RX7 225 RX1 yX1_lastHour wsX1_lastHour) := goodIn_app (goodIn_of _ (by decide +kernel)) ggX7_tried_X1_lastHour
theorem dX7_tried_0 : decode cX7_tried 0 = .ok (.iload_n 1, 1) := by decide +kernel
theorem dX7_tried_1 : decode cX7_tried 1 = .ok (.iconst 0, 1) := by decide +kernel
theorem dX7_tried_2 : decode cX7_tried 2 = .ok (.sipush 9999, 3) := by decide +kernel
theorem dX7_tried_5 : decode cX7_tried 5 = .ok (.invokestatic 78, 3) := by decide +kernel
theorem dX7_tried_8 : decode cX7_tried 8 = .ok (.ifCond .eq 12, 3) := by decide +kernel
theorem dX7_tried_11 : decode cX7_tried 11 = .ok (.iload_n 2, 1) := by decide +kernel
theorem dX7_tried_12 : decode cX7_tried 12 = .ok (.iconst 0, 1) := by decide +kernel
theorem dX7_tried_13 : decode cX7_tried 13 = .ok (.iconst 3, 1) := by decide +kernel
theorem dX7_tried_14 : decode cX7_tried 14 = .ok (.invokestatic 78, 3) := by decide +kernel
theorem dX7_tried_17 : decode cX7_tried 17 = .ok (.ifCond .ne 5, 3) := by decide +kernel
theorem dX7_tried_20 : decode cX7_tried 20 = .ok (.iconst (-1), 1) := by decide +kernel
theorem dX7_tried_21 : decode cX7_tried 21 = .ok (.ireturn, 1) := by decide +kernel
theorem dX7_tried_22 : decode cX7_tried 22 = .ok (.aload_n 0, 1) := by decide +kernel
theorem dX7_tried_23 : decode cX7_tried 23 = .ok (.getfield 46, 3) := by decide +kernel
theorem dX7_tried_26 : decode cX7_tried 26 = .ok (.iload_n 1, 1) := by decide +kernel
theorem dX7_tried_27 : decode cX7_tried 27 = .ok (.invokevirtual 126, 3) := by decide +kernel
theorem dX7_tried_30 : decode cX7_tried 30 = .ok (.iload_n 2, 1) := by decide +kernel
theorem dX7_tried_31 : decode cX7_tried 31 = .ok (.tableswitch 55 0 2 #[25, 35, 45], 25) := by decide +kernel
theorem dX7_tried_56 : decode cX7_tried 56 = .ok (.aload_n 0, 1) := by decide +kernel
theorem dX7_tried_57 : decode cX7_tried 57 = .ok (.getfield 46, 3) := by decide +kernel
theorem dX7_tried_60 : decode cX7_tried 60 = .ok (.invokevirtual 216, 3) := by decide +kernel
theorem dX7_tried_63 : decode cX7_tried 63 = .ok (.goto 30, 3) := by decide +kernel
theorem dX7_tried_66 : decode cX7_tried 66 = .ok (.aload_n 0, 1) := by decide +kernel
theorem dX7_tried_67 : decode cX7_tried 67 = .ok (.getfield 46, 3) := by decide +kernel
theorem dX7_tried_70 : decode cX7_tried 70 = .ok (.invokevirtual 219, 3) := by decide +kernel
theorem dX7_tried_73 : decode cX7_tried 73 = .ok (.goto 20, 3) := by decide +kernel
theorem dX7_tried_76 : decode cX7_tried 76 = .ok (.aload_n 0, 1) := by decide +kernel
theorem dX7_tried_77 : decode cX7_tried 77 = .ok (.getfield 46, 3) := by decide +kernel
theorem dX7_tried_80 : decode cX7_tried 80 = .ok (.invokevirtual 222, 3) := by decide +kernel
theorem dX7_tried_83 : decode cX7_tried 83 = .ok (.goto 10, 3) := by decide +kernel
theorem dX7_tried_86 : decode cX7_tried 86 = .ok (.aload_n 0, 1) := by decide +kernel
theorem dX7_tried_87 : decode cX7_tried 87 = .ok (.getfield 46, 3) := by decide +kernel
theorem dX7_tried_90 : decode cX7_tried 90 = .ok (.invokevirtual 225, 3) := by decide +kernel
theorem dX7_tried_93 : decode cX7_tried 93 = .ok (.ireturn, 1) := by decide +kernel
set_option maxRecDepth 20000 in
theorem ggX7_best_X7_isWithin : GoodIn wsX7_best wsX7_isWithin := goodIn_r _ [5] (by decide +kernel) (by decide +kernel)
set_option maxRecDepth 20000 in
theorem gX7_best_X7_isWithin : GoodIn wsX7_best (va_wsS RX7 78 yX7_isWithin wsX7_isWithin) := goodIn_app (goodIn_of _ (by decide +kernel)) ggX7_best_X7_isWithin
set_option maxRecDepth 20000 in
theorem ggX7_best_X1_settleBy : GoodIn wsX7_best wsX1_settleBy := goodIn_r _ [10, 11, 12, 13, 14, 15, 16, 17, 18, 19, 20, 21, 22, 23, 24, 25, 26, 27, 28, 29, 30, 31, 32, 33, 34, 35, 36, 37, 38, 39, 40, 41, 42, 43, 44, 45, 46, 47, 9, 48, 49, 50, 51, 52, 53, 54, 55, 56, 57, 58, 59, 60, 61, 62, 63, 64, 65, 66, 67, 68, 69, 70, 71, 72, 101, 102, 103, 104, 105, 106, 107, 108, 109, 110, 111, 112, 113, 114, 115, 116] (by decide +kernel) (by decide +kernel)
set_option maxRecDepth 20000 in
theorem gX7_best_X1_settleBy : GoodIn wsX7_best (wsV RX7 126 RX1 yX1_settleBy wsX1_settleBy) := goodIn_app (goodIn_of _ (by decide +kernel)) ggX7_best_X1_settleBy
set_option maxRecDepth 20000 in
theorem ggX7_best_X1_greatestWide : GoodIn wsX7_best wsX1_greatestWide := goodIn_r _ [76, 11, 50, 51, 52, 53, 15, 16, 17, 18, 19, 20, 77, 78, 79, 9, 80, 58, 14, 63, 64, 65, 66, 67, 68, 101, 102, 103, 104, 105, 106, 107, 108, 109, 110, 111, 112, 113, 114, 115, 116] (by decide +kernel) (by decide +kernel)
set_option maxRecDepth 20000 in
theorem gX7_best_X1_greatestWide : GoodIn wsX7_best (wsV RX7 222 RX1 yX1_greatestWide wsX1_greatestWide) := goodIn_app (goodIn_of _ (by decide +kernel)) ggX7_best_X1_greatestWide
set_option maxRecDepth 20000 in
theorem ggX7_best_X1_cutLinks : GoodIn wsX7_best wsX1_cutLinks := goodIn_r _ [84, 11, 15, 16, 17, 18, 19, 20, 85, 86, 87, 88, 89, 90, 91, 92, 9, 93, 14, 101, 102, 103, 104, 105, 106, 107, 108, 109, 110, 111, 112, 113, 114, 115] (by decide +kernel) (by decide +kernel)
set_option maxRecDepth 20000 in
theorem gX7_best_X1_cutLinks : GoodIn wsX7_best (wsV RX7 219 RX1 yX1_cutLinks wsX1_cutLinks) := goodIn_app (goodIn_of _ (by decide +kernel)) ggX7_best_X1_cutLinks
theorem dX7_best_0 : decode cX7_best 0 = .ok (.iload_n 1, 1) := by decide +kernel
theorem dX7_best_1 : decode cX7_best 1 = .ok (.iconst 1, 1) := by decide +kernel
theorem dX7_best_2 : decode cX7_best 2 = .ok (.bipush 60, 2) := by decide +kernel
theorem dX7_best_4 : decode cX7_best 4 = .ok (.invokestatic 78, 3) := by decide +kernel
theorem dX7_best_7 : decode cX7_best 7 = .ok (.ifCond .eq 23, 3) := by decide +kernel
theorem dX7_best_10 : decode cX7_best 10 = .ok (.iload_n 2, 1) := by decide +kernel
theorem dX7_best_11 : decode cX7_best 11 = .ok (.iconst 0, 1) := by decide +kernel
theorem dX7_best_12 : decode cX7_best 12 = .ok (.sipush 200, 3) := by decide +kernel
theorem dX7_best_15 : decode cX7_best 15 = .ok (.invokestatic 78, 3) := by decide +kernel
theorem dX7_best_18 : decode cX7_best 18 = .ok (.ifCond .eq 12, 3) := by decide +kernel
theorem dX7_best_21 : decode cX7_best 21 = .ok (.iload_n 3, 1) := by decide +kernel
theorem dX7_best_22 : decode cX7_best 22 = .ok (.iconst 0, 1) := by decide +kernel
theorem dX7_best_23 : decode cX7_best 23 = .ok (.iconst 1, 1) := by decide +kernel
