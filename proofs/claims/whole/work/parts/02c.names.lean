theorem dX0_init_0 : decode cX0_init 0 = .ok (.aload_n 0, 1) := by decide +kernel
theorem dX0_init_1 : decode cX0_init 1 = .ok (.invokespecial 1, 3) := by decide +kernel
theorem dX0_init_4 : decode cX0_init 4 = .ok (.return_, 1) := by decide +kernel
set_option maxRecDepth 20000 in
theorem ggX0_rememberLink_X5_lengthOf : GoodIn wsX0_rememberLink wsX5_lengthOf := goodIn_r _ [9, 10, 19, 20, 21, 22, 23, 24, 25, 26, 27] (by decide +kernel) (by decide +kernel)
set_option maxRecDepth 20000 in
theorem gX0_rememberLink_X5_lengthOf : GoodIn wsX0_rememberLink (wsV RX0 19 RX5 yX5_lengthOf wsX5_lengthOf) := goodIn_app (goodIn_of _ (by decide +kernel)) ggX0_rememberLink_X5_lengthOf
theorem dX0_rememberLink_0 : decode cX0_rememberLink 0 = .ok (.aload_n 0, 1) := by decide +kernel
theorem dX0_rememberLink_1 : decode cX0_rememberLink 1 = .ok (.iconst 0, 1) := by decide +kernel
theorem dX0_rememberLink_2 : decode cX0_rememberLink 2 = .ok (.putfield 9, 3) := by decide +kernel
theorem dX0_rememberLink_5 : decode cX0_rememberLink 5 = .ok (.aload_n 0, 1) := by decide +kernel
theorem dX0_rememberLink_6 : decode cX0_rememberLink 6 = .ok (.iload_n 2, 1) := by decide +kernel
theorem dX0_rememberLink_7 : decode cX0_rememberLink 7 = .ok (.putfield 13, 3) := by decide +kernel
theorem dX0_rememberLink_10 : decode cX0_rememberLink 10 = .ok (.aload_n 0, 1) := by decide +kernel
theorem dX0_rememberLink_11 : decode cX0_rememberLink 11 = .ok (.iload_n 3, 1) := by decide +kernel
theorem dX0_rememberLink_12 : decode cX0_rememberLink 12 = .ok (.putfield 16, 3) := by decide +kernel
theorem dX0_rememberLink_15 : decode cX0_rememberLink 15 = .ok (.aload_n 0, 1) := by decide +kernel
theorem dX0_rememberLink_16 : decode cX0_rememberLink 16 = .ok (.aload_n 1, 1) := by decide +kernel
theorem dX0_rememberLink_17 : decode cX0_rememberLink 17 = .ok (.iload_n 2, 1) := by decide +kernel
theorem dX0_rememberLink_18 : decode cX0_rememberLink 18 = .ok (.iload_n 3, 1) := by decide +kernel
theorem dX0_rememberLink_19 : decode cX0_rememberLink 19 = .ok (.invokevirtual 19, 3) := by decide +kernel
theorem dX0_rememberLink_22 : decode cX0_rememberLink 22 = .ok (.putfield 25, 3) := by decide +kernel
theorem dX0_rememberLink_25 : decode cX0_rememberLink 25 = .ok (.return_, 1) := by decide +kernel
set_option maxRecDepth 20000 in
theorem ggX0_rememberDelay_X5_isTold : GoodIn wsX0_rememberDelay wsX5_isTold := goodIn_r _ [10, 11, 48, 49, 50, 51, 52, 53, 54, 55, 56] (by decide +kernel) (by decide +kernel)
set_option maxRecDepth 20000 in
theorem gX0_rememberDelay_X5_isTold : GoodIn wsX0_rememberDelay (wsV RX0 28 RX5 yX5_isTold wsX5_isTold) := goodIn_app (goodIn_of _ (by decide +kernel)) ggX0_rememberDelay_X5_isTold
set_option maxRecDepth 20000 in
theorem ggX0_rememberDelay_X5_z : GoodIn wsX0_rememberDelay wsX5_z := goodIn_r _ [15, 16, 48, 49, 50, 51, 52, 53, 54, 55, 56] (by decide +kernel) (by decide +kernel)
set_option maxRecDepth 20000 in
theorem gX0_rememberDelay_X5_z : GoodIn wsX0_rememberDelay (wsV RX0 36 RX5 yX5_z wsX5_z) := goodIn_app (goodIn_of _ (by decide +kernel)) ggX0_rememberDelay_X5_z
set_option maxRecDepth 20000 in
theorem ggX0_rememberDelay_X5_delayBy : GoodIn wsX0_rememberDelay wsX5_delayBy := goodIn_r _ [20, 11, 21, 22, 23, 24, 9, 25, 26, 27, 28, 29, 30, 31, 32, 33, 34, 48, 49, 50, 51, 52, 53, 54, 55, 56] (by decide +kernel) (by decide +kernel)
set_option maxRecDepth 20000 in
theorem gX0_rememberDelay_X5_delayBy : GoodIn wsX0_rememberDelay (wsV RX0 40 RX5 yX5_delayBy wsX5_delayBy) := goodIn_app (goodIn_of _ (by decide +kernel)) ggX0_rememberDelay_X5_delayBy
set_option maxRecDepth 20000 in
theorem ggX0_rememberDelay_X5_fractionBy : GoodIn wsX0_rememberDelay wsX5_fractionBy := goodIn_r _ [38, 11, 39, 28, 29, 9, 30, 31, 32, 33, 34, 48, 49, 50, 51, 52, 53, 54, 55, 56] (by decide +kernel) (by decide +kernel)
set_option maxRecDepth 20000 in
theorem gX0_rememberDelay_X5_fractionBy : GoodIn wsX0_rememberDelay (wsV RX0 46 RX5 yX5_fractionBy wsX5_fractionBy) := goodIn_app (goodIn_of _ (by decide +kernel)) ggX0_rememberDelay_X5_fractionBy
theorem dX0_rememberDelay_0 : decode cX0_rememberDelay 0 = .ok (.aload_n 0, 1) := by decide +kernel
theorem dX0_rememberDelay_1 : decode cX0_rememberDelay 1 = .ok (.iconst 1, 1) := by decide +kernel
theorem dX0_rememberDelay_2 : decode cX0_rememberDelay 2 = .ok (.putfield 9, 3) := by decide +kernel
theorem dX0_rememberDelay_5 : decode cX0_rememberDelay 5 = .ok (.aload_n 0, 1) := by decide +kernel
theorem dX0_rememberDelay_6 : decode cX0_rememberDelay 6 = .ok (.iload_n 2, 1) := by decide +kernel
theorem dX0_rememberDelay_7 : decode cX0_rememberDelay 7 = .ok (.putfield 13, 3) := by decide +kernel
theorem dX0_rememberDelay_10 : decode cX0_rememberDelay 10 = .ok (.aload_n 0, 1) := by decide +kernel
theorem dX0_rememberDelay_11 : decode cX0_rememberDelay 11 = .ok (.aload_n 1, 1) := by decide +kernel
theorem dX0_rememberDelay_12 : decode cX0_rememberDelay 12 = .ok (.iload_n 2, 1) := by decide +kernel
theorem dX0_rememberDelay_13 : decode cX0_rememberDelay 13 = .ok (.invokevirtual 28, 3) := by decide +kernel
theorem dX0_rememberDelay_16 : decode cX0_rememberDelay 16 = .ok (.putfield 32, 3) := by decide +kernel
theorem dX0_rememberDelay_19 : decode cX0_rememberDelay 19 = .ok (.aload_n 0, 1) := by decide +kernel
theorem dX0_rememberDelay_20 : decode cX0_rememberDelay 20 = .ok (.aload_n 1, 1) := by decide +kernel
theorem dX0_rememberDelay_21 : decode cX0_rememberDelay 21 = .ok (.aload_n 1, 1) := by decide +kernel
theorem dX0_rememberDelay_22 : decode cX0_rememberDelay 22 = .ok (.invokevirtual 36, 3) := by decide +kernel
theorem dX0_rememberDelay_25 : decode cX0_rememberDelay 25 = .ok (.iload_n 2, 1) := by decide +kernel
theorem dX0_rememberDelay_26 : decode cX0_rememberDelay 26 = .ok (.invokevirtual 40, 3) := by decide +kernel
theorem dX0_rememberDelay_29 : decode cX0_rememberDelay 29 = .ok (.putfield 43, 3) := by decide +kernel
theorem dX0_rememberDelay_32 : decode cX0_rememberDelay 32 = .ok (.aload_n 0, 1) := by decide +kernel
theorem dX0_rememberDelay_33 : decode cX0_rememberDelay 33 = .ok (.aload_n 1, 1) := by decide +kernel
theorem dX0_rememberDelay_34 : decode cX0_rememberDelay 34 = .ok (.aload_n 1, 1) := by decide +kernel
theorem dX0_rememberDelay_35 : decode cX0_rememberDelay 35 = .ok (.invokevirtual 36, 3) := by decide +kernel
theorem dX0_rememberDelay_38 : decode cX0_rememberDelay 38 = .ok (.iload_n 2, 1) := by decide +kernel
theorem dX0_rememberDelay_39 : decode cX0_rememberDelay 39 = .ok (.invokevirtual 46, 3) := by decide +kernel
theorem dX0_rememberDelay_42 : decode cX0_rememberDelay 42 = .ok (.putfield 49, 3) := by decide +kernel
theorem dX0_rememberDelay_45 : decode cX0_rememberDelay 45 = .ok (.return_, 1) := by decide +kernel
set_option maxRecDepth 20000 in
theorem ggX0_rememberZ_X5_z : GoodIn wsX0_rememberZ wsX5_z := goodIn_r _ [7, 8, 17, 18, 19, 20, 21, 22, 23, 24, 25] (by decide +kernel) (by decide +kernel)
set_option maxRecDepth 20000 in
theorem gX0_rememberZ_X5_z : GoodIn wsX0_rememberZ (wsV RX0 36 RX5 yX5_z wsX5_z) := goodIn_app (goodIn_of _ (by decide +kernel)) ggX0_rememberZ_X5_z
theorem dX0_rememberZ_0 : decode cX0_rememberZ 0 = .ok (.aload_n 0, 1) := by decide +kernel
theorem dX0_rememberZ_1 : decode cX0_rememberZ 1 = .ok (.iconst 2, 1) := by decide +kernel
theorem dX0_rememberZ_2 : decode cX0_rememberZ 2 = .ok (.putfield 9, 3) := by decide +kernel
theorem dX0_rememberZ_5 : decode cX0_rememberZ 5 = .ok (.aload_n 0, 1) := by decide +kernel
theorem dX0_rememberZ_6 : decode cX0_rememberZ 6 = .ok (.aload_n 1, 1) := by decide +kernel
theorem dX0_rememberZ_7 : decode cX0_rememberZ 7 = .ok (.invokevirtual 36, 3) := by decide +kernel
theorem dX0_rememberZ_10 : decode cX0_rememberZ 10 = .ok (.putfield 52, 3) := by decide +kernel
theorem dX0_rememberZ_13 : decode cX0_rememberZ 13 = .ok (.return_, 1) := by decide +kernel
set_option maxRecDepth 20000 in
theorem ggX0_restore_X5_setLength : GoodIn wsX0_restore wsX5_setLength := goodIn_r _ [13, 14, 15, 16, 17, 18, 12, 19, 44, 45, 46, 47, 48, 49, 50, 51, 52] (by decide +kernel) (by decide +kernel)
set_option maxRecDepth 20000 in
theorem gX0_restore_X5_setLength : GoodIn wsX0_restore (wsV RX0 54 RX5 yX5_setLength wsX5_setLength) := goodIn_app (goodIn_of _ (by decide +kernel)) ggX0_restore_X5_setLength
set_option maxRecDepth 20000 in
theorem ggX0_restore_X5_setZ : GoodIn wsX0_restore wsX5_setZ := goodIn_r _ [23, 24, 44, 45, 46, 47, 48, 49, 50, 51, 52] (by decide +kernel) (by decide +kernel)
set_option maxRecDepth 20000 in
theorem gX0_restore_X5_setZ : GoodIn wsX0_restore (wsV RX0 58 RX5 yX5_setZ wsX5_setZ) := goodIn_app (goodIn_of _ (by decide +kernel)) ggX0_restore_X5_setZ
set_option maxRecDepth 20000 in
theorem ggX0_restore_X5_tell : GoodIn wsX0_restore wsX5_tell := goodIn_r _ [28, 29, 30, 31, 44, 45, 46, 47, 48, 49, 50, 51, 52] (by decide +kernel) (by decide +kernel)
set_option maxRecDepth 20000 in
theorem gX0_restore_X5_tell : GoodIn wsX0_restore (wsV RX0 62 RX5 yX5_tell wsX5_tell) := goodIn_app (goodIn_of _ (by decide +kernel)) ggX0_restore_X5_tell
set_option maxRecDepth 20000 in
theorem ggX0_restore_X5_untell : GoodIn wsX0_restore wsX5_untell := goodIn_r _ [35, 29, 30, 31, 44, 45, 46, 47, 48, 49, 50, 51, 52] (by decide +kernel) (by decide +kernel)
set_option maxRecDepth 20000 in
theorem gX0_restore_X5_untell : GoodIn wsX0_restore (wsV RX0 65 RX5 yX5_untell wsX5_untell) := goodIn_app (goodIn_of _ (by decide +kernel)) ggX0_restore_X5_untell
theorem dX0_restore_0 : decode cX0_restore 0 = .ok (.aload_n 0, 1) := by decide +kernel
theorem dX0_restore_1 : decode cX0_restore 1 = .ok (.getfield 9, 3) := by decide +kernel
theorem dX0_restore_4 : decode cX0_restore 4 = .ok (.ifCond .ne 22, 3) := by decide +kernel
theorem dX0_restore_7 : decode cX0_restore 7 = .ok (.aload_n 1, 1) := by decide +kernel
theorem dX0_restore_8 : decode cX0_restore 8 = .ok (.aload_n 0, 1) := by decide +kernel
theorem dX0_restore_9 : decode cX0_restore 9 = .ok (.getfield 13, 3) := by decide +kernel
theorem dX0_restore_12 : decode cX0_restore 12 = .ok (.aload_n 0, 1) := by decide +kernel
theorem dX0_restore_13 : decode cX0_restore 13 = .ok (.getfield 16, 3) := by decide +kernel
theorem dX0_restore_16 : decode cX0_restore 16 = .ok (.aload_n 0, 1) := by decide +kernel
theorem dX0_restore_17 : decode cX0_restore 17 = .ok (.getfield 25, 3) := by decide +kernel
theorem dX0_restore_20 : decode cX0_restore 20 = .ok (.invokevirtual 54, 3) := by decide +kernel
theorem dX0_restore_23 : decode cX0_restore 23 = .ok (.goto 56, 3) := by decide +kernel
theorem dX0_restore_26 : decode cX0_restore 26 = .ok (.aload_n 0, 1) := by decide +kernel
theorem dX0_restore_27 : decode cX0_restore 27 = .ok (.getfield 9, 3) := by decide +kernel
theorem dX0_restore_30 : decode cX0_restore 30 = .ok (.iconst 2, 1) := by decide +kernel
theorem dX0_restore_31 : decode cX0_restore 31 = .ok (.if_icmp .ne 14, 3) := by decide +kernel
theorem dX0_restore_34 : decode cX0_restore 34 = .ok (.aload_n 1, 1) := by decide +kernel
theorem dX0_restore_35 : decode cX0_restore 35 = .ok (.aload_n 0, 1) := by decide +kernel
theorem dX0_restore_36 : decode cX0_restore 36 = .ok (.getfield 52, 3) := by decide +kernel
theorem dX0_restore_39 : decode cX0_restore 39 = .ok (.invokevirtual 58, 3) := by decide +kernel
theorem dX0_restore_42 : decode cX0_restore 42 = .ok (.goto 37, 3) := by decide +kernel
theorem dX0_restore_45 : decode cX0_restore 45 = .ok (.aload_n 0, 1) := by decide +kernel
theorem dX0_restore_46 : decode cX0_restore 46 = .ok (.getfield 32, 3) := by decide +kernel
theorem dX0_restore_49 : decode cX0_restore 49 = .ok (.ifCond .eq 22, 3) := by decide +kernel
theorem dX0_restore_52 : decode cX0_restore 52 = .ok (.aload_n 1, 1) := by decide +kernel
theorem dX0_restore_53 : decode cX0_restore 53 = .ok (.aload_n 0, 1) := by decide +kernel
theorem dX0_restore_54 : decode cX0_restore 54 = .ok (.getfield 13, 3) := by decide +kernel
theorem dX0_restore_57 : decode cX0_restore 57 = .ok (.aload_n 0, 1) := by decide +kernel
theorem dX0_restore_58 : decode cX0_restore 58 = .ok (.getfield 43, 3) := by decide +kernel
theorem dX0_restore_61 : decode cX0_restore 61 = .ok (.aload_n 0, 1) := by decide +kernel
theorem dX0_restore_62 : decode cX0_restore 62 = .ok (.getfield 49, 3) := by decide +kernel
theorem dX0_restore_65 : decode cX0_restore 65 = .ok (.invokevirtual 62, 3) := by decide +kernel
theorem dX0_restore_68 : decode cX0_restore 68 = .ok (.goto 11, 3) := by decide +kernel
theorem dX0_restore_71 : decode cX0_restore 71 = .ok (.aload_n 1, 1) := by decide +kernel
theorem dX0_restore_72 : decode cX0_restore 72 = .ok (.aload_n 0, 1) := by decide +kernel
theorem dX0_restore_73 : decode cX0_restore 73 = .ok (.getfield 13, 3) := by decide +kernel
theorem dX0_restore_76 : decode cX0_restore 76 = .ok (.invokevirtual 65, 3) := by decide +kernel
theorem dX0_restore_79 : decode cX0_restore 79 = .ok (.return_, 1) := by decide +kernel
theorem dX1_init_0 : decode cX1_init 0 = .ok (.aload_n 0, 1) := by decide +kernel
theorem dX1_init_1 : decode cX1_init 1 = .ok (.invokespecial 3, 3) := by decide +kernel
theorem dX1_init_4 : decode cX1_init 4 = .ok (.aload_n 0, 1) := by decide +kernel
theorem dX1_init_5 : decode cX1_init 5 = .ok (.bipush 16, 2) := by decide +kernel
theorem dX1_init_7 : decode cX1_init 7 = .ok (.newarray .int, 2) := by decide +kernel
theorem dX1_init_9 : decode cX1_init 9 = .ok (.putfield 9, 3) := by decide +kernel
theorem dX1_init_12 : decode cX1_init 12 = .ok (.aload_n 0, 1) := by decide +kernel
theorem dX1_init_13 : decode cX1_init 13 = .ok (.bipush 16, 2) := by decide +kernel
theorem dX1_init_15 : decode cX1_init 15 = .ok (.newarray .int, 2) := by decide +kernel
theorem dX1_init_17 : decode cX1_init 17 = .ok (.putfield 15, 3) := by decide +kernel
theorem dX1_init_20 : decode cX1_init 20 = .ok (.aload_n 0, 1) := by decide +kernel
theorem dX1_init_21 : decode cX1_init 21 = .ok (.bipush 16, 2) := by decide +kernel
theorem dX1_init_23 : decode cX1_init 23 = .ok (.newarray .int, 2) := by decide +kernel
theorem dX1_init_25 : decode cX1_init 25 = .ok (.putfield 18, 3) := by decide +kernel
theorem dX1_init_28 : decode cX1_init 28 = .ok (.aload_n 0, 1) := by decide +kernel
theorem dX1_init_29 : decode cX1_init 29 = .ok (.aload_n 1, 1) := by decide +kernel
theorem dX1_init_30 : decode cX1_init 30 = .ok (.putfield 21, 3) := by decide +kernel
theorem dX1_init_33 : decode cX1_init 33 = .ok (.aload_n 0, 1) := by decide +kernel
theorem dX1_init_34 : decode cX1_init 34 = .ok (.aload_n 2, 1) := by decide +kernel
theorem dX1_init_35 : decode cX1_init 35 = .ok (.putfield 25, 3) := by decide +kernel
theorem dX1_init_38 : decode cX1_init 38 = .ok (.return_, 1) := by decide +kernel
set_option maxRecDepth 20000 in
theorem ggX1_settleBy_X5_places : GoodIn wsX1_settleBy wsX5_places := goodIn_r _ [9, 10, 70, 71, 72, 73, 74, 75, 76, 77, 78] (by decide +kernel) (by decide +kernel)
set_option maxRecDepth 20000 in
theorem gX1_settleBy_X5_places : GoodIn wsX1_settleBy (wsV RX1 29 RX5 yX5_places wsX5_places) := goodIn_app (goodIn_of _ (by decide +kernel)) ggX1_settleBy_X5_places
set_option maxRecDepth 20000 in
theorem ggX1_settleBy_X5_delayBy : GoodIn wsX1_settleBy wsX5_delayBy := goodIn_r _ [14, 15, 16, 17, 18, 19, 8, 20, 21, 22, 23, 24, 25, 26, 27, 28, 29, 70, 71, 72, 73, 74, 75, 76, 77, 78] (by decide +kernel) (by decide +kernel)
set_option maxRecDepth 20000 in
theorem gX1_settleBy_X5_delayBy : GoodIn wsX1_settleBy (wsV RX1 35 RX5 yX5_delayBy wsX5_delayBy) := goodIn_app (goodIn_of _ (by decide +kernel)) ggX1_settleBy_X5_delayBy
set_option maxRecDepth 20000 in
theorem ggX1_settleBy_X5_fractionBy : GoodIn wsX1_settleBy wsX5_fractionBy := goodIn_r _ [33, 15, 34, 23, 24, 8, 25, 26, 27, 28, 29, 70, 71, 72, 73, 74, 75, 76, 77, 78] (by decide +kernel) (by decide +kernel)
set_option maxRecDepth 20000 in
theorem gX1_settleBy_X5_fractionBy : GoodIn wsX1_settleBy (wsV RX1 39 RX5 yX5_fractionBy wsX5_fractionBy) := goodIn_app (goodIn_of _ (by decide +kernel)) ggX1_settleBy_X5_fractionBy
set_option maxRecDepth 20000 in
theorem ggX1_settleBy_X1_findGreatestDelay : GoodIn wsX1_settleBy wsX1_findGreatestDelay := goodIn_r _ [39, 40, 1, 2, 41, 42, 43, 44, 5, 6, 7, 8, 9, 10, 64, 65, 66, 67, 68, 69, 70, 71, 72, 73, 74, 75, 76, 77, 78] (by decide +kernel) (by decide +kernel)
set_option maxRecDepth 20000 in
theorem gX1_settleBy_X1_findGreatestDelay : GoodIn wsX1_settleBy (wsV RX1 42 RX1 yX1_findGreatestDelay wsX1_findGreatestDelay) := goodIn_app (goodIn_of _ (by decide +kernel)) ggX1_settleBy_X1_findGreatestDelay
set_option maxRecDepth 20000 in
theorem ggX1_settleBy_X1_earliestAt : GoodIn wsX1_settleBy wsX1_earliestAt := goodIn_r _ [48, 1, 49, 50, 51, 52, 38, 53, 40, 2, 5, 6, 7, 8, 9, 10, 54, 55, 56, 57, 58, 59, 60, 61, 62, 63, 3, 64, 65, 66, 67, 68, 69, 70, 71, 72, 73, 74, 75, 76, 77, 78, 79] (by decide +kernel) (by decide +kernel)
set_option maxRecDepth 20000 in
theorem gX1_settleBy_X1_earliestAt : GoodIn wsX1_settleBy (wsV RX1 45 RX1 yX1_earliestAt wsX1_earliestAt) := goodIn_app (goodIn_of _ (by decide +kernel)) ggX1_settleBy_X1_earliestAt
theorem dX1_settleBy_0 : decode cX1_settleBy 0 = .ok (.iconst 0, 1) := by decide +kernel
theorem dX1_settleBy_1 : decode cX1_settleBy 1 = .ok (.istore_n 2, 1) := by decide +kernel
theorem dX1_settleBy_2 : decode cX1_settleBy 2 = .ok (.iload_n 2, 1) := by decide +kernel
theorem dX1_settleBy_3 : decode cX1_settleBy 3 = .ok (.aload_n 0, 1) := by decide +kernel
theorem dX1_settleBy_4 : decode cX1_settleBy 4 = .ok (.getfield 21, 3) := by decide +kernel
theorem dX1_settleBy_7 : decode cX1_settleBy 7 = .ok (.invokevirtual 29, 3) := by decide +kernel
theorem dX1_settleBy_10 : decode cX1_settleBy 10 = .ok (.if_icmp .ge 39, 3) := by decide +kernel
theorem dX1_settleBy_13 : decode cX1_settleBy 13 = .ok (.aload_n 0, 1) := by decide +kernel
theorem dX1_settleBy_14 : decode cX1_settleBy 14 = .ok (.getfield 9, 3) := by decide +kernel
theorem dX1_settleBy_17 : decode cX1_settleBy 17 = .ok (.iload_n 2, 1) := by decide +kernel
theorem dX1_settleBy_18 : decode cX1_settleBy 18 = .ok (.aload_n 0, 1) := by decide +kernel
theorem dX1_settleBy_19 : decode cX1_settleBy 19 = .ok (.getfield 21, 3) := by decide +kernel
theorem dX1_settleBy_22 : decode cX1_settleBy 22 = .ok (.iload_n 1, 1) := by decide +kernel
theorem dX1_settleBy_23 : decode cX1_settleBy 23 = .ok (.iload_n 2, 1) := by decide +kernel
theorem dX1_settleBy_24 : decode cX1_settleBy 24 = .ok (.invokevirtual 35, 3) := by decide +kernel
theorem dX1_settleBy_27 : decode cX1_settleBy 27 = .ok (.iastore, 1) := by decide +kernel
theorem dX1_settleBy_28 : decode cX1_settleBy 28 = .ok (.aload_n 0, 1) := by decide +kernel
theorem dX1_settleBy_29 : decode cX1_settleBy 29 = .ok (.getfield 15, 3) := by decide +kernel
theorem dX1_settleBy_32 : decode cX1_settleBy 32 = .ok (.iload_n 2, 1) := by decide +kernel
theorem dX1_settleBy_33 : decode cX1_settleBy 33 = .ok (.aload_n 0, 1) := by decide +kernel
theorem dX1_settleBy_34 : decode cX1_settleBy 34 = .ok (.getfield 21, 3) := by decide +kernel
theorem dX1_settleBy_37 : decode cX1_settleBy 37 = .ok (.iload_n 1, 1) := by decide +kernel
theorem dX1_settleBy_38 : decode cX1_settleBy 38 = .ok (.iload_n 2, 1) := by decide +kernel
theorem dX1_settleBy_39 : decode cX1_settleBy 39 = .ok (.invokevirtual 39, 3) := by decide +kernel
theorem dX1_settleBy_42 : decode cX1_settleBy 42 = .ok (.iastore, 1) := by decide +kernel
theorem dX1_settleBy_43 : decode cX1_settleBy 43 = .ok (.iinc 2 1, 3) := by decide +kernel
theorem dX1_settleBy_46 : decode cX1_settleBy 46 = .ok (.goto (-44), 3) := by decide +kernel
theorem dX1_settleBy_49 : decode cX1_settleBy 49 = .ok (.aload_n 0, 1) := by decide +kernel
theorem dX1_settleBy_50 : decode cX1_settleBy 50 = .ok (.invokevirtual 42, 3) := by decide +kernel
theorem dX1_settleBy_53 : decode cX1_settleBy 53 = .ok (.iconst 0, 1) := by decide +kernel
theorem dX1_settleBy_54 : decode cX1_settleBy 54 = .ok (.istore_n 2, 1) := by decide +kernel
theorem dX1_settleBy_55 : decode cX1_settleBy 55 = .ok (.iload_n 2, 1) := by decide +kernel
theorem dX1_settleBy_56 : decode cX1_settleBy 56 = .ok (.aload_n 0, 1) := by decide +kernel
theorem dX1_settleBy_57 : decode cX1_settleBy 57 = .ok (.getfield 21, 3) := by decide +kernel
theorem dX1_settleBy_60 : decode cX1_settleBy 60 = .ok (.invokevirtual 29, 3) := by decide +kernel
theorem dX1_settleBy_63 : decode cX1_settleBy 63 = .ok (.if_icmp .ge 20, 3) := by decide +kernel
theorem dX1_settleBy_66 : decode cX1_settleBy 66 = .ok (.aload_n 0, 1) := by decide +kernel
theorem dX1_settleBy_67 : decode cX1_settleBy 67 = .ok (.getfield 18, 3) := by decide +kernel
theorem dX1_settleBy_70 : decode cX1_settleBy 70 = .ok (.iload_n 2, 1) := by decide +kernel
theorem dX1_settleBy_71 : decode cX1_settleBy 71 = .ok (.aload_n 0, 1) := by decide +kernel
theorem dX1_settleBy_72 : decode cX1_settleBy 72 = .ok (.iload_n 2, 1) := by decide +kernel
theorem dX1_settleBy_73 : decode cX1_settleBy 73 = .ok (.invokevirtual 45, 3) := by decide +kernel
theorem dX1_settleBy_76 : decode cX1_settleBy 76 = .ok (.iastore, 1) := by decide +kernel
theorem dX1_settleBy_77 : decode cX1_settleBy 77 = .ok (.iinc 2 1, 3) := by decide +kernel
theorem dX1_settleBy_80 : decode cX1_settleBy 80 = .ok (.goto (-25), 3) := by decide +kernel
theorem dX1_settleBy_83 : decode cX1_settleBy 83 = .ok (.return_, 1) := by decide +kernel
set_option maxRecDepth 20000 in
theorem ggX1_replaceDelay_X1_findGreatestDelay : GoodIn wsX1_replaceDelay wsX1_findGreatestDelay := goodIn_r _ [6, 7, 8, 1, 9, 10, 11, 12, 13, 14, 15, 16, 17, 18, 19, 20, 21, 22, 23, 24, 25, 26, 27, 28, 29, 30, 31, 32, 33] (by decide +kernel) (by decide +kernel)
set_option maxRecDepth 20000 in
theorem gX1_replaceDelay_X1_findGreatestDelay : GoodIn wsX1_replaceDelay (wsV RX1 42 RX1 yX1_findGreatestDelay wsX1_findGreatestDelay) := goodIn_app (goodIn_of _ (by decide +kernel)) ggX1_replaceDelay_X1_findGreatestDelay
theorem dX1_replaceDelay_0 : decode cX1_replaceDelay 0 = .ok (.aload_n 0, 1) := by decide +kernel
theorem dX1_replaceDelay_1 : decode cX1_replaceDelay 1 = .ok (.getfield 9, 3) := by decide +kernel
theorem dX1_replaceDelay_4 : decode cX1_replaceDelay 4 = .ok (.iload_n 1, 1) := by decide +kernel
theorem dX1_replaceDelay_5 : decode cX1_replaceDelay 5 = .ok (.iload_n 2, 1) := by decide +kernel
theorem dX1_replaceDelay_6 : decode cX1_replaceDelay 6 = .ok (.iastore, 1) := by decide +kernel
theorem dX1_replaceDelay_7 : decode cX1_replaceDelay 7 = .ok (.aload_n 0, 1) := by decide +kernel
theorem dX1_replaceDelay_8 : decode cX1_replaceDelay 8 = .ok (.invokevirtual 42, 3) := by decide +kernel
theorem dX1_replaceDelay_11 : decode cX1_replaceDelay 11 = .ok (.return_, 1) := by decide +kernel
set_option maxRecDepth 20000 in
theorem ggX1_findGreatestDelay_X5_places : GoodIn wsX1_findGreatestDelay wsX5_places := goodIn_r _ [12, 13, 20, 21, 22, 23, 24, 25, 26, 27, 28] (by decide +kernel) (by decide +kernel)
set_option maxRecDepth 20000 in
theorem gX1_findGreatestDelay_X5_places : GoodIn wsX1_findGreatestDelay (wsV RX1 29 RX5 yX5_places wsX5_places) := goodIn_app (goodIn_of _ (by decide +kernel)) ggX1_findGreatestDelay_X5_places
theorem dX1_findGreatestDelay_0 : decode cX1_findGreatestDelay 0 = .ok (.aload_n 0, 1) := by decide +kernel
theorem dX1_findGreatestDelay_1 : decode cX1_findGreatestDelay 1 = .ok (.iconst 0, 1) := by decide +kernel
theorem dX1_findGreatestDelay_2 : decode cX1_findGreatestDelay 2 = .ok (.putfield 49, 3) := by decide +kernel
theorem dX1_findGreatestDelay_5 : decode cX1_findGreatestDelay 5 = .ok (.iconst 0, 1) := by decide +kernel
theorem dX1_findGreatestDelay_6 : decode cX1_findGreatestDelay 6 = .ok (.istore_n 1, 1) := by decide +kernel
theorem dX1_findGreatestDelay_7 : decode cX1_findGreatestDelay 7 = .ok (.iload_n 1, 1) := by decide +kernel
theorem dX1_findGreatestDelay_8 : decode cX1_findGreatestDelay 8 = .ok (.aload_n 0, 1) := by decide +kernel
theorem dX1_findGreatestDelay_9 : decode cX1_findGreatestDelay 9 = .ok (.getfield 21, 3) := by decide +kernel
theorem dX1_findGreatestDelay_12 : decode cX1_findGreatestDelay 12 = .ok (.invokevirtual 29, 3) := by decide +kernel
theorem dX1_findGreatestDelay_15 : decode cX1_findGreatestDelay 15 = .ok (.if_icmp .ge 26, 3) := by decide +kernel
theorem dX1_findGreatestDelay_18 : decode cX1_findGreatestDelay 18 = .ok (.aload_n 0, 1) := by decide +kernel
theorem dX1_findGreatestDelay_19 : decode cX1_findGreatestDelay 19 = .ok (.aload_n 0, 1) := by decide +kernel
theorem dX1_findGreatestDelay_20 : decode cX1_findGreatestDelay 20 = .ok (.getfield 49, 3) := by decide +kernel
theorem dX1_findGreatestDelay_23 : decode cX1_findGreatestDelay 23 = .ok (.aload_n 0, 1) := by decide +kernel
theorem dX1_findGreatestDelay_24 : decode cX1_findGreatestDelay 24 = .ok (.getfield 9, 3) := by decide +kernel
theorem dX1_findGreatestDelay_27 : decode cX1_findGreatestDelay 27 = .ok (.iload_n 1, 1) := by decide +kernel
theorem dX1_findGreatestDelay_28 : decode cX1_findGreatestDelay 28 = .ok (.iaload, 1) := by decide +kernel
theorem dX1_findGreatestDelay_29 : decode cX1_findGreatestDelay 29 = .ok (.invokestatic 53, 3) := by decide +kernel
theorem dX1_findGreatestDelay_32 : decode cX1_findGreatestDelay 32 = .ok (.putfield 49, 3) := by decide +kernel
theorem dX1_findGreatestDelay_35 : decode cX1_findGreatestDelay 35 = .ok (.iinc 1 1, 3) := by decide +kernel
theorem dX1_findGreatestDelay_38 : decode cX1_findGreatestDelay 38 = .ok (.goto (-31), 3) := by decide +kernel
theorem dX1_findGreatestDelay_41 : decode cX1_findGreatestDelay 41 = .ok (.return_, 1) := by decide +kernel
set_option maxRecDepth 20000 in
theorem ggX1_earliestAt_X1_startOf : GoodIn wsX1_earliestAt wsX1_startOf := goodIn_r _ [7, 8, 9, 27, 28, 29, 30, 31, 32] (by decide +kernel) (by decide +kernel)
set_option maxRecDepth 20000 in
theorem gX1_earliestAt_X1_startOf : GoodIn wsX1_earliestAt (wsV RX1 58 RX1 yX1_startOf wsX1_startOf) := goodIn_app (goodIn_of _ (by decide +kernel)) ggX1_earliestAt_X1_startOf
set_option maxRecDepth 20000 in
theorem ggX1_earliestAt_X5_places : GoodIn wsX1_earliestAt wsX5_places := goodIn_r _ [14, 15, 33, 34, 35, 36, 37, 38, 39, 40, 41] (by decide +kernel) (by decide +kernel)
set_option maxRecDepth 20000 in
theorem gX1_earliestAt_X5_places : GoodIn wsX1_earliestAt (wsV RX1 29 RX5 yX5_places wsX5_places) := goodIn_app (goodIn_of _ (by decide +kernel)) ggX1_earliestAt_X5_places
set_option maxRecDepth 20000 in
theorem ggX1_earliestAt_X4_between : GoodIn wsX1_earliestAt wsX4_between := goodIn_r _ [20, 21, 42] (by decide +kernel) (by decide +kernel)
set_option maxRecDepth 20000 in
theorem gX1_earliestAt_X4_between : GoodIn wsX1_earliestAt (wsV RX1 61 RX4 yX4_between wsX4_between) := goodIn_app (goodIn_of _ (by decide +kernel)) ggX1_earliestAt_X4_between
set_option maxRecDepth 20000 in
theorem ggX1_earliestAt_X1_winsTie : GoodIn wsX1_earliestAt wsX1_winsTie := goodIn_r _ [25, 26, 27, 28, 29, 30, 31, 32] (by decide +kernel) (by decide +kernel)
set_option maxRecDepth 20000 in
theorem gX1_earliestAt_X1_winsTie : GoodIn wsX1_earliestAt (wsV RX1 66 RX1 yX1_winsTie wsX1_winsTie) := goodIn_app (goodIn_of _ (by decide +kernel)) ggX1_earliestAt_X1_winsTie
theorem dX1_earliestAt_0 : decode cX1_earliestAt 0 = .ok (.iload_n 1, 1) := by decide +kernel
theorem dX1_earliestAt_1 : decode cX1_earliestAt 1 = .ok (.istore_n 2, 1) := by decide +kernel
theorem dX1_earliestAt_2 : decode cX1_earliestAt 2 = .ok (.aload_n 0, 1) := by decide +kernel
theorem dX1_earliestAt_3 : decode cX1_earliestAt 3 = .ok (.iload_n 1, 1) := by decide +kernel
theorem dX1_earliestAt_4 : decode cX1_earliestAt 4 = .ok (.invokevirtual 58, 3) := by decide +kernel
theorem dX1_earliestAt_7 : decode cX1_earliestAt 7 = .ok (.istore_n 3, 1) := by decide +kernel
theorem dX1_earliestAt_8 : decode cX1_earliestAt 8 = .ok (.iconst 0, 1) := by decide +kernel
theorem dX1_earliestAt_9 : decode cX1_earliestAt 9 = .ok (.istore 4, 2) := by decide +kernel
theorem dX1_earliestAt_11 : decode cX1_earliestAt 11 = .ok (.iload 4, 2) := by decide +kernel
theorem dX1_earliestAt_13 : decode cX1_earliestAt 13 = .ok (.aload_n 0, 1) := by decide +kernel
theorem dX1_earliestAt_14 : decode cX1_earliestAt 14 = .ok (.getfield 21, 3) := by decide +kernel
theorem dX1_earliestAt_17 : decode cX1_earliestAt 17 = .ok (.invokevirtual 29, 3) := by decide +kernel
theorem dX1_earliestAt_20 : decode cX1_earliestAt 20 = .ok (.if_icmp .ge 56, 3) := by decide +kernel
theorem dX1_earliestAt_23 : decode cX1_earliestAt 23 = .ok (.aload_n 0, 1) := by decide +kernel
theorem dX1_earliestAt_24 : decode cX1_earliestAt 24 = .ok (.iload 4, 2) := by decide +kernel
theorem dX1_earliestAt_26 : decode cX1_earliestAt 26 = .ok (.invokevirtual 58, 3) := by decide +kernel
theorem dX1_earliestAt_29 : decode cX1_earliestAt 29 = .ok (.aload_n 0, 1) := by decide +kernel
theorem dX1_earliestAt_30 : decode cX1_earliestAt 30 = .ok (.getfield 25, 3) := by decide +kernel
theorem dX1_earliestAt_33 : decode cX1_earliestAt 33 = .ok (.iload 4, 2) := by decide +kernel
theorem dX1_earliestAt_35 : decode cX1_earliestAt 35 = .ok (.iload_n 1, 1) := by decide +kernel
theorem dX1_earliestAt_36 : decode cX1_earliestAt 36 = .ok (.invokevirtual 61, 3) := by decide +kernel
theorem dX1_earliestAt_39 : decode cX1_earliestAt 39 = .ok (.iadd, 1) := by decide +kernel
theorem dX1_earliestAt_40 : decode cX1_earliestAt 40 = .ok (.istore 5, 2) := by decide +kernel
theorem dX1_earliestAt_42 : decode cX1_earliestAt 42 = .ok (.iload 5, 2) := by decide +kernel
theorem dX1_earliestAt_44 : decode cX1_earliestAt 44 = .ok (.iload_n 3, 1) := by decide +kernel
theorem dX1_earliestAt_45 : decode cX1_earliestAt 45 = .ok (.if_icmp .lt 19, 3) := by decide +kernel
theorem dX1_earliestAt_48 : decode cX1_earliestAt 48 = .ok (.iload 5, 2) := by decide +kernel
theorem dX1_earliestAt_50 : decode cX1_earliestAt 50 = .ok (.iload_n 3, 1) := by decide +kernel
theorem dX1_earliestAt_51 : decode cX1_earliestAt 51 = .ok (.if_icmp .ne 19, 3) := by decide +kernel
theorem dX1_earliestAt_54 : decode cX1_earliestAt 54 = .ok (.aload_n 0, 1) := by decide +kernel
theorem dX1_earliestAt_55 : decode cX1_earliestAt 55 = .ok (.iload 4, 2) := by decide +kernel
theorem dX1_earliestAt_57 : decode cX1_earliestAt 57 = .ok (.iload_n 2, 1) := by decide +kernel
theorem dX1_earliestAt_58 : decode cX1_earliestAt 58 = .ok (.invokevirtual 66, 3) := by decide +kernel
theorem dX1_earliestAt_61 : decode cX1_earliestAt 61 = .ok (.ifCond .eq 9, 3) := by decide +kernel
theorem dX1_earliestAt_64 : decode cX1_earliestAt 64 = .ok (.iload 4, 2) := by decide +kernel
theorem dX1_earliestAt_66 : decode cX1_earliestAt 66 = .ok (.istore_n 2, 1) := by decide +kernel
theorem dX1_earliestAt_67 : decode cX1_earliestAt 67 = .ok (.iload 5, 2) := by decide +kernel
theorem dX1_earliestAt_69 : decode cX1_earliestAt 69 = .ok (.istore_n 3, 1) := by decide +kernel
theorem dX1_earliestAt_70 : decode cX1_earliestAt 70 = .ok (.iinc 4 1, 3) := by decide +kernel
theorem dX1_earliestAt_73 : decode cX1_earliestAt 73 = .ok (.goto (-62), 3) := by decide +kernel
theorem dX1_earliestAt_76 : decode cX1_earliestAt 76 = .ok (.iload_n 2, 1) := by decide +kernel
theorem dX1_earliestAt_77 : decode cX1_earliestAt 77 = .ok (.ireturn, 1) := by decide +kernel
theorem dX1_winsTie_0 : decode cX1_winsTie 0 = .ok (.aload_n 0, 1) := by decide +kernel
theorem dX1_winsTie_1 : decode cX1_winsTie 1 = .ok (.getfield 15, 3) := by decide +kernel
theorem dX1_winsTie_4 : decode cX1_winsTie 4 = .ok (.iload_n 1, 1) := by decide +kernel
theorem dX1_winsTie_5 : decode cX1_winsTie 5 = .ok (.iaload, 1) := by decide +kernel
theorem dX1_winsTie_6 : decode cX1_winsTie 6 = .ok (.aload_n 0, 1) := by decide +kernel
theorem dX1_winsTie_7 : decode cX1_winsTie 7 = .ok (.getfield 15, 3) := by decide +kernel
theorem dX1_winsTie_10 : decode cX1_winsTie 10 = .ok (.iload_n 2, 1) := by decide +kernel
theorem dX1_winsTie_11 : decode cX1_winsTie 11 = .ok (.iaload, 1) := by decide +kernel
theorem dX1_winsTie_12 : decode cX1_winsTie 12 = .ok (.if_icmp .eq 24, 3) := by decide +kernel
theorem dX1_winsTie_15 : decode cX1_winsTie 15 = .ok (.aload_n 0, 1) := by decide +kernel
theorem dX1_winsTie_16 : decode cX1_winsTie 16 = .ok (.getfield 15, 3) := by decide +kernel
theorem dX1_winsTie_19 : decode cX1_winsTie 19 = .ok (.iload_n 1, 1) := by decide +kernel
theorem dX1_winsTie_20 : decode cX1_winsTie 20 = .ok (.iaload, 1) := by decide +kernel
theorem dX1_winsTie_21 : decode cX1_winsTie 21 = .ok (.aload_n 0, 1) := by decide +kernel
theorem dX1_winsTie_22 : decode cX1_winsTie 22 = .ok (.getfield 15, 3) := by decide +kernel
theorem dX1_winsTie_25 : decode cX1_winsTie 25 = .ok (.iload_n 2, 1) := by decide +kernel
theorem dX1_winsTie_26 : decode cX1_winsTie 26 = .ok (.iaload, 1) := by decide +kernel
theorem dX1_winsTie_27 : decode cX1_winsTie 27 = .ok (.if_icmp .ge 7, 3) := by decide +kernel
theorem dX1_winsTie_30 : decode cX1_winsTie 30 = .ok (.iconst 1, 1) := by decide +kernel
theorem dX1_winsTie_31 : decode cX1_winsTie 31 = .ok (.goto 4, 3) := by decide +kernel
theorem dX1_winsTie_34 : decode cX1_winsTie 34 = .ok (.iconst 0, 1) := by decide +kernel
theorem dX1_winsTie_35 : decode cX1_winsTie 35 = .ok (.ireturn, 1) := by decide +kernel
theorem dX1_winsTie_36 : decode cX1_winsTie 36 = .ok (.iload_n 1, 1) := by decide +kernel
theorem dX1_winsTie_37 : decode cX1_winsTie 37 = .ok (.iload_n 2, 1) := by decide +kernel
theorem dX1_winsTie_38 : decode cX1_winsTie 38 = .ok (.if_icmp .ge 7, 3) := by decide +kernel
theorem dX1_winsTie_41 : decode cX1_winsTie 41 = .ok (.iconst 1, 1) := by decide +kernel
theorem dX1_winsTie_42 : decode cX1_winsTie 42 = .ok (.goto 4, 3) := by decide +kernel
theorem dX1_winsTie_45 : decode cX1_winsTie 45 = .ok (.iconst 0, 1) := by decide +kernel
theorem dX1_winsTie_46 : decode cX1_winsTie 46 = .ok (.ireturn, 1) := by decide +kernel
theorem dX1_delayOf_0 : decode cX1_delayOf 0 = .ok (.aload_n 0, 1) := by decide +kernel
theorem dX1_delayOf_1 : decode cX1_delayOf 1 = .ok (.getfield 9, 3) := by decide +kernel
theorem dX1_delayOf_4 : decode cX1_delayOf 4 = .ok (.iload_n 1, 1) := by decide +kernel
theorem dX1_delayOf_5 : decode cX1_delayOf 5 = .ok (.iaload, 1) := by decide +kernel
theorem dX1_delayOf_6 : decode cX1_delayOf 6 = .ok (.ireturn, 1) := by decide +kernel
theorem dX1_fractionOf_0 : decode cX1_fractionOf 0 = .ok (.aload_n 0, 1) := by decide +kernel
theorem dX1_fractionOf_1 : decode cX1_fractionOf 1 = .ok (.getfield 15, 3) := by decide +kernel
theorem dX1_fractionOf_4 : decode cX1_fractionOf 4 = .ok (.iload_n 1, 1) := by decide +kernel
theorem dX1_fractionOf_5 : decode cX1_fractionOf 5 = .ok (.iaload, 1) := by decide +kernel
theorem dX1_fractionOf_6 : decode cX1_fractionOf 6 = .ok (.ireturn, 1) := by decide +kernel
theorem dX1_startOf_0 : decode cX1_startOf 0 = .ok (.aload_n 0, 1) := by decide +kernel
theorem dX1_startOf_1 : decode cX1_startOf 1 = .ok (.getfield 49, 3) := by decide +kernel
theorem dX1_startOf_4 : decode cX1_startOf 4 = .ok (.aload_n 0, 1) := by decide +kernel
theorem dX1_startOf_5 : decode cX1_startOf 5 = .ok (.getfield 9, 3) := by decide +kernel
theorem dX1_startOf_8 : decode cX1_startOf 8 = .ok (.iload_n 1, 1) := by decide +kernel
theorem dX1_startOf_9 : decode cX1_startOf 9 = .ok (.iaload, 1) := by decide +kernel
theorem dX1_startOf_10 : decode cX1_startOf 10 = .ok (.isub, 1) := by decide +kernel
theorem dX1_startOf_11 : decode cX1_startOf 11 = .ok (.ireturn, 1) := by decide +kernel
theorem dX1_headOf_0 : decode cX1_headOf 0 = .ok (.aload_n 0, 1) := by decide +kernel
theorem dX1_headOf_1 : decode cX1_headOf 1 = .ok (.getfield 18, 3) := by decide +kernel
theorem dX1_headOf_4 : decode cX1_headOf 4 = .ok (.iload_n 1, 1) := by decide +kernel
theorem dX1_headOf_5 : decode cX1_headOf 5 = .ok (.iaload, 1) := by decide +kernel
theorem dX1_headOf_6 : decode cX1_headOf 6 = .ok (.ireturn, 1) := by decide +kernel
set_option maxRecDepth 20000 in
theorem ggX1_depthOf_X4_between : GoodIn wsX1_depthOf wsX4_between := goodIn_r _ [7, 8, 15] (by decide +kernel) (by decide +kernel)
set_option maxRecDepth 20000 in
theorem gX1_depthOf_X4_between : GoodIn wsX1_depthOf (wsV RX1 61 RX4 yX4_between wsX4_between) := goodIn_app (goodIn_of _ (by decide +kernel)) ggX1_depthOf_X4_between
theorem dX1_depthOf_0 : decode cX1_depthOf 0 = .ok (.aload_n 0, 1) := by decide +kernel
theorem dX1_depthOf_1 : decode cX1_depthOf 1 = .ok (.getfield 25, 3) := by decide +kernel
theorem dX1_depthOf_4 : decode cX1_depthOf 4 = .ok (.aload_n 0, 1) := by decide +kernel
theorem dX1_depthOf_5 : decode cX1_depthOf 5 = .ok (.getfield 18, 3) := by decide +kernel
theorem dX1_depthOf_8 : decode cX1_depthOf 8 = .ok (.iload_n 1, 1) := by decide +kernel
theorem dX1_depthOf_9 : decode cX1_depthOf 9 = .ok (.iaload, 1) := by decide +kernel
theorem dX1_depthOf_10 : decode cX1_depthOf 10 = .ok (.iload_n 1, 1) := by decide +kernel
theorem dX1_depthOf_11 : decode cX1_depthOf 11 = .ok (.invokevirtual 61, 3) := by decide +kernel
theorem dX1_depthOf_14 : decode cX1_depthOf 14 = .ok (.ireturn, 1) := by decide +kernel
set_option maxRecDepth 20000 in
theorem ggX1_hourOf_X1_startOf : GoodIn wsX1_hourOf wsX1_startOf := goodIn_r _ [6, 7, 8, 20, 21, 22, 23, 24, 25] (by decide +kernel) (by decide +kernel)
set_option maxRecDepth 20000 in
theorem gX1_hourOf_X1_startOf : GoodIn wsX1_hourOf (wsV RX1 58 RX1 yX1_startOf wsX1_startOf) := goodIn_app (goodIn_of _ (by decide +kernel)) ggX1_hourOf_X1_startOf
set_option maxRecDepth 20000 in
theorem ggX1_hourOf_X1_depthOf : GoodIn wsX1_hourOf wsX1_depthOf := goodIn_r _ [12, 13, 1, 14, 15, 16, 17, 18, 19, 20, 21, 22, 23, 24, 25, 26] (by decide +kernel) (by decide +kernel)
set_option maxRecDepth 20000 in
theorem gX1_hourOf_X1_depthOf : GoodIn wsX1_hourOf (wsV RX1 70 RX1 yX1_depthOf wsX1_depthOf) := goodIn_app (goodIn_of _ (by decide +kernel)) ggX1_hourOf_X1_depthOf
theorem dX1_hourOf_0 : decode cX1_hourOf 0 = .ok (.aload_n 0, 1) := by decide +kernel
theorem dX1_hourOf_1 : decode cX1_hourOf 1 = .ok (.aload_n 0, 1) := by decide +kernel
theorem dX1_hourOf_2 : decode cX1_hourOf 2 = .ok (.getfield 18, 3) := by decide +kernel
theorem dX1_hourOf_5 : decode cX1_hourOf 5 = .ok (.iload_n 1, 1) := by decide +kernel
theorem dX1_hourOf_6 : decode cX1_hourOf 6 = .ok (.iaload, 1) := by decide +kernel
theorem dX1_hourOf_7 : decode cX1_hourOf 7 = .ok (.invokevirtual 58, 3) := by decide +kernel
theorem dX1_hourOf_10 : decode cX1_hourOf 10 = .ok (.aload_n 0, 1) := by decide +kernel
theorem dX1_hourOf_11 : decode cX1_hourOf 11 = .ok (.iload_n 1, 1) := by decide +kernel
theorem dX1_hourOf_12 : decode cX1_hourOf 12 = .ok (.invokevirtual 70, 3) := by decide +kernel
theorem dX1_hourOf_15 : decode cX1_hourOf 15 = .ok (.iadd, 1) := by decide +kernel
theorem dX1_hourOf_16 : decode cX1_hourOf 16 = .ok (.ireturn, 1) := by decide +kernel
set_option maxRecDepth 20000 in
theorem ggX1_upOf_X1_isHead : GoodIn wsX1_upOf wsX1_isHead := goodIn_r _ [6, 7, 34, 35, 36, 37, 38, 39] (by decide +kernel) (by decide +kernel)
set_option maxRecDepth 20000 in
theorem gX1_upOf_X1_isHead : GoodIn wsX1_upOf (wsV RX1 73 RX1 yX1_isHead wsX1_isHead) := goodIn_app (goodIn_of _ (by decide +kernel)) ggX1_upOf_X1_isHead
set_option maxRecDepth 20000 in
theorem ggX1_upOf_X5_places : GoodIn wsX1_upOf wsX5_places := goodIn_r _ [12, 13, 40, 41, 42, 43, 44, 45, 46, 47, 48] (by decide +kernel) (by decide +kernel)
set_option maxRecDepth 20000 in
theorem gX1_upOf_X5_places : GoodIn wsX1_upOf (wsV RX1 29 RX5 yX5_places wsX5_places) := goodIn_app (goodIn_of _ (by decide +kernel)) ggX1_upOf_X5_places
set_option maxRecDepth 20000 in
theorem ggX1_upOf_X5_lengthOf : GoodIn wsX1_upOf wsX5_lengthOf := goodIn_r _ [17, 18, 40, 41, 42, 43, 44, 45, 46, 47, 48] (by decide +kernel) (by decide +kernel)
set_option maxRecDepth 20000 in
theorem gX1_upOf_X5_lengthOf : GoodIn wsX1_upOf (wsV RX1 77 RX5 yX5_lengthOf wsX5_lengthOf) := goodIn_app (goodIn_of _ (by decide +kernel)) ggX1_upOf_X5_lengthOf
set_option maxRecDepth 20000 in
theorem ggX1_upOf_X1_isCut : GoodIn wsX1_upOf wsX1_isCut := goodIn_r _ [22, 7, 34, 35, 36, 37, 38, 39] (by decide +kernel) (by decide +kernel)
set_option maxRecDepth 20000 in
theorem gX1_upOf_X1_isCut : GoodIn wsX1_upOf (wsV RX1 80 RX1 yX1_isCut wsX1_isCut) := goodIn_app (goodIn_of _ (by decide +kernel)) ggX1_upOf_X1_isCut
set_option maxRecDepth 20000 in
theorem ggX1_upOf_X1_depthOf : GoodIn wsX1_upOf wsX1_depthOf := goodIn_r _ [26, 27, 7, 28, 29, 30, 31, 32, 33, 34, 35, 36, 37, 38, 39, 49] (by decide +kernel) (by decide +kernel)
set_option maxRecDepth 20000 in
theorem gX1_upOf_X1_depthOf : GoodIn wsX1_upOf (wsV RX1 70 RX1 yX1_depthOf wsX1_depthOf) := goodIn_app (goodIn_of _ (by decide +kernel)) ggX1_upOf_X1_depthOf
theorem dX1_upOf_0 : decode cX1_upOf 0 = .ok (.aload_n 0, 1) := by decide +kernel
theorem dX1_upOf_1 : decode cX1_upOf 1 = .ok (.iload_n 1, 1) := by decide +kernel
theorem dX1_upOf_2 : decode cX1_upOf 2 = .ok (.invokevirtual 73, 3) := by decide +kernel
theorem dX1_upOf_5 : decode cX1_upOf 5 = .ok (.ifCond .eq 6, 3) := by decide +kernel
theorem dX1_upOf_8 : decode cX1_upOf 8 = .ok (.bipush (-4), 2) := by decide +kernel
theorem dX1_upOf_10 : decode cX1_upOf 10 = .ok (.ireturn, 1) := by decide +kernel
theorem dX1_upOf_11 : decode cX1_upOf 11 = .ok (.iconst 0, 1) := by decide +kernel
theorem dX1_upOf_12 : decode cX1_upOf 12 = .ok (.istore_n 2, 1) := by decide +kernel
theorem dX1_upOf_13 : decode cX1_upOf 13 = .ok (.iload_n 2, 1) := by decide +kernel
theorem dX1_upOf_14 : decode cX1_upOf 14 = .ok (.aload_n 0, 1) := by decide +kernel
theorem dX1_upOf_15 : decode cX1_upOf 15 = .ok (.getfield 21, 3) := by decide +kernel
theorem dX1_upOf_18 : decode cX1_upOf 18 = .ok (.invokevirtual 29, 3) := by decide +kernel
theorem dX1_upOf_21 : decode cX1_upOf 21 = .ok (.if_icmp .ge 49, 3) := by decide +kernel
theorem dX1_upOf_24 : decode cX1_upOf 24 = .ok (.aload_n 0, 1) := by decide +kernel
theorem dX1_upOf_25 : decode cX1_upOf 25 = .ok (.getfield 21, 3) := by decide +kernel
theorem dX1_upOf_28 : decode cX1_upOf 28 = .ok (.iload_n 1, 1) := by decide +kernel
theorem dX1_upOf_29 : decode cX1_upOf 29 = .ok (.iload_n 2, 1) := by decide +kernel
theorem dX1_upOf_30 : decode cX1_upOf 30 = .ok (.invokevirtual 77, 3) := by decide +kernel
theorem dX1_upOf_33 : decode cX1_upOf 33 = .ok (.istore_n 3, 1) := by decide +kernel
theorem dX1_upOf_34 : decode cX1_upOf 34 = .ok (.iload_n 3, 1) := by decide +kernel
theorem dX1_upOf_35 : decode cX1_upOf 35 = .ok (.ifCond .eq 29, 3) := by decide +kernel
theorem dX1_upOf_38 : decode cX1_upOf 38 = .ok (.aload_n 0, 1) := by decide +kernel
theorem dX1_upOf_39 : decode cX1_upOf 39 = .ok (.iload_n 1, 1) := by decide +kernel
theorem dX1_upOf_40 : decode cX1_upOf 40 = .ok (.iload_n 2, 1) := by decide +kernel
theorem dX1_upOf_41 : decode cX1_upOf 41 = .ok (.invokevirtual 80, 3) := by decide +kernel
theorem dX1_upOf_44 : decode cX1_upOf 44 = .ok (.ifCond .ne 20, 3) := by decide +kernel
theorem dX1_upOf_47 : decode cX1_upOf 47 = .ok (.aload_n 0, 1) := by decide +kernel
theorem dX1_upOf_48 : decode cX1_upOf 48 = .ok (.iload_n 2, 1) := by decide +kernel
theorem dX1_upOf_49 : decode cX1_upOf 49 = .ok (.invokevirtual 70, 3) := by decide +kernel
theorem dX1_upOf_52 : decode cX1_upOf 52 = .ok (.iload_n 3, 1) := by decide +kernel
theorem dX1_upOf_53 : decode cX1_upOf 53 = .ok (.iadd, 1) := by decide +kernel
theorem dX1_upOf_54 : decode cX1_upOf 54 = .ok (.aload_n 0, 1) := by decide +kernel
theorem dX1_upOf_55 : decode cX1_upOf 55 = .ok (.iload_n 1, 1) := by decide +kernel
theorem dX1_upOf_56 : decode cX1_upOf 56 = .ok (.invokevirtual 70, 3) := by decide +kernel
theorem dX1_upOf_59 : decode cX1_upOf 59 = .ok (.if_icmp .ne 5, 3) := by decide +kernel
theorem dX1_upOf_62 : decode cX1_upOf 62 = .ok (.iload_n 2, 1) := by decide +kernel
theorem dX1_upOf_63 : decode cX1_upOf 63 = .ok (.ireturn, 1) := by decide +kernel
theorem dX1_upOf_64 : decode cX1_upOf 64 = .ok (.iinc 2 1, 3) := by decide +kernel
theorem dX1_upOf_67 : decode cX1_upOf 67 = .ok (.goto (-54), 3) := by decide +kernel
theorem dX1_upOf_70 : decode cX1_upOf 70 = .ok (.bipush (-4), 2) := by decide +kernel
theorem dX1_upOf_72 : decode cX1_upOf 72 = .ok (.ireturn, 1) := by decide +kernel
theorem dX1_isHead_0 : decode cX1_isHead 0 = .ok (.aload_n 0, 1) := by decide +kernel
theorem dX1_isHead_1 : decode cX1_isHead 1 = .ok (.getfield 18, 3) := by decide +kernel
theorem dX1_isHead_4 : decode cX1_isHead 4 = .ok (.iload_n 1, 1) := by decide +kernel
theorem dX1_isHead_5 : decode cX1_isHead 5 = .ok (.iaload, 1) := by decide +kernel
theorem dX1_isHead_6 : decode cX1_isHead 6 = .ok (.iload_n 1, 1) := by decide +kernel
theorem dX1_isHead_7 : decode cX1_isHead 7 = .ok (.if_icmp .ne 7, 3) := by decide +kernel
theorem dX1_isHead_10 : decode cX1_isHead 10 = .ok (.iconst 1, 1) := by decide +kernel
theorem dX1_isHead_11 : decode cX1_isHead 11 = .ok (.goto 4, 3) := by decide +kernel
theorem dX1_isHead_14 : decode cX1_isHead 14 = .ok (.iconst 0, 1) := by decide +kernel
theorem dX1_isHead_15 : decode cX1_isHead 15 = .ok (.ireturn, 1) := by decide +kernel
set_option maxRecDepth 20000 in
theorem ggX1_clusters_X5_places : GoodIn wsX1_clusters wsX5_places := goodIn_r _ [6, 7, 24, 25, 26, 27, 28, 29, 30, 31, 32] (by decide +kernel) (by decide +kernel)
set_option maxRecDepth 20000 in
theorem gX1_clusters_X5_places : GoodIn wsX1_clusters (wsV RX1 29 RX5 yX5_places wsX5_places) := goodIn_app (goodIn_of _ (by decide +kernel)) ggX1_clusters_X5_places
set_option maxRecDepth 20000 in
theorem ggX1_clusters_X1_headsBelow : GoodIn wsX1_clusters wsX1_headsBelow := goodIn_r _ [12, 13, 14, 15, 11, 16, 17, 18, 19, 20, 21, 22, 23] (by decide +kernel) (by decide +kernel)
set_option maxRecDepth 20000 in
theorem gX1_clusters_X1_headsBelow : GoodIn wsX1_clusters (wsV RX1 83 RX1 yX1_headsBelow wsX1_headsBelow) := goodIn_app (goodIn_of _ (by decide +kernel)) ggX1_clusters_X1_headsBelow
theorem dX1_clusters_0 : decode cX1_clusters 0 = .ok (.aload_n 0, 1) := by decide +kernel
theorem dX1_clusters_1 : decode cX1_clusters 1 = .ok (.aload_n 0, 1) := by decide +kernel
theorem dX1_clusters_2 : decode cX1_clusters 2 = .ok (.getfield 21, 3) := by decide +kernel
theorem dX1_clusters_5 : decode cX1_clusters 5 = .ok (.invokevirtual 29, 3) := by decide +kernel
theorem dX1_clusters_8 : decode cX1_clusters 8 = .ok (.invokevirtual 83, 3) := by decide +kernel
theorem dX1_clusters_11 : decode cX1_clusters 11 = .ok (.ireturn, 1) := by decide +kernel
set_option maxRecDepth 20000 in
theorem ggX1_numberOf_X1_headsBelow : GoodIn wsX1_numberOf wsX1_headsBelow := goodIn_r _ [6, 7, 8, 9, 5, 10, 1, 11, 12, 13, 14, 15, 16] (by decide +kernel) (by decide +kernel)
set_option maxRecDepth 20000 in
theorem gX1_numberOf_X1_headsBelow : GoodIn wsX1_numberOf (wsV RX1 83 RX1 yX1_headsBelow wsX1_headsBelow) := goodIn_app (goodIn_of _ (by decide +kernel)) ggX1_numberOf_X1_headsBelow
theorem dX1_numberOf_0 : decode cX1_numberOf 0 = .ok (.aload_n 0, 1) := by decide +kernel
theorem dX1_numberOf_1 : decode cX1_numberOf 1 = .ok (.aload_n 0, 1) := by decide +kernel
theorem dX1_numberOf_2 : decode cX1_numberOf 2 = .ok (.getfield 18, 3) := by decide +kernel
theorem dX1_numberOf_5 : decode cX1_numberOf 5 = .ok (.iload_n 1, 1) := by decide +kernel
theorem dX1_numberOf_6 : decode cX1_numberOf 6 = .ok (.iaload, 1) := by decide +kernel
theorem dX1_numberOf_7 : decode cX1_numberOf 7 = .ok (.invokevirtual 83, 3) := by decide +kernel
theorem dX1_numberOf_10 : decode cX1_numberOf 10 = .ok (.ireturn, 1) := by decide +kernel
set_option maxRecDepth 20000 in
theorem ggX1_headsBelow_X1_isHead : GoodIn wsX1_headsBelow wsX1_isHead := goodIn_r _ [5, 6, 7, 8, 9, 10, 11, 12] (by decide +kernel) (by decide +kernel)
set_option maxRecDepth 20000 in
theorem gX1_headsBelow_X1_isHead : GoodIn wsX1_headsBelow (wsV RX1 73 RX1 yX1_isHead wsX1_isHead) := goodIn_app (goodIn_of _ (by decide +kernel)) ggX1_headsBelow_X1_isHead
theorem dX1_headsBelow_0 : decode cX1_headsBelow 0 = .ok (.iconst 0, 1) := by decide +kernel
theorem dX1_headsBelow_1 : decode cX1_headsBelow 1 = .ok (.istore_n 2, 1) := by decide +kernel
theorem dX1_headsBelow_2 : decode cX1_headsBelow 2 = .ok (.iconst 0, 1) := by decide +kernel
theorem dX1_headsBelow_3 : decode cX1_headsBelow 3 = .ok (.istore_n 3, 1) := by decide +kernel
theorem dX1_headsBelow_4 : decode cX1_headsBelow 4 = .ok (.iload_n 3, 1) := by decide +kernel
theorem dX1_headsBelow_5 : decode cX1_headsBelow 5 = .ok (.iload_n 1, 1) := by decide +kernel
theorem dX1_headsBelow_6 : decode cX1_headsBelow 6 = .ok (.if_icmp .ge 20, 3) := by decide +kernel
theorem dX1_headsBelow_9 : decode cX1_headsBelow 9 = .ok (.aload_n 0, 1) := by decide +kernel
theorem dX1_headsBelow_10 : decode cX1_headsBelow 10 = .ok (.iload_n 3, 1) := by decide +kernel
theorem dX1_headsBelow_11 : decode cX1_headsBelow 11 = .ok (.invokevirtual 73, 3) := by decide +kernel
theorem dX1_headsBelow_14 : decode cX1_headsBelow 14 = .ok (.ifCond .eq 6, 3) := by decide +kernel
theorem dX1_headsBelow_17 : decode cX1_headsBelow 17 = .ok (.iinc 2 1, 3) := by decide +kernel
theorem dX1_headsBelow_20 : decode cX1_headsBelow 20 = .ok (.iinc 3 1, 3) := by decide +kernel
theorem dX1_headsBelow_23 : decode cX1_headsBelow 23 = .ok (.goto (-19), 3) := by decide +kernel
theorem dX1_headsBelow_26 : decode cX1_headsBelow 26 = .ok (.iload_n 2, 1) := by decide +kernel
theorem dX1_headsBelow_27 : decode cX1_headsBelow 27 = .ok (.ireturn, 1) := by decide +kernel
set_option maxRecDepth 20000 in
theorem ggX1_headNumbered_X5_places : GoodIn wsX1_headNumbered wsX5_places := goodIn_r _ [6, 7, 28, 29, 30, 31, 32, 33, 34, 35, 36] (by decide +kernel) (by decide +kernel)
set_option maxRecDepth 20000 in
theorem gX1_headNumbered_X5_places : GoodIn wsX1_headNumbered (wsV RX1 29 RX5 yX5_places wsX5_places) := goodIn_app (goodIn_of _ (by decide +kernel)) ggX1_headNumbered_X5_places
set_option maxRecDepth 20000 in
theorem ggX1_headNumbered_X1_isHead : GoodIn wsX1_headNumbered wsX1_isHead := goodIn_r _ [12, 13, 22, 23, 24, 25, 26, 27] (by decide +kernel) (by decide +kernel)
set_option maxRecDepth 20000 in
theorem gX1_headNumbered_X1_isHead : GoodIn wsX1_headNumbered (wsV RX1 73 RX1 yX1_isHead wsX1_isHead) := goodIn_app (goodIn_of _ (by decide +kernel)) ggX1_headNumbered_X1_isHead
set_option maxRecDepth 20000 in
theorem ggX1_headNumbered_X1_numberOf : GoodIn wsX1_headNumbered wsX1_numberOf := goodIn_r _ [17, 13, 18, 19, 20, 11, 21, 8, 9, 10, 12, 22, 23, 24, 25, 26, 27] (by decide +kernel) (by decide +kernel)
set_option maxRecDepth 20000 in
theorem gX1_headNumbered_X1_numberOf : GoodIn wsX1_headNumbered (wsV RX1 86 RX1 yX1_numberOf wsX1_numberOf) := goodIn_app (goodIn_of _ (by decide +kernel)) ggX1_headNumbered_X1_numberOf
theorem dX1_headNumbered_0 : decode cX1_headNumbered 0 = .ok (.iconst 0, 1) := by decide +kernel
theorem dX1_headNumbered_1 : decode cX1_headNumbered 1 = .ok (.istore_n 2, 1) := by decide +kernel
theorem dX1_headNumbered_2 : decode cX1_headNumbered 2 = .ok (.iload_n 2, 1) := by decide +kernel
theorem dX1_headNumbered_3 : decode cX1_headNumbered 3 = .ok (.aload_n 0, 1) := by decide +kernel
theorem dX1_headNumbered_4 : decode cX1_headNumbered 4 = .ok (.getfield 21, 3) := by decide +kernel
theorem dX1_headNumbered_7 : decode cX1_headNumbered 7 = .ok (.invokevirtual 29, 3) := by decide +kernel
theorem dX1_headNumbered_10 : decode cX1_headNumbered 10 = .ok (.if_icmp .ge 28, 3) := by decide +kernel
theorem dX1_headNumbered_13 : decode cX1_headNumbered 13 = .ok (.aload_n 0, 1) := by decide +kernel
theorem dX1_headNumbered_14 : decode cX1_headNumbered 14 = .ok (.iload_n 2, 1) := by decide +kernel
theorem dX1_headNumbered_15 : decode cX1_headNumbered 15 = .ok (.invokevirtual 73, 3) := by decide +kernel
theorem dX1_headNumbered_18 : decode cX1_headNumbered 18 = .ok (.ifCond .eq 14, 3) := by decide +kernel
theorem dX1_headNumbered_21 : decode cX1_headNumbered 21 = .ok (.aload_n 0, 1) := by decide +kernel
theorem dX1_headNumbered_22 : decode cX1_headNumbered 22 = .ok (.iload_n 2, 1) := by decide +kernel
theorem dX1_headNumbered_23 : decode cX1_headNumbered 23 = .ok (.invokevirtual 86, 3) := by decide +kernel
theorem dX1_headNumbered_26 : decode cX1_headNumbered 26 = .ok (.iload_n 1, 1) := by decide +kernel
theorem dX1_headNumbered_27 : decode cX1_headNumbered 27 = .ok (.if_icmp .ne 5, 3) := by decide +kernel
theorem dX1_headNumbered_30 : decode cX1_headNumbered 30 = .ok (.iload_n 2, 1) := by decide +kernel
theorem dX1_headNumbered_31 : decode cX1_headNumbered 31 = .ok (.ireturn, 1) := by decide +kernel
theorem dX1_headNumbered_32 : decode cX1_headNumbered 32 = .ok (.iinc 2 1, 3) := by decide +kernel
theorem dX1_headNumbered_35 : decode cX1_headNumbered 35 = .ok (.goto (-33), 3) := by decide +kernel
theorem dX1_headNumbered_38 : decode cX1_headNumbered 38 = .ok (.bipush (-4), 2) := by decide +kernel
theorem dX1_headNumbered_40 : decode cX1_headNumbered 40 = .ok (.ireturn, 1) := by decide +kernel
set_option maxRecDepth 20000 in
theorem ggX1_membersOf_X5_places : GoodIn wsX1_membersOf wsX5_places := goodIn_r _ [7, 8, 15, 16, 17, 18, 19, 20, 21, 22, 23] (by decide +kernel) (by decide +kernel)
set_option maxRecDepth 20000 in
theorem gX1_membersOf_X5_places : GoodIn wsX1_membersOf (wsV RX1 29 RX5 yX5_places wsX5_places) := goodIn_app (goodIn_of _ (by decide +kernel)) ggX1_membersOf_X5_places
theorem dX1_membersOf_0 : decode cX1_membersOf 0 = .ok (.iconst 0, 1) := by decide +kernel
theorem dX1_membersOf_1 : decode cX1_membersOf 1 = .ok (.istore_n 2, 1) := by decide +kernel
theorem dX1_membersOf_2 : decode cX1_membersOf 2 = .ok (.iconst 0, 1) := by decide +kernel
theorem dX1_membersOf_3 : decode cX1_membersOf 3 = .ok (.istore_n 3, 1) := by decide +kernel
theorem dX1_membersOf_4 : decode cX1_membersOf 4 = .ok (.iload_n 3, 1) := by decide +kernel
theorem dX1_membersOf_5 : decode cX1_membersOf 5 = .ok (.aload_n 0, 1) := by decide +kernel
theorem dX1_membersOf_6 : decode cX1_membersOf 6 = .ok (.getfield 21, 3) := by decide +kernel
theorem dX1_membersOf_9 : decode cX1_membersOf 9 = .ok (.invokevirtual 29, 3) := by decide +kernel
theorem dX1_membersOf_12 : decode cX1_membersOf 12 = .ok (.if_icmp .ge 25, 3) := by decide +kernel
theorem dX1_membersOf_15 : decode cX1_membersOf 15 = .ok (.aload_n 0, 1) := by decide +kernel
theorem dX1_membersOf_16 : decode cX1_membersOf 16 = .ok (.getfield 18, 3) := by decide +kernel
theorem dX1_membersOf_19 : decode cX1_membersOf 19 = .ok (.iload_n 3, 1) := by decide +kernel
theorem dX1_membersOf_20 : decode cX1_membersOf 20 = .ok (.iaload, 1) := by decide +kernel
theorem dX1_membersOf_21 : decode cX1_membersOf 21 = .ok (.iload_n 1, 1) := by decide +kernel
theorem dX1_membersOf_22 : decode cX1_membersOf 22 = .ok (.if_icmp .ne 9, 3) := by decide +kernel
theorem dX1_membersOf_25 : decode cX1_membersOf 25 = .ok (.iload_n 2, 1) := by decide +kernel
theorem dX1_membersOf_26 : decode cX1_membersOf 26 = .ok (.iconst 1, 1) := by decide +kernel
theorem dX1_membersOf_27 : decode cX1_membersOf 27 = .ok (.iload_n 3, 1) := by decide +kernel
theorem dX1_membersOf_28 : decode cX1_membersOf 28 = .ok (.ishl, 1) := by decide +kernel
theorem dX1_membersOf_29 : decode cX1_membersOf 29 = .ok (.ior, 1) := by decide +kernel
theorem dX1_membersOf_30 : decode cX1_membersOf 30 = .ok (.istore_n 2, 1) := by decide +kernel
theorem dX1_membersOf_31 : decode cX1_membersOf 31 = .ok (.iinc 3 1, 3) := by decide +kernel
theorem dX1_membersOf_34 : decode cX1_membersOf 34 = .ok (.goto (-30), 3) := by decide +kernel
theorem dX1_membersOf_37 : decode cX1_membersOf 37 = .ok (.iload_n 2, 1) := by decide +kernel
theorem dX1_membersOf_38 : decode cX1_membersOf 38 = .ok (.ireturn, 1) := by decide +kernel
set_option maxRecDepth 20000 in
theorem ggX1_wideOf_X5_places : GoodIn wsX1_wideOf wsX5_places := goodIn_r _ [11, 12, 31, 32, 33, 34, 35, 36, 37, 38, 39] (by decide +kernel) (by decide +kernel)
set_option maxRecDepth 20000 in
theorem gX1_wideOf_X5_places : GoodIn wsX1_wideOf (wsV RX1 29 RX5 yX5_places wsX5_places) := goodIn_app (goodIn_of _ (by decide +kernel)) ggX1_wideOf_X5_places
set_option maxRecDepth 20000 in
theorem ggX1_wideOf_X1_depthOf : GoodIn wsX1_wideOf wsX1_depthOf := goodIn_r _ [17, 18, 2, 19, 20, 21, 22, 23, 24, 25, 26, 27, 28, 29, 30, 40] (by decide +kernel) (by decide +kernel)
set_option maxRecDepth 20000 in
theorem gX1_wideOf_X1_depthOf : GoodIn wsX1_wideOf (wsV RX1 70 RX1 yX1_depthOf wsX1_depthOf) := goodIn_app (goodIn_of _ (by decide +kernel)) ggX1_wideOf_X1_depthOf
theorem dX1_wideOf_0 : decode cX1_wideOf 0 = .ok (.iconst 0, 1) := by decide +kernel
theorem dX1_wideOf_1 : decode cX1_wideOf 1 = .ok (.istore_n 2, 1) := by decide +kernel
theorem dX1_wideOf_2 : decode cX1_wideOf 2 = .ok (.iconst 0, 1) := by decide +kernel
theorem dX1_wideOf_3 : decode cX1_wideOf 3 = .ok (.istore_n 3, 1) := by decide +kernel
theorem dX1_wideOf_4 : decode cX1_wideOf 4 = .ok (.iload_n 3, 1) := by decide +kernel
theorem dX1_wideOf_5 : decode cX1_wideOf 5 = .ok (.aload_n 0, 1) := by decide +kernel
theorem dX1_wideOf_6 : decode cX1_wideOf 6 = .ok (.getfield 21, 3) := by decide +kernel
theorem dX1_wideOf_9 : decode cX1_wideOf 9 = .ok (.invokevirtual 29, 3) := by decide +kernel
theorem dX1_wideOf_12 : decode cX1_wideOf 12 = .ok (.if_icmp .ge 29, 3) := by decide +kernel
theorem dX1_wideOf_15 : decode cX1_wideOf 15 = .ok (.aload_n 0, 1) := by decide +kernel
theorem dX1_wideOf_16 : decode cX1_wideOf 16 = .ok (.getfield 18, 3) := by decide +kernel
theorem dX1_wideOf_19 : decode cX1_wideOf 19 = .ok (.iload_n 3, 1) := by decide +kernel
theorem dX1_wideOf_20 : decode cX1_wideOf 20 = .ok (.iaload, 1) := by decide +kernel
theorem dX1_wideOf_21 : decode cX1_wideOf 21 = .ok (.iload_n 1, 1) := by decide +kernel
theorem dX1_wideOf_22 : decode cX1_wideOf 22 = .ok (.if_icmp .ne 13, 3) := by decide +kernel
theorem dX1_wideOf_25 : decode cX1_wideOf 25 = .ok (.iload_n 2, 1) := by decide +kernel
theorem dX1_wideOf_26 : decode cX1_wideOf 26 = .ok (.aload_n 0, 1) := by decide +kernel
theorem dX1_wideOf_27 : decode cX1_wideOf 27 = .ok (.iload_n 3, 1) := by decide +kernel
theorem dX1_wideOf_28 : decode cX1_wideOf 28 = .ok (.invokevirtual 70, 3) := by decide +kernel
theorem dX1_wideOf_31 : decode cX1_wideOf 31 = .ok (.invokestatic 53, 3) := by decide +kernel
theorem dX1_wideOf_34 : decode cX1_wideOf 34 = .ok (.istore_n 2, 1) := by decide +kernel
theorem dX1_wideOf_35 : decode cX1_wideOf 35 = .ok (.iinc 3 1, 3) := by decide +kernel
theorem dX1_wideOf_38 : decode cX1_wideOf 38 = .ok (.goto (-34), 3) := by decide +kernel
theorem dX1_wideOf_41 : decode cX1_wideOf 41 = .ok (.iload_n 2, 1) := by decide +kernel
theorem dX1_wideOf_42 : decode cX1_wideOf 42 = .ok (.ireturn, 1) := by decide +kernel
set_option maxRecDepth 20000 in
theorem ggX1_greatestWide_X5_places : GoodIn wsX1_greatestWide wsX5_places := goodIn_r _ [10, 11, 31, 32, 33, 34, 35, 36, 37, 38, 39] (by decide +kernel) (by decide +kernel)
set_option maxRecDepth 20000 in
theorem gX1_greatestWide_X5_places : GoodIn wsX1_greatestWide (wsV RX1 29 RX5 yX5_places wsX5_places) := goodIn_app (goodIn_of _ (by decide +kernel)) ggX1_greatestWide_X5_places
set_option maxRecDepth 20000 in
theorem ggX1_greatestWide_X1_depthOf : GoodIn wsX1_greatestWide wsX1_depthOf := goodIn_r _ [16, 17, 18, 19, 20, 21, 22, 23, 24, 25, 26, 27, 28, 29, 30, 40] (by decide +kernel) (by decide +kernel)
set_option maxRecDepth 20000 in
theorem gX1_greatestWide_X1_depthOf : GoodIn wsX1_greatestWide (wsV RX1 70 RX1 yX1_depthOf wsX1_depthOf) := goodIn_app (goodIn_of _ (by decide +kernel)) ggX1_greatestWide_X1_depthOf
theorem dX1_greatestWide_0 : decode cX1_greatestWide 0 = .ok (.iconst 0, 1) := by decide +kernel
theorem dX1_greatestWide_1 : decode cX1_greatestWide 1 = .ok (.istore_n 1, 1) := by decide +kernel
theorem dX1_greatestWide_2 : decode cX1_greatestWide 2 = .ok (.iconst 0, 1) := by decide +kernel
theorem dX1_greatestWide_3 : decode cX1_greatestWide 3 = .ok (.istore_n 2, 1) := by decide +kernel
theorem dX1_greatestWide_4 : decode cX1_greatestWide 4 = .ok (.iload_n 2, 1) := by decide +kernel
theorem dX1_greatestWide_5 : decode cX1_greatestWide 5 = .ok (.aload_n 0, 1) := by decide +kernel
theorem dX1_greatestWide_6 : decode cX1_greatestWide 6 = .ok (.getfield 21, 3) := by decide +kernel
theorem dX1_greatestWide_9 : decode cX1_greatestWide 9 = .ok (.invokevirtual 29, 3) := by decide +kernel
theorem dX1_greatestWide_12 : decode cX1_greatestWide 12 = .ok (.if_icmp .ge 19, 3) := by decide +kernel
theorem dX1_greatestWide_15 : decode cX1_greatestWide 15 = .ok (.iload_n 1, 1) := by decide +kernel
theorem dX1_greatestWide_16 : decode cX1_greatestWide 16 = .ok (.aload_n 0, 1) := by decide +kernel
theorem dX1_greatestWide_17 : decode cX1_greatestWide 17 = .ok (.iload_n 2, 1) := by decide +kernel
theorem dX1_greatestWide_18 : decode cX1_greatestWide 18 = .ok (.invokevirtual 70, 3) := by decide +kernel
theorem dX1_greatestWide_21 : decode cX1_greatestWide 21 = .ok (.invokestatic 53, 3) := by decide +kernel
theorem dX1_greatestWide_24 : decode cX1_greatestWide 24 = .ok (.istore_n 1, 1) := by decide +kernel
theorem dX1_greatestWide_25 : decode cX1_greatestWide 25 = .ok (.iinc 2 1, 3) := by decide +kernel
theorem dX1_greatestWide_28 : decode cX1_greatestWide 28 = .ok (.goto (-24), 3) := by decide +kernel
theorem dX1_greatestWide_31 : decode cX1_greatestWide 31 = .ok (.iload_n 1, 1) := by decide +kernel
theorem dX1_greatestWide_32 : decode cX1_greatestWide 32 = .ok (.ireturn, 1) := by decide +kernel
set_option maxRecDepth 20000 in
theorem ggX1_lastHour_X5_places : GoodIn wsX1_lastHour wsX5_places := goodIn_r _ [10, 11, 41, 42, 43, 44, 45, 46, 47, 48, 49] (by decide +kernel) (by decide +kernel)
set_option maxRecDepth 20000 in
theorem gX1_lastHour_X5_places : GoodIn wsX1_lastHour (wsV RX1 29 RX5 yX5_places wsX5_places) := goodIn_app (goodIn_of _ (by decide +kernel)) ggX1_lastHour_X5_places
set_option maxRecDepth 20000 in
theorem ggX1_lastHour_X1_hourOf : GoodIn wsX1_lastHour wsX1_hourOf := goodIn_r _ [16, 17, 18, 19, 20, 15, 21, 22, 23, 24, 25, 26, 27, 28, 29, 30, 31, 32, 33, 34, 35, 36, 37, 38, 39, 40, 50] (by decide +kernel) (by decide +kernel)
set_option maxRecDepth 20000 in
theorem gX1_lastHour_X1_hourOf : GoodIn wsX1_lastHour (wsV RX1 89 RX1 yX1_hourOf wsX1_hourOf) := goodIn_app (goodIn_of _ (by decide +kernel)) ggX1_lastHour_X1_hourOf
theorem dX1_lastHour_0 : decode cX1_lastHour 0 = .ok (.iconst 0, 1) := by decide +kernel
theorem dX1_lastHour_1 : decode cX1_lastHour 1 = .ok (.istore_n 1, 1) := by decide +kernel
theorem dX1_lastHour_2 : decode cX1_lastHour 2 = .ok (.iconst 0, 1) := by decide +kernel
theorem dX1_lastHour_3 : decode cX1_lastHour 3 = .ok (.istore_n 2, 1) := by decide +kernel
theorem dX1_lastHour_4 : decode cX1_lastHour 4 = .ok (.iload_n 2, 1) := by decide +kernel
theorem dX1_lastHour_5 : decode cX1_lastHour 5 = .ok (.aload_n 0, 1) := by decide +kernel
theorem dX1_lastHour_6 : decode cX1_lastHour 6 = .ok (.getfield 21, 3) := by decide +kernel
theorem dX1_lastHour_9 : decode cX1_lastHour 9 = .ok (.invokevirtual 29, 3) := by decide +kernel
theorem dX1_lastHour_12 : decode cX1_lastHour 12 = .ok (.if_icmp .ge 19, 3) := by decide +kernel
theorem dX1_lastHour_15 : decode cX1_lastHour 15 = .ok (.iload_n 1, 1) := by decide +kernel
theorem dX1_lastHour_16 : decode cX1_lastHour 16 = .ok (.aload_n 0, 1) := by decide +kernel
theorem dX1_lastHour_17 : decode cX1_lastHour 17 = .ok (.iload_n 2, 1) := by decide +kernel
theorem dX1_lastHour_18 : decode cX1_lastHour 18 = .ok (.invokevirtual 89, 3) := by decide +kernel
theorem dX1_lastHour_21 : decode cX1_lastHour 21 = .ok (.invokestatic 53, 3) := by decide +kernel
theorem dX1_lastHour_24 : decode cX1_lastHour 24 = .ok (.istore_n 1, 1) := by decide +kernel
theorem dX1_lastHour_25 : decode cX1_lastHour 25 = .ok (.iinc 2 1, 3) := by decide +kernel
theorem dX1_lastHour_28 : decode cX1_lastHour 28 = .ok (.goto (-24), 3) := by decide +kernel
theorem dX1_lastHour_31 : decode cX1_lastHour 31 = .ok (.iload_n 1, 1) := by decide +kernel
theorem dX1_lastHour_32 : decode cX1_lastHour 32 = .ok (.ireturn, 1) := by decide +kernel
theorem dX1_isCut_0 : decode cX1_isCut 0 = .ok (.aload_n 0, 1) := by decide +kernel
theorem dX1_isCut_1 : decode cX1_isCut 1 = .ok (.getfield 18, 3) := by decide +kernel
theorem dX1_isCut_4 : decode cX1_isCut 4 = .ok (.iload_n 1, 1) := by decide +kernel
theorem dX1_isCut_5 : decode cX1_isCut 5 = .ok (.iaload, 1) := by decide +kernel
theorem dX1_isCut_6 : decode cX1_isCut 6 = .ok (.aload_n 0, 1) := by decide +kernel
theorem dX1_isCut_7 : decode cX1_isCut 7 = .ok (.getfield 18, 3) := by decide +kernel
theorem dX1_isCut_10 : decode cX1_isCut 10 = .ok (.iload_n 2, 1) := by decide +kernel
theorem dX1_isCut_11 : decode cX1_isCut 11 = .ok (.iaload, 1) := by decide +kernel
theorem dX1_isCut_12 : decode cX1_isCut 12 = .ok (.if_icmp .eq 7, 3) := by decide +kernel
theorem dX1_isCut_15 : decode cX1_isCut 15 = .ok (.iconst 1, 1) := by decide +kernel
theorem dX1_isCut_16 : decode cX1_isCut 16 = .ok (.goto 4, 3) := by decide +kernel
theorem dX1_isCut_19 : decode cX1_isCut 19 = .ok (.iconst 0, 1) := by decide +kernel
theorem dX1_isCut_20 : decode cX1_isCut 20 = .ok (.ireturn, 1) := by decide +kernel
set_option maxRecDepth 20000 in
theorem ggX1_kindOf_X1_isCut : GoodIn wsX1_kindOf wsX1_isCut := goodIn_r _ [5, 6, 38, 39, 40, 41, 42, 43] (by decide +kernel) (by decide +kernel)
set_option maxRecDepth 20000 in
theorem gX1_kindOf_X1_isCut : GoodIn wsX1_kindOf (wsV RX1 80 RX1 yX1_isCut wsX1_isCut) := goodIn_app (goodIn_of _ (by decide +kernel)) ggX1_kindOf_X1_isCut
set_option maxRecDepth 20000 in
theorem ggX1_kindOf_X1_upOf : GoodIn wsX1_kindOf wsX1_upOf := goodIn_r _ [10, 11, 12, 13, 14, 4, 15, 6, 16, 17, 18, 19, 20, 21, 22, 23, 24, 25, 26, 1, 2, 3, 5, 27, 28, 29, 30, 31, 32, 33, 34, 35, 36, 37, 38, 39, 40, 41, 42, 43, 44, 45, 46, 47, 48, 49, 50, 51, 52, 53] (by decide +kernel) (by decide +kernel)
set_option maxRecDepth 20000 in
theorem gX1_kindOf_X1_upOf : GoodIn wsX1_kindOf (wsV RX1 92 RX1 yX1_upOf wsX1_upOf) := goodIn_app (goodIn_of _ (by decide +kernel)) ggX1_kindOf_X1_upOf
theorem dX1_kindOf_0 : decode cX1_kindOf 0 = .ok (.aload_n 0, 1) := by decide +kernel
theorem dX1_kindOf_1 : decode cX1_kindOf 1 = .ok (.iload_n 1, 1) := by decide +kernel
theorem dX1_kindOf_2 : decode cX1_kindOf 2 = .ok (.iload_n 2, 1) := by decide +kernel
theorem dX1_kindOf_3 : decode cX1_kindOf 3 = .ok (.invokevirtual 80, 3) := by decide +kernel
theorem dX1_kindOf_6 : decode cX1_kindOf 6 = .ok (.ifCond .eq 5, 3) := by decide +kernel
theorem dX1_kindOf_9 : decode cX1_kindOf 9 = .ok (.iconst 2, 1) := by decide +kernel
theorem dX1_kindOf_10 : decode cX1_kindOf 10 = .ok (.ireturn, 1) := by decide +kernel
theorem dX1_kindOf_11 : decode cX1_kindOf 11 = .ok (.aload_n 0, 1) := by decide +kernel
theorem dX1_kindOf_12 : decode cX1_kindOf 12 = .ok (.iload_n 1, 1) := by decide +kernel
theorem dX1_kindOf_13 : decode cX1_kindOf 13 = .ok (.invokevirtual 92, 3) := by decide +kernel
theorem dX1_kindOf_16 : decode cX1_kindOf 16 = .ok (.iload_n 2, 1) := by decide +kernel
theorem dX1_kindOf_17 : decode cX1_kindOf 17 = .ok (.if_icmp .eq 12, 3) := by decide +kernel
theorem dX1_kindOf_20 : decode cX1_kindOf 20 = .ok (.aload_n 0, 1) := by decide +kernel
theorem dX1_kindOf_21 : decode cX1_kindOf 21 = .ok (.iload_n 2, 1) := by decide +kernel
theorem dX1_kindOf_22 : decode cX1_kindOf 22 = .ok (.invokevirtual 92, 3) := by decide +kernel
theorem dX1_kindOf_25 : decode cX1_kindOf 25 = .ok (.iload_n 1, 1) := by decide +kernel
theorem dX1_kindOf_26 : decode cX1_kindOf 26 = .ok (.if_icmp .ne 7, 3) := by decide +kernel
theorem dX1_kindOf_29 : decode cX1_kindOf 29 = .ok (.iconst 0, 1) := by decide +kernel
theorem dX1_kindOf_30 : decode cX1_kindOf 30 = .ok (.goto 4, 3) := by decide +kernel
theorem dX1_kindOf_33 : decode cX1_kindOf 33 = .ok (.iconst 1, 1) := by decide +kernel
theorem dX1_kindOf_34 : decode cX1_kindOf 34 = .ok (.ireturn, 1) := by decide +kernel
set_option maxRecDepth 20000 in
theorem ggX1_cutLinks_X5_places : GoodIn wsX1_cutLinks wsX5_places := goodIn_r _ [6, 7, 25, 26, 27, 28, 29, 30, 31, 32, 33] (by decide +kernel) (by decide +kernel)
set_option maxRecDepth 20000 in
theorem gX1_cutLinks_X5_places : GoodIn wsX1_cutLinks (wsV RX1 29 RX5 yX5_places wsX5_places) := goodIn_app (goodIn_of _ (by decide +kernel)) ggX1_cutLinks_X5_places
set_option maxRecDepth 20000 in
theorem ggX1_cutLinks_X5_lengthOf : GoodIn wsX1_cutLinks wsX5_lengthOf := goodIn_r _ [11, 12, 25, 26, 27, 28, 29, 30, 31, 32, 33] (by decide +kernel) (by decide +kernel)
set_option maxRecDepth 20000 in
theorem gX1_cutLinks_X5_lengthOf : GoodIn wsX1_cutLinks (wsV RX1 77 RX5 yX5_lengthOf wsX5_lengthOf) := goodIn_app (goodIn_of _ (by decide +kernel)) ggX1_cutLinks_X5_lengthOf
set_option maxRecDepth 20000 in
theorem ggX1_cutLinks_X1_isCut : GoodIn wsX1_cutLinks wsX1_isCut := goodIn_r _ [17, 18, 19, 20, 21, 22, 23, 24] (by decide +kernel) (by decide +kernel)
set_option maxRecDepth 20000 in
theorem gX1_cutLinks_X1_isCut : GoodIn wsX1_cutLinks (wsV RX1 80 RX1 yX1_isCut wsX1_isCut) := goodIn_app (goodIn_of _ (by decide +kernel)) ggX1_cutLinks_X1_isCut
theorem dX1_cutLinks_0 : decode cX1_cutLinks 0 = .ok (.iconst 0, 1) := by decide +kernel
theorem dX1_cutLinks_1 : decode cX1_cutLinks 1 = .ok (.istore_n 1, 1) := by decide +kernel
theorem dX1_cutLinks_2 : decode cX1_cutLinks 2 = .ok (.iconst 0, 1) := by decide +kernel
theorem dX1_cutLinks_3 : decode cX1_cutLinks 3 = .ok (.istore_n 2, 1) := by decide +kernel
theorem dX1_cutLinks_4 : decode cX1_cutLinks 4 = .ok (.iload_n 2, 1) := by decide +kernel
theorem dX1_cutLinks_5 : decode cX1_cutLinks 5 = .ok (.aload_n 0, 1) := by decide +kernel
theorem dX1_cutLinks_6 : decode cX1_cutLinks 6 = .ok (.getfield 21, 3) := by decide +kernel
theorem dX1_cutLinks_9 : decode cX1_cutLinks 9 = .ok (.invokevirtual 29, 3) := by decide +kernel
theorem dX1_cutLinks_12 : decode cX1_cutLinks 12 = .ok (.if_icmp .ge 46, 3) := by decide +kernel
theorem dX1_cutLinks_15 : decode cX1_cutLinks 15 = .ok (.iconst 0, 1) := by decide +kernel
theorem dX1_cutLinks_16 : decode cX1_cutLinks 16 = .ok (.istore_n 3, 1) := by decide +kernel
theorem dX1_cutLinks_17 : decode cX1_cutLinks 17 = .ok (.iload_n 3, 1) := by decide +kernel
theorem dX1_cutLinks_18 : decode cX1_cutLinks 18 = .ok (.iload_n 2, 1) := by decide +kernel
theorem dX1_cutLinks_19 : decode cX1_cutLinks 19 = .ok (.if_icmp .ge 33, 3) := by decide +kernel
theorem dX1_cutLinks_22 : decode cX1_cutLinks 22 = .ok (.aload_n 0, 1) := by decide +kernel
theorem dX1_cutLinks_23 : decode cX1_cutLinks 23 = .ok (.getfield 21, 3) := by decide +kernel
theorem dX1_cutLinks_26 : decode cX1_cutLinks 26 = .ok (.iload_n 2, 1) := by decide +kernel
theorem dX1_cutLinks_27 : decode cX1_cutLinks 27 = .ok (.iload_n 3, 1) := by decide +kernel
theorem dX1_cutLinks_28 : decode cX1_cutLinks 28 = .ok (.invokevirtual 77, 3) := by decide +kernel
theorem dX1_cutLinks_31 : decode cX1_cutLinks 31 = .ok (.ifCond .eq 15, 3) := by decide +kernel
theorem dX1_cutLinks_34 : decode cX1_cutLinks 34 = .ok (.aload_n 0, 1) := by decide +kernel
theorem dX1_cutLinks_35 : decode cX1_cutLinks 35 = .ok (.iload_n 2, 1) := by decide +kernel
theorem dX1_cutLinks_36 : decode cX1_cutLinks 36 = .ok (.iload_n 3, 1) := by decide +kernel
theorem dX1_cutLinks_37 : decode cX1_cutLinks 37 = .ok (.invokevirtual 80, 3) := by decide +kernel
theorem dX1_cutLinks_40 : decode cX1_cutLinks 40 = .ok (.ifCond .eq 6, 3) := by decide +kernel
theorem dX1_cutLinks_43 : decode cX1_cutLinks 43 = .ok (.iinc 1 1, 3) := by decide +kernel
theorem dX1_cutLinks_46 : decode cX1_cutLinks 46 = .ok (.iinc 3 1, 3) := by decide +kernel
theorem dX1_cutLinks_49 : decode cX1_cutLinks 49 = .ok (.goto (-32), 3) := by decide +kernel
theorem dX1_cutLinks_52 : decode cX1_cutLinks 52 = .ok (.iinc 2 1, 3) := by decide +kernel
theorem dX1_cutLinks_55 : decode cX1_cutLinks 55 = .ok (.goto (-51), 3) := by decide +kernel
theorem dX1_cutLinks_58 : decode cX1_cutLinks 58 = .ok (.iload_n 1, 1) := by decide +kernel
theorem dX1_cutLinks_59 : decode cX1_cutLinks 59 = .ok (.ireturn, 1) := by decide +kernel
set_option maxRecDepth 20000 in
theorem ggX1_spareLinks_X5_places : GoodIn wsX1_spareLinks wsX5_places := goodIn_r _ [6, 7, 46, 47, 48, 49, 50, 51, 52, 53, 54] (by decide +kernel) (by decide +kernel)
set_option maxRecDepth 20000 in
theorem gX1_spareLinks_X5_places : GoodIn wsX1_spareLinks (wsV RX1 29 RX5 yX5_places wsX5_places) := goodIn_app (goodIn_of _ (by decide +kernel)) ggX1_spareLinks_X5_places
set_option maxRecDepth 20000 in
theorem ggX1_spareLinks_X1_clusters : GoodIn wsX1_spareLinks wsX1_clusters := goodIn_r _ [12, 1, 2, 3, 4, 5, 6, 7, 13, 14, 15, 11, 16, 17, 18, 19, 20, 21, 40, 41, 42, 43, 44, 45, 46, 47, 48, 49, 50, 51, 52, 53, 54] (by decide +kernel) (by decide +kernel)
set_option maxRecDepth 20000 in
theorem gX1_spareLinks_X1_clusters : GoodIn wsX1_spareLinks (wsV RX1 95 RX1 yX1_clusters wsX1_clusters) := goodIn_app (goodIn_of _ (by decide +kernel)) ggX1_spareLinks_X1_clusters
set_option maxRecDepth 20000 in
theorem ggX1_spareLinks_X5_links : GoodIn wsX1_spareLinks wsX5_links := goodIn_r _ [25, 26, 46, 47, 48, 49, 50, 51, 52, 53, 54] (by decide +kernel) (by decide +kernel)
set_option maxRecDepth 20000 in
theorem gX1_spareLinks_X5_links : GoodIn wsX1_spareLinks (wsV RX1 98 RX5 yX5_links wsX5_links) := goodIn_app (goodIn_of _ (by decide +kernel)) ggX1_spareLinks_X5_links
set_option maxRecDepth 20000 in
theorem ggX1_spareLinks_X1_cutLinks : GoodIn wsX1_spareLinks wsX1_cutLinks := goodIn_r _ [30, 1, 2, 3, 4, 5, 6, 7, 31, 32, 33, 34, 35, 36, 37, 38, 11, 39, 21, 40, 41, 42, 43, 44, 45, 46, 47, 48, 49, 50, 51, 52, 53, 54] (by decide +kernel) (by decide +kernel)
set_option maxRecDepth 20000 in
theorem gX1_spareLinks_X1_cutLinks : GoodIn wsX1_spareLinks (wsV RX1 101 RX1 yX1_cutLinks wsX1_cutLinks) := goodIn_app (goodIn_of _ (by decide +kernel)) ggX1_spareLinks_X1_cutLinks
theorem dX1_spareLinks_0 : decode cX1_spareLinks 0 = .ok (.aload_n 0, 1) := by decide +kernel
theorem dX1_spareLinks_1 : decode cX1_spareLinks 1 = .ok (.getfield 21, 3) := by decide +kernel
theorem dX1_spareLinks_4 : decode cX1_spareLinks 4 = .ok (.invokevirtual 29, 3) := by decide +kernel
theorem dX1_spareLinks_7 : decode cX1_spareLinks 7 = .ok (.aload_n 0, 1) := by decide +kernel
theorem dX1_spareLinks_8 : decode cX1_spareLinks 8 = .ok (.invokevirtual 95, 3) := by decide +kernel
theorem dX1_spareLinks_11 : decode cX1_spareLinks 11 = .ok (.isub, 1) := by decide +kernel
theorem dX1_spareLinks_12 : decode cX1_spareLinks 12 = .ok (.istore_n 1, 1) := by decide +kernel
theorem dX1_spareLinks_13 : decode cX1_spareLinks 13 = .ok (.aload_n 0, 1) := by decide +kernel
theorem dX1_spareLinks_14 : decode cX1_spareLinks 14 = .ok (.getfield 21, 3) := by decide +kernel
theorem dX1_spareLinks_17 : decode cX1_spareLinks 17 = .ok (.invokevirtual 98, 3) := by decide +kernel
theorem dX1_spareLinks_20 : decode cX1_spareLinks 20 = .ok (.aload_n 0, 1) := by decide +kernel
theorem dX1_spareLinks_21 : decode cX1_spareLinks 21 = .ok (.invokevirtual 101, 3) := by decide +kernel
theorem dX1_spareLinks_24 : decode cX1_spareLinks 24 = .ok (.isub, 1) := by decide +kernel
theorem dX1_spareLinks_25 : decode cX1_spareLinks 25 = .ok (.iload_n 1, 1) := by decide +kernel
theorem dX1_spareLinks_26 : decode cX1_spareLinks 26 = .ok (.isub, 1) := by decide +kernel
theorem dX1_spareLinks_27 : decode cX1_spareLinks 27 = .ok (.ireturn, 1) := by decide +kernel
set_option maxRecDepth 20000 in
theorem ggX1_cutLinksOf_X5_places : GoodIn wsX1_cutLinksOf wsX5_places := goodIn_r _ [6, 7, 29, 30, 31, 32, 33, 34, 35, 36, 37] (by decide +kernel) (by decide +kernel)
set_option maxRecDepth 20000 in
theorem gX1_cutLinksOf_X5_places : GoodIn wsX1_cutLinksOf (wsV RX1 29 RX5 yX5_places wsX5_places) := goodIn_app (goodIn_of _ (by decide +kernel)) ggX1_cutLinksOf_X5_places
set_option maxRecDepth 20000 in
theorem ggX1_cutLinksOf_X1_cutLinksBetween : GoodIn wsX1_cutLinksOf wsX1_cutLinksBetween := goodIn_r _ [12, 1, 2, 3, 4, 5, 6, 7, 13, 14, 15, 11, 16, 17, 18, 19, 20, 21, 22, 23, 24, 25, 26, 27, 28, 29, 30, 31, 32, 33, 34, 35, 36, 37] (by decide +kernel) (by decide +kernel)
set_option maxRecDepth 20000 in
theorem gX1_cutLinksOf_X1_cutLinksBetween : GoodIn wsX1_cutLinksOf (wsV RX1 104 RX1 yX1_cutLinksBetween wsX1_cutLinksBetween) := goodIn_app (goodIn_of _ (by decide +kernel)) ggX1_cutLinksOf_X1_cutLinksBetween
theorem dX1_cutLinksOf_0 : decode cX1_cutLinksOf 0 = .ok (.iconst 0, 1) := by decide +kernel
theorem dX1_cutLinksOf_1 : decode cX1_cutLinksOf 1 = .ok (.istore_n 2, 1) := by decide +kernel
theorem dX1_cutLinksOf_2 : decode cX1_cutLinksOf 2 = .ok (.iconst 0, 1) := by decide +kernel
theorem dX1_cutLinksOf_3 : decode cX1_cutLinksOf 3 = .ok (.istore_n 3, 1) := by decide +kernel
theorem dX1_cutLinksOf_4 : decode cX1_cutLinksOf 4 = .ok (.iload_n 3, 1) := by decide +kernel
theorem dX1_cutLinksOf_5 : decode cX1_cutLinksOf 5 = .ok (.aload_n 0, 1) := by decide +kernel
theorem dX1_cutLinksOf_6 : decode cX1_cutLinksOf 6 = .ok (.getfield 21, 3) := by decide +kernel
theorem dX1_cutLinksOf_9 : decode cX1_cutLinksOf 9 = .ok (.invokevirtual 29, 3) := by decide +kernel
theorem dX1_cutLinksOf_12 : decode cX1_cutLinksOf 12 = .ok (.if_icmp .ge 23, 3) := by decide +kernel
theorem dX1_cutLinksOf_15 : decode cX1_cutLinksOf 15 = .ok (.iload_n 3, 1) := by decide +kernel
theorem dX1_cutLinksOf_16 : decode cX1_cutLinksOf 16 = .ok (.iload_n 1, 1) := by decide +kernel
theorem dX1_cutLinksOf_17 : decode cX1_cutLinksOf 17 = .ok (.if_icmp .eq 12, 3) := by decide +kernel
theorem dX1_cutLinksOf_20 : decode cX1_cutLinksOf 20 = .ok (.iload_n 2, 1) := by decide +kernel
theorem dX1_cutLinksOf_21 : decode cX1_cutLinksOf 21 = .ok (.aload_n 0, 1) := by decide +kernel
theorem dX1_cutLinksOf_22 : decode cX1_cutLinksOf 22 = .ok (.iload_n 1, 1) := by decide +kernel
theorem dX1_cutLinksOf_23 : decode cX1_cutLinksOf 23 = .ok (.iload_n 3, 1) := by decide +kernel
theorem dX1_cutLinksOf_24 : decode cX1_cutLinksOf 24 = .ok (.invokevirtual 104, 3) := by decide +kernel
theorem dX1_cutLinksOf_27 : decode cX1_cutLinksOf 27 = .ok (.iadd, 1) := by decide +kernel
theorem dX1_cutLinksOf_28 : decode cX1_cutLinksOf 28 = .ok (.istore_n 2, 1) := by decide +kernel
theorem dX1_cutLinksOf_29 : decode cX1_cutLinksOf 29 = .ok (.iinc 3 1, 3) := by decide +kernel
theorem dX1_cutLinksOf_32 : decode cX1_cutLinksOf 32 = .ok (.goto (-28), 3) := by decide +kernel
theorem dX1_cutLinksOf_35 : decode cX1_cutLinksOf 35 = .ok (.iload_n 2, 1) := by decide +kernel
theorem dX1_cutLinksOf_36 : decode cX1_cutLinksOf 36 = .ok (.ireturn, 1) := by decide +kernel
set_option maxRecDepth 20000 in
theorem ggX1_neighboursOf_X5_places : GoodIn wsX1_neighboursOf wsX5_places := goodIn_r _ [6, 7, 29, 30, 31, 32, 33, 34, 35, 36, 37] (by decide +kernel) (by decide +kernel)
set_option maxRecDepth 20000 in
theorem gX1_neighboursOf_X5_places : GoodIn wsX1_neighboursOf (wsV RX1 29 RX5 yX5_places wsX5_places) := goodIn_app (goodIn_of _ (by decide +kernel)) ggX1_neighboursOf_X5_places
set_option maxRecDepth 20000 in
theorem ggX1_neighboursOf_X1_cutLinksBetween : GoodIn wsX1_neighboursOf wsX1_cutLinksBetween := goodIn_r _ [12, 1, 2, 3, 4, 5, 6, 7, 13, 14, 15, 11, 16, 17, 18, 19, 20, 21, 22, 23, 24, 25, 26, 27, 28, 29, 30, 31, 32, 33, 34, 35, 36, 37] (by decide +kernel) (by decide +kernel)
set_option maxRecDepth 20000 in
theorem gX1_neighboursOf_X1_cutLinksBetween : GoodIn wsX1_neighboursOf (wsV RX1 104 RX1 yX1_cutLinksBetween wsX1_cutLinksBetween) := goodIn_app (goodIn_of _ (by decide +kernel)) ggX1_neighboursOf_X1_cutLinksBetween
theorem dX1_neighboursOf_0 : decode cX1_neighboursOf 0 = .ok (.iconst 0, 1) := by decide +kernel
theorem dX1_neighboursOf_1 : decode cX1_neighboursOf 1 = .ok (.istore_n 2, 1) := by decide +kernel
theorem dX1_neighboursOf_2 : decode cX1_neighboursOf 2 = .ok (.iconst 0, 1) := by decide +kernel
theorem dX1_neighboursOf_3 : decode cX1_neighboursOf 3 = .ok (.istore_n 3, 1) := by decide +kernel
theorem dX1_neighboursOf_4 : decode cX1_neighboursOf 4 = .ok (.iload_n 3, 1) := by decide +kernel
theorem dX1_neighboursOf_5 : decode cX1_neighboursOf 5 = .ok (.aload_n 0, 1) := by decide +kernel
theorem dX1_neighboursOf_6 : decode cX1_neighboursOf 6 = .ok (.getfield 21, 3) := by decide +kernel
theorem dX1_neighboursOf_9 : decode cX1_neighboursOf 9 = .ok (.invokevirtual 29, 3) := by decide +kernel
theorem dX1_neighboursOf_12 : decode cX1_neighboursOf 12 = .ok (.if_icmp .ge 26, 3) := by decide +kernel
theorem dX1_neighboursOf_15 : decode cX1_neighboursOf 15 = .ok (.iload_n 3, 1) := by decide +kernel
theorem dX1_neighboursOf_16 : decode cX1_neighboursOf 16 = .ok (.iload_n 1, 1) := by decide +kernel
theorem dX1_neighboursOf_17 : decode cX1_neighboursOf 17 = .ok (.if_icmp .eq 15, 3) := by decide +kernel
theorem dX1_neighboursOf_20 : decode cX1_neighboursOf 20 = .ok (.aload_n 0, 1) := by decide +kernel
theorem dX1_neighboursOf_21 : decode cX1_neighboursOf 21 = .ok (.iload_n 1, 1) := by decide +kernel
theorem dX1_neighboursOf_22 : decode cX1_neighboursOf 22 = .ok (.iload_n 3, 1) := by decide +kernel
theorem dX1_neighboursOf_23 : decode cX1_neighboursOf 23 = .ok (.invokevirtual 104, 3) := by decide +kernel
theorem dX1_neighboursOf_26 : decode cX1_neighboursOf 26 = .ok (.ifCond .le 6, 3) := by decide +kernel
theorem dX1_neighboursOf_29 : decode cX1_neighboursOf 29 = .ok (.iinc 2 1, 3) := by decide +kernel
theorem dX1_neighboursOf_32 : decode cX1_neighboursOf 32 = .ok (.iinc 3 1, 3) := by decide +kernel
theorem dX1_neighboursOf_35 : decode cX1_neighboursOf 35 = .ok (.goto (-31), 3) := by decide +kernel
theorem dX1_neighboursOf_38 : decode cX1_neighboursOf 38 = .ok (.iload_n 2, 1) := by decide +kernel
theorem dX1_neighboursOf_39 : decode cX1_neighboursOf 39 = .ok (.ireturn, 1) := by decide +kernel
set_option maxRecDepth 20000 in
theorem ggX1_cutLinksBetween_X5_places : GoodIn wsX1_cutLinksBetween wsX5_places := goodIn_r _ [6, 7, 25, 26, 27, 28, 29, 30, 31, 32, 33] (by decide +kernel) (by decide +kernel)
set_option maxRecDepth 20000 in
theorem gX1_cutLinksBetween_X5_places : GoodIn wsX1_cutLinksBetween (wsV RX1 29 RX5 yX5_places wsX5_places) := goodIn_app (goodIn_of _ (by decide +kernel)) ggX1_cutLinksBetween_X5_places
set_option maxRecDepth 20000 in
theorem ggX1_cutLinksBetween_X1_isLinkBetween : GoodIn wsX1_cutLinksBetween wsX1_isLinkBetween := goodIn_r _ [12, 13, 1, 14, 15, 16, 5, 17, 18, 19, 20, 21, 22, 23, 24, 25, 26, 27, 28, 29, 30, 31, 32, 33] (by decide +kernel) (by decide +kernel)
set_option maxRecDepth 20000 in
theorem gX1_cutLinksBetween_X1_isLinkBetween : GoodIn wsX1_cutLinksBetween (wsV RX1 107 RX1 yX1_isLinkBetween wsX1_isLinkBetween) := goodIn_app (goodIn_of _ (by decide +kernel)) ggX1_cutLinksBetween_X1_isLinkBetween
theorem dX1_cutLinksBetween_0 : decode cX1_cutLinksBetween 0 = .ok (.iconst 0, 1) := by decide +kernel
theorem dX1_cutLinksBetween_1 : decode cX1_cutLinksBetween 1 = .ok (.istore_n 3, 1) := by decide +kernel
theorem dX1_cutLinksBetween_2 : decode cX1_cutLinksBetween 2 = .ok (.iconst 0, 1) := by decide +kernel
theorem dX1_cutLinksBetween_3 : decode cX1_cutLinksBetween 3 = .ok (.istore 4, 2) := by decide +kernel
theorem dX1_cutLinksBetween_5 : decode cX1_cutLinksBetween 5 = .ok (.iload 4, 2) := by decide +kernel
theorem dX1_cutLinksBetween_7 : decode cX1_cutLinksBetween 7 = .ok (.aload_n 0, 1) := by decide +kernel
theorem dX1_cutLinksBetween_8 : decode cX1_cutLinksBetween 8 = .ok (.getfield 21, 3) := by decide +kernel
theorem dX1_cutLinksBetween_11 : decode cX1_cutLinksBetween 11 = .ok (.invokevirtual 29, 3) := by decide +kernel
theorem dX1_cutLinksBetween_14 : decode cX1_cutLinksBetween 14 = .ok (.if_icmp .ge 46, 3) := by decide +kernel
theorem dX1_cutLinksBetween_17 : decode cX1_cutLinksBetween 17 = .ok (.iconst 0, 1) := by decide +kernel
theorem dX1_cutLinksBetween_18 : decode cX1_cutLinksBetween 18 = .ok (.istore 5, 2) := by decide +kernel
theorem dX1_cutLinksBetween_20 : decode cX1_cutLinksBetween 20 = .ok (.iload 5, 2) := by decide +kernel
theorem dX1_cutLinksBetween_22 : decode cX1_cutLinksBetween 22 = .ok (.aload_n 0, 1) := by decide +kernel
theorem dX1_cutLinksBetween_23 : decode cX1_cutLinksBetween 23 = .ok (.getfield 21, 3) := by decide +kernel
theorem dX1_cutLinksBetween_26 : decode cX1_cutLinksBetween 26 = .ok (.invokevirtual 29, 3) := by decide +kernel
theorem dX1_cutLinksBetween_29 : decode cX1_cutLinksBetween 29 = .ok (.if_icmp .ge 25, 3) := by decide +kernel
theorem dX1_cutLinksBetween_32 : decode cX1_cutLinksBetween 32 = .ok (.aload_n 0, 1) := by decide +kernel
theorem dX1_cutLinksBetween_33 : decode cX1_cutLinksBetween 33 = .ok (.iload 4, 2) := by decide +kernel
theorem dX1_cutLinksBetween_35 : decode cX1_cutLinksBetween 35 = .ok (.iload 5, 2) := by decide +kernel
theorem dX1_cutLinksBetween_37 : decode cX1_cutLinksBetween 37 = .ok (.iload_n 1, 1) := by decide +kernel
theorem dX1_cutLinksBetween_38 : decode cX1_cutLinksBetween 38 = .ok (.iload_n 2, 1) := by decide +kernel
theorem dX1_cutLinksBetween_39 : decode cX1_cutLinksBetween 39 = .ok (.invokevirtual 107, 3) := by decide +kernel
theorem dX1_cutLinksBetween_42 : decode cX1_cutLinksBetween 42 = .ok (.ifCond .eq 6, 3) := by decide +kernel
theorem dX1_cutLinksBetween_45 : decode cX1_cutLinksBetween 45 = .ok (.iinc 3 1, 3) := by decide +kernel
theorem dX1_cutLinksBetween_48 : decode cX1_cutLinksBetween 48 = .ok (.iinc 5 1, 3) := by decide +kernel
theorem dX1_cutLinksBetween_51 : decode cX1_cutLinksBetween 51 = .ok (.goto (-31), 3) := by decide +kernel
theorem dX1_cutLinksBetween_54 : decode cX1_cutLinksBetween 54 = .ok (.iinc 4 1, 3) := by decide +kernel
theorem dX1_cutLinksBetween_57 : decode cX1_cutLinksBetween 57 = .ok (.goto (-52), 3) := by decide +kernel
theorem dX1_cutLinksBetween_60 : decode cX1_cutLinksBetween 60 = .ok (.iload_n 3, 1) := by decide +kernel
theorem dX1_cutLinksBetween_61 : decode cX1_cutLinksBetween 61 = .ok (.ireturn, 1) := by decide +kernel
set_option maxRecDepth 20000 in
theorem ggX1_shortestBetween_X5_places : GoodIn wsX1_shortestBetween wsX5_places := goodIn_r _ [6, 7, 25, 26, 27, 28, 29, 30, 31, 32, 33] (by decide +kernel) (by decide +kernel)
set_option maxRecDepth 20000 in
theorem gX1_shortestBetween_X5_places : GoodIn wsX1_shortestBetween (wsV RX1 29 RX5 yX5_places wsX5_places) := goodIn_app (goodIn_of _ (by decide +kernel)) ggX1_shortestBetween_X5_places
set_option maxRecDepth 20000 in
theorem ggX1_shortestBetween_X1_isLinkBetween : GoodIn wsX1_shortestBetween wsX1_isLinkBetween := goodIn_r _ [12, 13, 1, 14, 15, 16, 5, 17, 18, 19, 20, 21, 22, 23, 24, 25, 26, 27, 28, 29, 30, 31, 32, 33] (by decide +kernel) (by decide +kernel)
set_option maxRecDepth 20000 in
theorem gX1_shortestBetween_X1_isLinkBetween : GoodIn wsX1_shortestBetween (wsV RX1 107 RX1 yX1_isLinkBetween wsX1_isLinkBetween) := goodIn_app (goodIn_of _ (by decide +kernel)) ggX1_shortestBetween_X1_isLinkBetween
set_option maxRecDepth 20000 in
theorem ggX1_shortestBetween_X5_lengthOf : GoodIn wsX1_shortestBetween wsX5_lengthOf := goodIn_r _ [17, 18, 25, 26, 27, 28, 29, 30, 31, 32, 33] (by decide +kernel) (by decide +kernel)
set_option maxRecDepth 20000 in
theorem gX1_shortestBetween_X5_lengthOf : GoodIn wsX1_shortestBetween (wsV RX1 77 RX5 yX5_lengthOf wsX5_lengthOf) := goodIn_app (goodIn_of _ (by decide +kernel)) ggX1_shortestBetween_X5_lengthOf
theorem dX1_shortestBetween_0 : decode cX1_shortestBetween 0 = .ok (.bipush (-4), 2) := by decide +kernel
theorem dX1_shortestBetween_2 : decode cX1_shortestBetween 2 = .ok (.istore_n 3, 1) := by decide +kernel
theorem dX1_shortestBetween_3 : decode cX1_shortestBetween 3 = .ok (.iconst 0, 1) := by decide +kernel
theorem dX1_shortestBetween_4 : decode cX1_shortestBetween 4 = .ok (.istore 4, 2) := by decide +kernel
theorem dX1_shortestBetween_6 : decode cX1_shortestBetween 6 = .ok (.iload 4, 2) := by decide +kernel
theorem dX1_shortestBetween_8 : decode cX1_shortestBetween 8 = .ok (.aload_n 0, 1) := by decide +kernel
theorem dX1_shortestBetween_9 : decode cX1_shortestBetween 9 = .ok (.getfield 21, 3) := by decide +kernel
theorem dX1_shortestBetween_12 : decode cX1_shortestBetween 12 = .ok (.invokevirtual 29, 3) := by decide +kernel
theorem dX1_shortestBetween_15 : decode cX1_shortestBetween 15 = .ok (.if_icmp .ge 76, 3) := by decide +kernel
theorem dX1_shortestBetween_18 : decode cX1_shortestBetween 18 = .ok (.iconst 0, 1) := by decide +kernel
theorem dX1_shortestBetween_19 : decode cX1_shortestBetween 19 = .ok (.istore 5, 2) := by decide +kernel
theorem dX1_shortestBetween_21 : decode cX1_shortestBetween 21 = .ok (.iload 5, 2) := by decide +kernel
theorem dX1_shortestBetween_23 : decode cX1_shortestBetween 23 = .ok (.aload_n 0, 1) := by decide +kernel
theorem dX1_shortestBetween_24 : decode cX1_shortestBetween 24 = .ok (.getfield 21, 3) := by decide +kernel
theorem dX1_shortestBetween_27 : decode cX1_shortestBetween 27 = .ok (.invokevirtual 29, 3) := by decide +kernel
theorem dX1_shortestBetween_30 : decode cX1_shortestBetween 30 = .ok (.if_icmp .ge 55, 3) := by decide +kernel
theorem dX1_shortestBetween_33 : decode cX1_shortestBetween 33 = .ok (.aload_n 0, 1) := by decide +kernel
theorem dX1_shortestBetween_34 : decode cX1_shortestBetween 34 = .ok (.iload 4, 2) := by decide +kernel
theorem dX1_shortestBetween_36 : decode cX1_shortestBetween 36 = .ok (.iload 5, 2) := by decide +kernel
theorem dX1_shortestBetween_38 : decode cX1_shortestBetween 38 = .ok (.iload_n 1, 1) := by decide +kernel
theorem dX1_shortestBetween_39 : decode cX1_shortestBetween 39 = .ok (.iload_n 2, 1) := by decide +kernel
theorem dX1_shortestBetween_40 : decode cX1_shortestBetween 40 = .ok (.invokevirtual 107, 3) := by decide +kernel
theorem dX1_shortestBetween_43 : decode cX1_shortestBetween 43 = .ok (.ifCond .eq 36, 3) := by decide +kernel
theorem dX1_shortestBetween_46 : decode cX1_shortestBetween 46 = .ok (.iload_n 3, 1) := by decide +kernel
theorem dX1_shortestBetween_47 : decode cX1_shortestBetween 47 = .ok (.bipush (-4), 2) := by decide +kernel
theorem dX1_shortestBetween_49 : decode cX1_shortestBetween 49 = .ok (.if_icmp .eq 18, 3) := by decide +kernel
theorem dX1_shortestBetween_52 : decode cX1_shortestBetween 52 = .ok (.aload_n 0, 1) := by decide +kernel
theorem dX1_shortestBetween_53 : decode cX1_shortestBetween 53 = .ok (.getfield 21, 3) := by decide +kernel
theorem dX1_shortestBetween_56 : decode cX1_shortestBetween 56 = .ok (.iload 4, 2) := by decide +kernel
theorem dX1_shortestBetween_58 : decode cX1_shortestBetween 58 = .ok (.iload 5, 2) := by decide +kernel
theorem dX1_shortestBetween_60 : decode cX1_shortestBetween 60 = .ok (.invokevirtual 77, 3) := by decide +kernel
theorem dX1_shortestBetween_63 : decode cX1_shortestBetween 63 = .ok (.iload_n 3, 1) := by decide +kernel
theorem dX1_shortestBetween_64 : decode cX1_shortestBetween 64 = .ok (.if_icmp .ge 15, 3) := by decide +kernel
theorem dX1_shortestBetween_67 : decode cX1_shortestBetween 67 = .ok (.aload_n 0, 1) := by decide +kernel
theorem dX1_shortestBetween_68 : decode cX1_shortestBetween 68 = .ok (.getfield 21, 3) := by decide +kernel
theorem dX1_shortestBetween_71 : decode cX1_shortestBetween 71 = .ok (.iload 4, 2) := by decide +kernel
theorem dX1_shortestBetween_73 : decode cX1_shortestBetween 73 = .ok (.iload 5, 2) := by decide +kernel
theorem dX1_shortestBetween_75 : decode cX1_shortestBetween 75 = .ok (.invokevirtual 77, 3) := by decide +kernel
theorem dX1_shortestBetween_78 : decode cX1_shortestBetween 78 = .ok (.istore_n 3, 1) := by decide +kernel
theorem dX1_shortestBetween_79 : decode cX1_shortestBetween 79 = .ok (.iinc 5 1, 3) := by decide +kernel
theorem dX1_shortestBetween_82 : decode cX1_shortestBetween 82 = .ok (.goto (-61), 3) := by decide +kernel
theorem dX1_shortestBetween_85 : decode cX1_shortestBetween 85 = .ok (.iinc 4 1, 3) := by decide +kernel
theorem dX1_shortestBetween_88 : decode cX1_shortestBetween 88 = .ok (.goto (-82), 3) := by decide +kernel
theorem dX1_shortestBetween_91 : decode cX1_shortestBetween 91 = .ok (.iload_n 3, 1) := by decide +kernel
theorem dX1_shortestBetween_92 : decode cX1_shortestBetween 92 = .ok (.ireturn, 1) := by decide +kernel
set_option maxRecDepth 20000 in
theorem ggX1_isLinkBetween_X5_lengthOf : GoodIn wsX1_isLinkBetween wsX5_lengthOf := goodIn_r _ [7, 8, 15, 16, 17, 18, 19, 20, 21, 22, 23] (by decide +kernel) (by decide +kernel)
set_option maxRecDepth 20000 in
theorem gX1_isLinkBetween_X5_lengthOf : GoodIn wsX1_isLinkBetween (wsV RX1 77 RX5 yX5_lengthOf wsX5_lengthOf) := goodIn_app (goodIn_of _ (by decide +kernel)) ggX1_isLinkBetween_X5_lengthOf
theorem dX1_isLinkBetween_0 : decode cX1_isLinkBetween 0 = .ok (.aload_n 0, 1) := by decide +kernel
theorem dX1_isLinkBetween_1 : decode cX1_isLinkBetween 1 = .ok (.getfield 18, 3) := by decide +kernel
theorem dX1_isLinkBetween_4 : decode cX1_isLinkBetween 4 = .ok (.iload_n 1, 1) := by decide +kernel
theorem dX1_isLinkBetween_5 : decode cX1_isLinkBetween 5 = .ok (.iaload, 1) := by decide +kernel
theorem dX1_isLinkBetween_6 : decode cX1_isLinkBetween 6 = .ok (.iload_n 3, 1) := by decide +kernel
theorem dX1_isLinkBetween_7 : decode cX1_isLinkBetween 7 = .ok (.if_icmp .ne 30, 3) := by decide +kernel
theorem dX1_isLinkBetween_10 : decode cX1_isLinkBetween 10 = .ok (.aload_n 0, 1) := by decide +kernel
theorem dX1_isLinkBetween_11 : decode cX1_isLinkBetween 11 = .ok (.getfield 18, 3) := by decide +kernel
theorem dX1_isLinkBetween_14 : decode cX1_isLinkBetween 14 = .ok (.iload_n 2, 1) := by decide +kernel
theorem dX1_isLinkBetween_15 : decode cX1_isLinkBetween 15 = .ok (.iaload, 1) := by decide +kernel
theorem dX1_isLinkBetween_16 : decode cX1_isLinkBetween 16 = .ok (.iload 4, 2) := by decide +kernel
theorem dX1_isLinkBetween_18 : decode cX1_isLinkBetween 18 = .ok (.if_icmp .ne 19, 3) := by decide +kernel
theorem dX1_isLinkBetween_21 : decode cX1_isLinkBetween 21 = .ok (.aload_n 0, 1) := by decide +kernel
theorem dX1_isLinkBetween_22 : decode cX1_isLinkBetween 22 = .ok (.getfield 21, 3) := by decide +kernel
theorem dX1_isLinkBetween_25 : decode cX1_isLinkBetween 25 = .ok (.iload_n 1, 1) := by decide +kernel
theorem dX1_isLinkBetween_26 : decode cX1_isLinkBetween 26 = .ok (.iload_n 2, 1) := by decide +kernel
theorem dX1_isLinkBetween_27 : decode cX1_isLinkBetween 27 = .ok (.invokevirtual 77, 3) := by decide +kernel
theorem dX1_isLinkBetween_30 : decode cX1_isLinkBetween 30 = .ok (.ifCond .eq 7, 3) := by decide +kernel
theorem dX1_isLinkBetween_33 : decode cX1_isLinkBetween 33 = .ok (.iconst 1, 1) := by decide +kernel
theorem dX1_isLinkBetween_34 : decode cX1_isLinkBetween 34 = .ok (.goto 4, 3) := by decide +kernel
theorem dX1_isLinkBetween_37 : decode cX1_isLinkBetween 37 = .ok (.iconst 0, 1) := by decide +kernel
theorem dX1_isLinkBetween_38 : decode cX1_isLinkBetween 38 = .ok (.ireturn, 1) := by decide +kernel
theorem dX2_init_0 : decode cX2_init 0 = .ok (.aload_n 0, 1) := by decide +kernel
theorem dX2_init_1 : decode cX2_init 1 = .ok (.invokespecial 3, 3) := by decide +kernel
theorem dX2_init_4 : decode cX2_init 4 = .ok (.aload_n 0, 1) := by decide +kernel
theorem dX2_init_5 : decode cX2_init 5 = .ok (.sipush 200, 3) := by decide +kernel
theorem dX2_init_8 : decode cX2_init 8 = .ok (.newarray .char, 2) := by decide +kernel
theorem dX2_init_10 : decode cX2_init 10 = .ok (.putfield 9, 3) := by decide +kernel
theorem dX2_init_13 : decode cX2_init 13 = .ok (.return_, 1) := by decide +kernel
theorem dX2_isFull_0 : decode cX2_isFull 0 = .ok (.aload_n 0, 1) := by decide +kernel
theorem dX2_isFull_1 : decode cX2_isFull 1 = .ok (.getfield 15, 3) := by decide +kernel
theorem dX2_isFull_4 : decode cX2_isFull 4 = .ok (.aload_n 0, 1) := by decide +kernel
theorem dX2_isFull_5 : decode cX2_isFull 5 = .ok (.getfield 9, 3) := by decide +kernel
theorem dX2_isFull_8 : decode cX2_isFull 8 = .ok (.arraylength, 1) := by decide +kernel
theorem dX2_isFull_9 : decode cX2_isFull 9 = .ok (.if_icmp .lt 7, 3) := by decide +kernel
theorem dX2_isFull_12 : decode cX2_isFull 12 = .ok (.iconst 1, 1) := by decide +kernel
theorem dX2_isFull_13 : decode cX2_isFull 13 = .ok (.goto 4, 3) := by decide +kernel
theorem dX2_isFull_16 : decode cX2_isFull 16 = .ok (.iconst 0, 1) := by decide +kernel
theorem dX2_isFull_17 : decode cX2_isFull 17 = .ok (.ireturn, 1) := by decide +kernel
theorem dX2_size_0 : decode cX2_size 0 = .ok (.aload_n 0, 1) := by decide +kernel
theorem dX2_size_1 : decode cX2_size 1 = .ok (.getfield 15, 3) := by decide +kernel
theorem dX2_size_4 : decode cX2_size 4 = .ok (.ireturn, 1) := by decide +kernel
set_option maxRecDepth 20000 in
theorem ggX2_append_X2_isFull : GoodIn wsX2_append wsX2_isFull := goodIn_r _ [7, 2, 1, 8, 9] (by decide +kernel) (by decide +kernel)
set_option maxRecDepth 20000 in
theorem gX2_append_X2_isFull : GoodIn wsX2_append (wsV RX2 19 RX2 yX2_isFull wsX2_isFull) := goodIn_app (goodIn_of _ (by decide +kernel)) ggX2_append_X2_isFull
theorem dX2_append_0 : decode cX2_append 0 = .ok (.aload_n 0, 1) := by decide +kernel
theorem dX2_append_1 : decode cX2_append 1 = .ok (.invokevirtual 19, 3) := by decide +kernel
theorem dX2_append_4 : decode cX2_append 4 = .ok (.ifCond .ne 24, 3) := by decide +kernel
theorem dX2_append_7 : decode cX2_append 7 = .ok (.aload_n 0, 1) := by decide +kernel
theorem dX2_append_8 : decode cX2_append 8 = .ok (.getfield 9, 3) := by decide +kernel
theorem dX2_append_11 : decode cX2_append 11 = .ok (.aload_n 0, 1) := by decide +kernel
theorem dX2_append_12 : decode cX2_append 12 = .ok (.getfield 15, 3) := by decide +kernel
theorem dX2_append_15 : decode cX2_append 15 = .ok (.iload_n 1, 1) := by decide +kernel
theorem dX2_append_16 : decode cX2_append 16 = .ok (.i2c, 1) := by decide +kernel
theorem dX2_append_17 : decode cX2_append 17 = .ok (.castore, 1) := by decide +kernel
theorem dX2_append_18 : decode cX2_append 18 = .ok (.aload_n 0, 1) := by decide +kernel
theorem dX2_append_19 : decode cX2_append 19 = .ok (.dup, 1) := by decide +kernel
theorem dX2_append_20 : decode cX2_append 20 = .ok (.getfield 15, 3) := by decide +kernel
theorem dX2_append_23 : decode cX2_append 23 = .ok (.iconst 1, 1) := by decide +kernel
theorem dX2_append_24 : decode cX2_append 24 = .ok (.iadd, 1) := by decide +kernel
theorem dX2_append_25 : decode cX2_append 25 = .ok (.putfield 15, 3) := by decide +kernel
theorem dX2_append_28 : decode cX2_append 28 = .ok (.return_, 1) := by decide +kernel
theorem dX2_clear_0 : decode cX2_clear 0 = .ok (.aload_n 0, 1) := by decide +kernel
theorem dX2_clear_1 : decode cX2_clear 1 = .ok (.iconst 0, 1) := by decide +kernel
theorem dX2_clear_2 : decode cX2_clear 2 = .ok (.putfield 15, 3) := by decide +kernel
theorem dX2_clear_5 : decode cX2_clear 5 = .ok (.return_, 1) := by decide +kernel
set_option maxRecDepth 20000 in
theorem ggX2_at_X7_isWithin : GoodIn wsX2_at wsX7_isWithin := goodIn_r _ [5] (by decide +kernel) (by decide +kernel)
set_option maxRecDepth 20000 in
theorem gX2_at_X7_isWithin_n23 : GoodIn wsX2_at (wsX7_isWithin) := ggX2_at_X7_isWithin
theorem dX2_at_0 : decode cX2_at 0 = .ok (.iload_n 1, 1) := by decide +kernel
theorem dX2_at_1 : decode cX2_at 1 = .ok (.iconst 0, 1) := by decide +kernel
theorem dX2_at_2 : decode cX2_at 2 = .ok (.aload_n 0, 1) := by decide +kernel
theorem dX2_at_3 : decode cX2_at 3 = .ok (.getfield 15, 3) := by decide +kernel
theorem dX2_at_6 : decode cX2_at 6 = .ok (.iconst 1, 1) := by decide +kernel
theorem dX2_at_7 : decode cX2_at 7 = .ok (.isub, 1) := by decide +kernel
theorem dX2_at_8 : decode cX2_at 8 = .ok (.invokestatic 23, 3) := by decide +kernel
theorem dX2_at_11 : decode cX2_at 11 = .ok (.ifCond .eq 12, 3) := by decide +kernel
theorem dX2_at_14 : decode cX2_at 14 = .ok (.aload_n 0, 1) := by decide +kernel
theorem dX2_at_15 : decode cX2_at 15 = .ok (.getfield 9, 3) := by decide +kernel
theorem dX2_at_18 : decode cX2_at 18 = .ok (.iload_n 1, 1) := by decide +kernel
theorem dX2_at_19 : decode cX2_at 19 = .ok (.caload, 1) := by decide +kernel
theorem dX2_at_20 : decode cX2_at 20 = .ok (.goto 5, 3) := by decide +kernel
theorem dX2_at_23 : decode cX2_at 23 = .ok (.bipush (-4), 2) := by decide +kernel
theorem dX2_at_25 : decode cX2_at 25 = .ok (.ireturn, 1) := by decide +kernel
