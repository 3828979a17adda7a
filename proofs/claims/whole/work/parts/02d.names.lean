set_option maxRecDepth 20000 in
theorem ggX3_init_X0_init : GoodIn wsX3_init wsX0_init := goodIn_r _ [9, 10, 2, 3] (by decide +kernel) (by decide +kernel)
set_option maxRecDepth 20000 in
theorem gX3_init_X0_init_n17 : GoodIn wsX3_init (wsX0_init) := ggX3_init_X0_init
theorem dX3_init_0 : decode cX3_init 0 = .ok (.aload_n 0, 1) := by decide +kernel
theorem dX3_init_1 : decode cX3_init 1 = .ok (.invokespecial 3, 3) := by decide +kernel
theorem dX3_init_4 : decode cX3_init 4 = .ok (.aload_n 0, 1) := by decide +kernel
theorem dX3_init_5 : decode cX3_init 5 = .ok (.iconst 4, 1) := by decide +kernel
theorem dX3_init_6 : decode cX3_init 6 = .ok (.anewarray 9, 3) := by decide +kernel
theorem dX3_init_9 : decode cX3_init 9 = .ok (.putfield 11, 3) := by decide +kernel
theorem dX3_init_12 : decode cX3_init 12 = .ok (.iconst 0, 1) := by decide +kernel
theorem dX3_init_13 : decode cX3_init 13 = .ok (.istore_n 1, 1) := by decide +kernel
theorem dX3_init_14 : decode cX3_init 14 = .ok (.iload_n 1, 1) := by decide +kernel
theorem dX3_init_15 : decode cX3_init 15 = .ok (.iconst 4, 1) := by decide +kernel
theorem dX3_init_16 : decode cX3_init 16 = .ok (.if_icmp .ge 22, 3) := by decide +kernel
theorem dX3_init_19 : decode cX3_init 19 = .ok (.aload_n 0, 1) := by decide +kernel
theorem dX3_init_20 : decode cX3_init 20 = .ok (.getfield 11, 3) := by decide +kernel
theorem dX3_init_23 : decode cX3_init 23 = .ok (.iload_n 1, 1) := by decide +kernel
theorem dX3_init_24 : decode cX3_init 24 = .ok (.new 9, 3) := by decide +kernel
theorem dX3_init_27 : decode cX3_init 27 = .ok (.dup, 1) := by decide +kernel
theorem dX3_init_28 : decode cX3_init 28 = .ok (.invokespecial 17, 3) := by decide +kernel
theorem dX3_init_31 : decode cX3_init 31 = .ok (.aastore, 1) := by decide +kernel
theorem dX3_init_32 : decode cX3_init 32 = .ok (.iinc 1 1, 3) := by decide +kernel
theorem dX3_init_35 : decode cX3_init 35 = .ok (.goto (-21), 3) := by decide +kernel
theorem dX3_init_38 : decode cX3_init 38 = .ok (.return_, 1) := by decide +kernel
theorem dX3_kept_0 : decode cX3_kept 0 = .ok (.aload_n 0, 1) := by decide +kernel
theorem dX3_kept_1 : decode cX3_kept 1 = .ok (.getfield 18, 3) := by decide +kernel
theorem dX3_kept_4 : decode cX3_kept 4 = .ok (.ireturn, 1) := by decide +kernel
theorem dX3_forget_0 : decode cX3_forget 0 = .ok (.aload_n 0, 1) := by decide +kernel
theorem dX3_forget_1 : decode cX3_forget 1 = .ok (.iconst 0, 1) := by decide +kernel
theorem dX3_forget_2 : decode cX3_forget 2 = .ok (.putfield 18, 3) := by decide +kernel
theorem dX3_forget_5 : decode cX3_forget 5 = .ok (.return_, 1) := by decide +kernel
set_option maxRecDepth 20000 in
theorem ggX3_keepLink_X3_freshChange : GoodIn wsX3_keepLink wsX3_freshChange := goodIn_r _ [5, 6, 7, 8, 9, 10, 11, 12, 28, 29, 30] (by decide +kernel) (by decide +kernel)
set_option maxRecDepth 20000 in
theorem gX3_keepLink_X3_freshChange : GoodIn wsX3_keepLink (wsV RX3 22 RX3 yX3_freshChange wsX3_freshChange) := goodIn_app (goodIn_of _ (by decide +kernel)) ggX3_keepLink_X3_freshChange
set_option maxRecDepth 20000 in
theorem ggX3_keepLink_X0_rememberLink : GoodIn wsX3_keepLink wsX0_rememberLink := goodIn_r _ [17, 18, 19, 20, 21, 22, 23, 24, 25, 26, 27, 31, 32, 33, 34, 35, 36, 37, 38, 39, 40, 41, 42, 43, 44, 45, 46, 47] (by decide +kernel) (by decide +kernel)
set_option maxRecDepth 20000 in
theorem gX3_keepLink_X0_rememberLink : GoodIn wsX3_keepLink (wsV RX3 26 RX0 yX0_rememberLink wsX0_rememberLink) := goodIn_app (goodIn_of _ (by decide +kernel)) ggX3_keepLink_X0_rememberLink
theorem dX3_keepLink_0 : decode cX3_keepLink 0 = .ok (.aload_n 0, 1) := by decide +kernel
theorem dX3_keepLink_1 : decode cX3_keepLink 1 = .ok (.invokevirtual 22, 3) := by decide +kernel
theorem dX3_keepLink_4 : decode cX3_keepLink 4 = .ok (.aload_n 1, 1) := by decide +kernel
theorem dX3_keepLink_5 : decode cX3_keepLink 5 = .ok (.iload_n 2, 1) := by decide +kernel
theorem dX3_keepLink_6 : decode cX3_keepLink 6 = .ok (.iload_n 3, 1) := by decide +kernel
theorem dX3_keepLink_7 : decode cX3_keepLink 7 = .ok (.invokevirtual 26, 3) := by decide +kernel
theorem dX3_keepLink_10 : decode cX3_keepLink 10 = .ok (.return_, 1) := by decide +kernel
set_option maxRecDepth 20000 in
theorem ggX3_keepDelay_X3_freshChange : GoodIn wsX3_keepDelay wsX3_freshChange := goodIn_r _ [5, 6, 7, 8, 9, 10, 11, 12, 57, 58, 59] (by decide +kernel) (by decide +kernel)
set_option maxRecDepth 20000 in
theorem gX3_keepDelay_X3_freshChange : GoodIn wsX3_keepDelay (wsV RX3 22 RX3 yX3_freshChange wsX3_freshChange) := goodIn_app (goodIn_of _ (by decide +kernel)) ggX3_keepDelay_X3_freshChange
set_option maxRecDepth 20000 in
theorem ggX3_keepDelay_X0_rememberDelay : GoodIn wsX3_keepDelay wsX0_rememberDelay := goodIn_r _ [17, 18, 19, 20, 21, 22, 23, 24, 25, 26, 27, 28, 29, 30, 31, 32, 33, 34, 35, 36, 37, 38, 39, 40, 41, 42, 43, 44, 45, 46, 47, 48, 49, 50, 51, 52, 53, 54, 55, 56, 60, 61, 62, 63, 64, 65, 66, 67, 68, 69, 70, 71, 72, 73, 74, 75, 76] (by decide +kernel) (by decide +kernel)
set_option maxRecDepth 20000 in
theorem gX3_keepDelay_X0_rememberDelay : GoodIn wsX3_keepDelay (wsV RX3 30 RX0 yX0_rememberDelay wsX0_rememberDelay) := goodIn_app (goodIn_of _ (by decide +kernel)) ggX3_keepDelay_X0_rememberDelay
theorem dX3_keepDelay_0 : decode cX3_keepDelay 0 = .ok (.aload_n 0, 1) := by decide +kernel
theorem dX3_keepDelay_1 : decode cX3_keepDelay 1 = .ok (.invokevirtual 22, 3) := by decide +kernel
theorem dX3_keepDelay_4 : decode cX3_keepDelay 4 = .ok (.aload_n 1, 1) := by decide +kernel
theorem dX3_keepDelay_5 : decode cX3_keepDelay 5 = .ok (.iload_n 2, 1) := by decide +kernel
theorem dX3_keepDelay_6 : decode cX3_keepDelay 6 = .ok (.invokevirtual 30, 3) := by decide +kernel
theorem dX3_keepDelay_9 : decode cX3_keepDelay 9 = .ok (.return_, 1) := by decide +kernel
set_option maxRecDepth 20000 in
theorem ggX3_keepZ_X3_freshChange : GoodIn wsX3_keepZ wsX3_freshChange := goodIn_r _ [5, 6, 7, 8, 9, 10, 11, 12, 26, 27, 28] (by decide +kernel) (by decide +kernel)
set_option maxRecDepth 20000 in
theorem gX3_keepZ_X3_freshChange : GoodIn wsX3_keepZ (wsV RX3 22 RX3 yX3_freshChange wsX3_freshChange) := goodIn_app (goodIn_of _ (by decide +kernel)) ggX3_keepZ_X3_freshChange
set_option maxRecDepth 20000 in
theorem ggX3_keepZ_X0_rememberZ : GoodIn wsX3_keepZ wsX0_rememberZ := goodIn_r _ [17, 18, 19, 20, 21, 22, 23, 24, 25, 29, 30, 31, 32, 33, 34, 35, 36, 37, 38, 39, 40, 41, 42, 43, 44, 45] (by decide +kernel) (by decide +kernel)
set_option maxRecDepth 20000 in
theorem gX3_keepZ_X0_rememberZ : GoodIn wsX3_keepZ (wsV RX3 34 RX0 yX0_rememberZ wsX0_rememberZ) := goodIn_app (goodIn_of _ (by decide +kernel)) ggX3_keepZ_X0_rememberZ
theorem dX3_keepZ_0 : decode cX3_keepZ 0 = .ok (.aload_n 0, 1) := by decide +kernel
theorem dX3_keepZ_1 : decode cX3_keepZ 1 = .ok (.invokevirtual 22, 3) := by decide +kernel
theorem dX3_keepZ_4 : decode cX3_keepZ 4 = .ok (.aload_n 1, 1) := by decide +kernel
theorem dX3_keepZ_5 : decode cX3_keepZ 5 = .ok (.invokevirtual 34, 3) := by decide +kernel
theorem dX3_keepZ_8 : decode cX3_keepZ 8 = .ok (.return_, 1) := by decide +kernel
theorem dX3_freshChange_0 : decode cX3_freshChange 0 = .ok (.aload_n 0, 1) := by decide +kernel
theorem dX3_freshChange_1 : decode cX3_freshChange 1 = .ok (.getfield 11, 3) := by decide +kernel
theorem dX3_freshChange_4 : decode cX3_freshChange 4 = .ok (.aload_n 0, 1) := by decide +kernel
theorem dX3_freshChange_5 : decode cX3_freshChange 5 = .ok (.getfield 38, 3) := by decide +kernel
theorem dX3_freshChange_8 : decode cX3_freshChange 8 = .ok (.aaload, 1) := by decide +kernel
theorem dX3_freshChange_9 : decode cX3_freshChange 9 = .ok (.astore_n 1, 1) := by decide +kernel
theorem dX3_freshChange_10 : decode cX3_freshChange 10 = .ok (.aload_n 0, 1) := by decide +kernel
theorem dX3_freshChange_11 : decode cX3_freshChange 11 = .ok (.aload_n 0, 1) := by decide +kernel
theorem dX3_freshChange_12 : decode cX3_freshChange 12 = .ok (.getfield 38, 3) := by decide +kernel
theorem dX3_freshChange_15 : decode cX3_freshChange 15 = .ok (.iconst 1, 1) := by decide +kernel
theorem dX3_freshChange_16 : decode cX3_freshChange 16 = .ok (.iadd, 1) := by decide +kernel
theorem dX3_freshChange_17 : decode cX3_freshChange 17 = .ok (.iconst 4, 1) := by decide +kernel
theorem dX3_freshChange_18 : decode cX3_freshChange 18 = .ok (.irem, 1) := by decide +kernel
theorem dX3_freshChange_19 : decode cX3_freshChange 19 = .ok (.putfield 38, 3) := by decide +kernel
theorem dX3_freshChange_22 : decode cX3_freshChange 22 = .ok (.aload_n 0, 1) := by decide +kernel
theorem dX3_freshChange_23 : decode cX3_freshChange 23 = .ok (.aload_n 0, 1) := by decide +kernel
theorem dX3_freshChange_24 : decode cX3_freshChange 24 = .ok (.getfield 18, 3) := by decide +kernel
theorem dX3_freshChange_27 : decode cX3_freshChange 27 = .ok (.iconst 1, 1) := by decide +kernel
theorem dX3_freshChange_28 : decode cX3_freshChange 28 = .ok (.iadd, 1) := by decide +kernel
theorem dX3_freshChange_29 : decode cX3_freshChange 29 = .ok (.iconst 4, 1) := by decide +kernel
theorem dX3_freshChange_30 : decode cX3_freshChange 30 = .ok (.invokestatic 41, 3) := by decide +kernel
theorem dX3_freshChange_33 : decode cX3_freshChange 33 = .ok (.putfield 18, 3) := by decide +kernel
theorem dX3_freshChange_36 : decode cX3_freshChange 36 = .ok (.aload_n 1, 1) := by decide +kernel
theorem dX3_freshChange_37 : decode cX3_freshChange 37 = .ok (.areturn, 1) := by decide +kernel
set_option maxRecDepth 20000 in
theorem ggX3_takeBack_X0_restore : GoodIn wsX3_takeBack wsX0_restore := goodIn_r _ [8, 9, 10, 11, 12, 13, 14, 15, 16, 17, 18, 19, 20, 21, 22, 23, 24, 25, 26, 27, 28, 29, 30, 31, 32, 33, 34, 35, 36, 37, 38, 39, 40, 41, 42, 43, 47, 48, 49, 50, 51, 52, 53, 54, 55, 56, 57, 58, 59, 60, 61, 62, 63] (by decide +kernel) (by decide +kernel)
set_option maxRecDepth 20000 in
theorem gX3_takeBack_X0_restore : GoodIn wsX3_takeBack (wsV RX3 47 RX0 yX0_restore wsX0_restore) := goodIn_app (goodIn_of _ (by decide +kernel)) ggX3_takeBack_X0_restore
theorem dX3_takeBack_0 : decode cX3_takeBack 0 = .ok (.aload_n 0, 1) := by decide +kernel
theorem dX3_takeBack_1 : decode cX3_takeBack 1 = .ok (.getfield 18, 3) := by decide +kernel
theorem dX3_takeBack_4 : decode cX3_takeBack 4 = .ok (.ifCond .le 40, 3) := by decide +kernel
theorem dX3_takeBack_7 : decode cX3_takeBack 7 = .ok (.aload_n 0, 1) := by decide +kernel
theorem dX3_takeBack_8 : decode cX3_takeBack 8 = .ok (.dup, 1) := by decide +kernel
theorem dX3_takeBack_9 : decode cX3_takeBack 9 = .ok (.getfield 18, 3) := by decide +kernel
theorem dX3_takeBack_12 : decode cX3_takeBack 12 = .ok (.iconst 1, 1) := by decide +kernel
theorem dX3_takeBack_13 : decode cX3_takeBack 13 = .ok (.isub, 1) := by decide +kernel
theorem dX3_takeBack_14 : decode cX3_takeBack 14 = .ok (.putfield 18, 3) := by decide +kernel
theorem dX3_takeBack_17 : decode cX3_takeBack 17 = .ok (.aload_n 0, 1) := by decide +kernel
theorem dX3_takeBack_18 : decode cX3_takeBack 18 = .ok (.aload_n 0, 1) := by decide +kernel
theorem dX3_takeBack_19 : decode cX3_takeBack 19 = .ok (.getfield 38, 3) := by decide +kernel
theorem dX3_takeBack_22 : decode cX3_takeBack 22 = .ok (.iconst 4, 1) := by decide +kernel
theorem dX3_takeBack_23 : decode cX3_takeBack 23 = .ok (.iadd, 1) := by decide +kernel
theorem dX3_takeBack_24 : decode cX3_takeBack 24 = .ok (.iconst 1, 1) := by decide +kernel
theorem dX3_takeBack_25 : decode cX3_takeBack 25 = .ok (.isub, 1) := by decide +kernel
theorem dX3_takeBack_26 : decode cX3_takeBack 26 = .ok (.iconst 4, 1) := by decide +kernel
theorem dX3_takeBack_27 : decode cX3_takeBack 27 = .ok (.irem, 1) := by decide +kernel
theorem dX3_takeBack_28 : decode cX3_takeBack 28 = .ok (.putfield 38, 3) := by decide +kernel
theorem dX3_takeBack_31 : decode cX3_takeBack 31 = .ok (.aload_n 0, 1) := by decide +kernel
theorem dX3_takeBack_32 : decode cX3_takeBack 32 = .ok (.getfield 11, 3) := by decide +kernel
theorem dX3_takeBack_35 : decode cX3_takeBack 35 = .ok (.aload_n 0, 1) := by decide +kernel
theorem dX3_takeBack_36 : decode cX3_takeBack 36 = .ok (.getfield 38, 3) := by decide +kernel
theorem dX3_takeBack_39 : decode cX3_takeBack 39 = .ok (.aaload, 1) := by decide +kernel
theorem dX3_takeBack_40 : decode cX3_takeBack 40 = .ok (.aload_n 1, 1) := by decide +kernel
theorem dX3_takeBack_41 : decode cX3_takeBack 41 = .ok (.invokevirtual 47, 3) := by decide +kernel
theorem dX3_takeBack_44 : decode cX3_takeBack 44 = .ok (.return_, 1) := by decide +kernel
theorem dX4_init_0 : decode cX4_init 0 = .ok (.aload_n 0, 1) := by decide +kernel
theorem dX4_init_1 : decode cX4_init 1 = .ok (.invokespecial 3, 3) := by decide +kernel
theorem dX4_init_4 : decode cX4_init 4 = .ok (.aload_n 0, 1) := by decide +kernel
theorem dX4_init_5 : decode cX4_init 5 = .ok (.sipush 256, 3) := by decide +kernel
theorem dX4_init_8 : decode cX4_init 8 = .ok (.newarray .int, 2) := by decide +kernel
theorem dX4_init_10 : decode cX4_init 10 = .ok (.putfield 9, 3) := by decide +kernel
theorem dX4_init_13 : decode cX4_init 13 = .ok (.return_, 1) := by decide +kernel
set_option maxRecDepth 20000 in
theorem ggX4_measure_X5_places : GoodIn wsX4_measure wsX5_places := goodIn_r _ [7, 8, 28, 29, 30, 31, 32, 33, 34, 35, 36] (by decide +kernel) (by decide +kernel)
set_option maxRecDepth 20000 in
theorem gX4_measure_X5_places : GoodIn wsX4_measure (wsV RX4 15 RX5 yX5_places wsX5_places) := goodIn_app (goodIn_of _ (by decide +kernel)) ggX4_measure_X5_places
set_option maxRecDepth 20000 in
theorem ggX4_measure_X5_lengthOf : GoodIn wsX4_measure wsX5_lengthOf := goodIn_r _ [12, 13, 28, 29, 30, 31, 32, 33, 34, 35, 36] (by decide +kernel) (by decide +kernel)
set_option maxRecDepth 20000 in
theorem gX4_measure_X5_lengthOf : GoodIn wsX4_measure (wsV RX4 21 RX5 yX5_lengthOf wsX5_lengthOf) := goodIn_app (goodIn_of _ (by decide +kernel)) ggX4_measure_X5_lengthOf
set_option maxRecDepth 20000 in
theorem ggX4_measure_X4_areJoined : GoodIn wsX4_measure wsX4_areJoined := goodIn_r _ [18, 2, 19, 20, 21, 17, 22, 1, 27] (by decide +kernel) (by decide +kernel)
set_option maxRecDepth 20000 in
theorem gX4_measure_X4_areJoined : GoodIn wsX4_measure (wsV RX4 26 RX4 yX4_areJoined wsX4_areJoined) := goodIn_app (goodIn_of _ (by decide +kernel)) ggX4_measure_X4_areJoined
set_option maxRecDepth 20000 in
theorem ggX4_measure_X4_shortenFrom : GoodIn wsX4_measure wsX4_shortenFrom := goodIn_r _ [26, 1, 19, 20, 21, 17, 22, 27] (by decide +kernel) (by decide +kernel)
set_option maxRecDepth 20000 in
theorem gX4_measure_X4_shortenFrom : GoodIn wsX4_measure (wsV RX4 30 RX4 yX4_shortenFrom wsX4_shortenFrom) := goodIn_app (goodIn_of _ (by decide +kernel)) ggX4_measure_X4_shortenFrom
theorem dX4_measure_0 : decode cX4_measure 0 = .ok (.aload_n 1, 1) := by decide +kernel
theorem dX4_measure_1 : decode cX4_measure 1 = .ok (.invokevirtual 15, 3) := by decide +kernel
theorem dX4_measure_4 : decode cX4_measure 4 = .ok (.istore_n 2, 1) := by decide +kernel
theorem dX4_measure_5 : decode cX4_measure 5 = .ok (.iconst 0, 1) := by decide +kernel
theorem dX4_measure_6 : decode cX4_measure 6 = .ok (.istore_n 3, 1) := by decide +kernel
theorem dX4_measure_7 : decode cX4_measure 7 = .ok (.iload_n 3, 1) := by decide +kernel
theorem dX4_measure_8 : decode cX4_measure 8 = .ok (.iload_n 2, 1) := by decide +kernel
theorem dX4_measure_9 : decode cX4_measure 9 = .ok (.if_icmp .ge 67, 3) := by decide +kernel
theorem dX4_measure_12 : decode cX4_measure 12 = .ok (.iconst 0, 1) := by decide +kernel
theorem dX4_measure_13 : decode cX4_measure 13 = .ok (.istore 4, 2) := by decide +kernel
theorem dX4_measure_15 : decode cX4_measure 15 = .ok (.iload 4, 2) := by decide +kernel
theorem dX4_measure_17 : decode cX4_measure 17 = .ok (.iload_n 2, 1) := by decide +kernel
theorem dX4_measure_18 : decode cX4_measure 18 = .ok (.if_icmp .ge 52, 3) := by decide +kernel
theorem dX4_measure_21 : decode cX4_measure 21 = .ok (.aload_n 1, 1) := by decide +kernel
theorem dX4_measure_22 : decode cX4_measure 22 = .ok (.iload_n 3, 1) := by decide +kernel
theorem dX4_measure_23 : decode cX4_measure 23 = .ok (.iload 4, 2) := by decide +kernel
theorem dX4_measure_25 : decode cX4_measure 25 = .ok (.invokevirtual 21, 3) := by decide +kernel
theorem dX4_measure_28 : decode cX4_measure 28 = .ok (.istore 5, 2) := by decide +kernel
theorem dX4_measure_30 : decode cX4_measure 30 = .ok (.aload_n 0, 1) := by decide +kernel
theorem dX4_measure_31 : decode cX4_measure 31 = .ok (.getfield 9, 3) := by decide +kernel
theorem dX4_measure_34 : decode cX4_measure 34 = .ok (.iload_n 3, 1) := by decide +kernel
theorem dX4_measure_35 : decode cX4_measure 35 = .ok (.bipush 16, 2) := by decide +kernel
theorem dX4_measure_37 : decode cX4_measure 37 = .ok (.imul, 1) := by decide +kernel
theorem dX4_measure_38 : decode cX4_measure 38 = .ok (.iload 4, 2) := by decide +kernel
theorem dX4_measure_40 : decode cX4_measure 40 = .ok (.iadd, 1) := by decide +kernel
theorem dX4_measure_41 : decode cX4_measure 41 = .ok (.iload_n 3, 1) := by decide +kernel
theorem dX4_measure_42 : decode cX4_measure 42 = .ok (.iload 4, 2) := by decide +kernel
theorem dX4_measure_44 : decode cX4_measure 44 = .ok (.if_icmp .ne 7, 3) := by decide +kernel
theorem dX4_measure_47 : decode cX4_measure 47 = .ok (.iconst 0, 1) := by decide +kernel
theorem dX4_measure_48 : decode cX4_measure 48 = .ok (.goto 15, 3) := by decide +kernel
theorem dX4_measure_51 : decode cX4_measure 51 = .ok (.iload 5, 2) := by decide +kernel
theorem dX4_measure_53 : decode cX4_measure 53 = .ok (.ifCond .ne 8, 3) := by decide +kernel
theorem dX4_measure_56 : decode cX4_measure 56 = .ok (.ldc 25, 2) := by decide +kernel
theorem dX4_measure_58 : decode cX4_measure 58 = .ok (.goto 5, 3) := by decide +kernel
theorem dX4_measure_61 : decode cX4_measure 61 = .ok (.iload 5, 2) := by decide +kernel
theorem dX4_measure_63 : decode cX4_measure 63 = .ok (.iastore, 1) := by decide +kernel
theorem dX4_measure_64 : decode cX4_measure 64 = .ok (.iinc 4 1, 3) := by decide +kernel
theorem dX4_measure_67 : decode cX4_measure 67 = .ok (.goto (-52), 3) := by decide +kernel
theorem dX4_measure_70 : decode cX4_measure 70 = .ok (.iinc 3 1, 3) := by decide +kernel
theorem dX4_measure_73 : decode cX4_measure 73 = .ok (.goto (-66), 3) := by decide +kernel
theorem dX4_measure_76 : decode cX4_measure 76 = .ok (.iconst 0, 1) := by decide +kernel
theorem dX4_measure_77 : decode cX4_measure 77 = .ok (.istore_n 3, 1) := by decide +kernel
theorem dX4_measure_78 : decode cX4_measure 78 = .ok (.iload_n 3, 1) := by decide +kernel
theorem dX4_measure_79 : decode cX4_measure 79 = .ok (.iload_n 2, 1) := by decide +kernel
theorem dX4_measure_80 : decode cX4_measure 80 = .ok (.if_icmp .ge 42, 3) := by decide +kernel
theorem dX4_measure_83 : decode cX4_measure 83 = .ok (.iconst 0, 1) := by decide +kernel
theorem dX4_measure_84 : decode cX4_measure 84 = .ok (.istore 4, 2) := by decide +kernel
theorem dX4_measure_86 : decode cX4_measure 86 = .ok (.iload 4, 2) := by decide +kernel
theorem dX4_measure_88 : decode cX4_measure 88 = .ok (.iload_n 2, 1) := by decide +kernel
theorem dX4_measure_89 : decode cX4_measure 89 = .ok (.if_icmp .ge 27, 3) := by decide +kernel
theorem dX4_measure_92 : decode cX4_measure 92 = .ok (.aload_n 0, 1) := by decide +kernel
theorem dX4_measure_93 : decode cX4_measure 93 = .ok (.iload 4, 2) := by decide +kernel
theorem dX4_measure_95 : decode cX4_measure 95 = .ok (.iload_n 3, 1) := by decide +kernel
theorem dX4_measure_96 : decode cX4_measure 96 = .ok (.invokevirtual 26, 3) := by decide +kernel
theorem dX4_measure_99 : decode cX4_measure 99 = .ok (.ifCond .eq 11, 3) := by decide +kernel
theorem dX4_measure_102 : decode cX4_measure 102 = .ok (.aload_n 0, 1) := by decide +kernel
theorem dX4_measure_103 : decode cX4_measure 103 = .ok (.iload 4, 2) := by decide +kernel
theorem dX4_measure_105 : decode cX4_measure 105 = .ok (.iload_n 3, 1) := by decide +kernel
theorem dX4_measure_106 : decode cX4_measure 106 = .ok (.iload_n 2, 1) := by decide +kernel
theorem dX4_measure_107 : decode cX4_measure 107 = .ok (.invokevirtual 30, 3) := by decide +kernel
theorem dX4_measure_110 : decode cX4_measure 110 = .ok (.iinc 4 1, 3) := by decide +kernel
theorem dX4_measure_113 : decode cX4_measure 113 = .ok (.goto (-27), 3) := by decide +kernel
theorem dX4_measure_116 : decode cX4_measure 116 = .ok (.iinc 3 1, 3) := by decide +kernel
theorem dX4_measure_119 : decode cX4_measure 119 = .ok (.goto (-41), 3) := by decide +kernel
theorem dX4_measure_122 : decode cX4_measure 122 = .ok (.return_, 1) := by decide +kernel
set_option maxRecDepth 20000 in
theorem ggX4_shortenFrom_X4_between : GoodIn wsX4_shortenFrom wsX4_between := goodIn_r _ [6, 1, 7] (by decide +kernel) (by decide +kernel)
set_option maxRecDepth 20000 in
theorem gX4_shortenFrom_X4_between : GoodIn wsX4_shortenFrom (wsV RX4 34 RX4 yX4_between wsX4_between) := goodIn_app (goodIn_of _ (by decide +kernel)) ggX4_shortenFrom_X4_between
theorem dX4_shortenFrom_0 : decode cX4_shortenFrom 0 = .ok (.iconst 0, 1) := by decide +kernel
theorem dX4_shortenFrom_1 : decode cX4_shortenFrom 1 = .ok (.istore 4, 2) := by decide +kernel
theorem dX4_shortenFrom_3 : decode cX4_shortenFrom 3 = .ok (.iload 4, 2) := by decide +kernel
theorem dX4_shortenFrom_5 : decode cX4_shortenFrom 5 = .ok (.iload_n 3, 1) := by decide +kernel
theorem dX4_shortenFrom_6 : decode cX4_shortenFrom 6 = .ok (.if_icmp .ge 51, 3) := by decide +kernel
theorem dX4_shortenFrom_9 : decode cX4_shortenFrom 9 = .ok (.aload_n 0, 1) := by decide +kernel
theorem dX4_shortenFrom_10 : decode cX4_shortenFrom 10 = .ok (.iload_n 1, 1) := by decide +kernel
theorem dX4_shortenFrom_11 : decode cX4_shortenFrom 11 = .ok (.iload_n 2, 1) := by decide +kernel
theorem dX4_shortenFrom_12 : decode cX4_shortenFrom 12 = .ok (.invokevirtual 34, 3) := by decide +kernel
theorem dX4_shortenFrom_15 : decode cX4_shortenFrom 15 = .ok (.aload_n 0, 1) := by decide +kernel
theorem dX4_shortenFrom_16 : decode cX4_shortenFrom 16 = .ok (.iload_n 2, 1) := by decide +kernel
theorem dX4_shortenFrom_17 : decode cX4_shortenFrom 17 = .ok (.iload 4, 2) := by decide +kernel
theorem dX4_shortenFrom_19 : decode cX4_shortenFrom 19 = .ok (.invokevirtual 34, 3) := by decide +kernel
theorem dX4_shortenFrom_22 : decode cX4_shortenFrom 22 = .ok (.iadd, 1) := by decide +kernel
theorem dX4_shortenFrom_23 : decode cX4_shortenFrom 23 = .ok (.istore 5, 2) := by decide +kernel
theorem dX4_shortenFrom_25 : decode cX4_shortenFrom 25 = .ok (.iload 5, 2) := by decide +kernel
theorem dX4_shortenFrom_27 : decode cX4_shortenFrom 27 = .ok (.aload_n 0, 1) := by decide +kernel
theorem dX4_shortenFrom_28 : decode cX4_shortenFrom 28 = .ok (.iload_n 1, 1) := by decide +kernel
theorem dX4_shortenFrom_29 : decode cX4_shortenFrom 29 = .ok (.iload 4, 2) := by decide +kernel
theorem dX4_shortenFrom_31 : decode cX4_shortenFrom 31 = .ok (.invokevirtual 34, 3) := by decide +kernel
theorem dX4_shortenFrom_34 : decode cX4_shortenFrom 34 = .ok (.if_icmp .ge 17, 3) := by decide +kernel
theorem dX4_shortenFrom_37 : decode cX4_shortenFrom 37 = .ok (.aload_n 0, 1) := by decide +kernel
theorem dX4_shortenFrom_38 : decode cX4_shortenFrom 38 = .ok (.getfield 9, 3) := by decide +kernel
theorem dX4_shortenFrom_41 : decode cX4_shortenFrom 41 = .ok (.iload_n 1, 1) := by decide +kernel
theorem dX4_shortenFrom_42 : decode cX4_shortenFrom 42 = .ok (.bipush 16, 2) := by decide +kernel
theorem dX4_shortenFrom_44 : decode cX4_shortenFrom 44 = .ok (.imul, 1) := by decide +kernel
theorem dX4_shortenFrom_45 : decode cX4_shortenFrom 45 = .ok (.iload 4, 2) := by decide +kernel
theorem dX4_shortenFrom_47 : decode cX4_shortenFrom 47 = .ok (.iadd, 1) := by decide +kernel
theorem dX4_shortenFrom_48 : decode cX4_shortenFrom 48 = .ok (.iload 5, 2) := by decide +kernel
theorem dX4_shortenFrom_50 : decode cX4_shortenFrom 50 = .ok (.iastore, 1) := by decide +kernel
theorem dX4_shortenFrom_51 : decode cX4_shortenFrom 51 = .ok (.iinc 4 1, 3) := by decide +kernel
theorem dX4_shortenFrom_54 : decode cX4_shortenFrom 54 = .ok (.goto (-51), 3) := by decide +kernel
theorem dX4_shortenFrom_57 : decode cX4_shortenFrom 57 = .ok (.return_, 1) := by decide +kernel
set_option maxRecDepth 20000 in
theorem ggX4_areJoined_X4_between : GoodIn wsX4_areJoined wsX4_between := goodIn_r _ [6, 7, 8] (by decide +kernel) (by decide +kernel)
set_option maxRecDepth 20000 in
theorem gX4_areJoined_X4_between : GoodIn wsX4_areJoined (wsV RX4 34 RX4 yX4_between wsX4_between) := goodIn_app (goodIn_of _ (by decide +kernel)) ggX4_areJoined_X4_between
theorem dX4_areJoined_0 : decode cX4_areJoined 0 = .ok (.aload_n 0, 1) := by decide +kernel
theorem dX4_areJoined_1 : decode cX4_areJoined 1 = .ok (.iload_n 1, 1) := by decide +kernel
theorem dX4_areJoined_2 : decode cX4_areJoined 2 = .ok (.iload_n 2, 1) := by decide +kernel
theorem dX4_areJoined_3 : decode cX4_areJoined 3 = .ok (.invokevirtual 34, 3) := by decide +kernel
theorem dX4_areJoined_6 : decode cX4_areJoined 6 = .ok (.ldc 25, 2) := by decide +kernel
theorem dX4_areJoined_8 : decode cX4_areJoined 8 = .ok (.if_icmp .ge 7, 3) := by decide +kernel
theorem dX4_areJoined_11 : decode cX4_areJoined 11 = .ok (.iconst 1, 1) := by decide +kernel
theorem dX4_areJoined_12 : decode cX4_areJoined 12 = .ok (.goto 4, 3) := by decide +kernel
theorem dX4_areJoined_15 : decode cX4_areJoined 15 = .ok (.iconst 0, 1) := by decide +kernel
theorem dX4_areJoined_16 : decode cX4_areJoined 16 = .ok (.ireturn, 1) := by decide +kernel
theorem dX4_between_0 : decode cX4_between 0 = .ok (.aload_n 0, 1) := by decide +kernel
theorem dX4_between_1 : decode cX4_between 1 = .ok (.getfield 9, 3) := by decide +kernel
theorem dX4_between_4 : decode cX4_between 4 = .ok (.iload_n 1, 1) := by decide +kernel
theorem dX4_between_5 : decode cX4_between 5 = .ok (.bipush 16, 2) := by decide +kernel
theorem dX4_between_7 : decode cX4_between 7 = .ok (.imul, 1) := by decide +kernel
theorem dX4_between_8 : decode cX4_between 8 = .ok (.iload_n 2, 1) := by decide +kernel
theorem dX4_between_9 : decode cX4_between 9 = .ok (.iadd, 1) := by decide +kernel
theorem dX4_between_10 : decode cX4_between 10 = .ok (.iaload, 1) := by decide +kernel
theorem dX4_between_11 : decode cX4_between 11 = .ok (.ireturn, 1) := by decide +kernel
theorem dX5_init_0 : decode cX5_init 0 = .ok (.aload_n 0, 1) := by decide +kernel
theorem dX5_init_1 : decode cX5_init 1 = .ok (.invokespecial 3, 3) := by decide +kernel
theorem dX5_init_4 : decode cX5_init 4 = .ok (.aload_n 0, 1) := by decide +kernel
theorem dX5_init_5 : decode cX5_init 5 = .ok (.sipush 256, 3) := by decide +kernel
theorem dX5_init_8 : decode cX5_init 8 = .ok (.newarray .int, 2) := by decide +kernel
theorem dX5_init_10 : decode cX5_init 10 = .ok (.putfield 9, 3) := by decide +kernel
theorem dX5_init_13 : decode cX5_init 13 = .ok (.aload_n 0, 1) := by decide +kernel
theorem dX5_init_14 : decode cX5_init 14 = .ok (.bipush 16, 2) := by decide +kernel
theorem dX5_init_16 : decode cX5_init 16 = .ok (.newarray .boolean, 2) := by decide +kernel
theorem dX5_init_18 : decode cX5_init 18 = .ok (.putfield 15, 3) := by decide +kernel
theorem dX5_init_21 : decode cX5_init 21 = .ok (.aload_n 0, 1) := by decide +kernel
theorem dX5_init_22 : decode cX5_init 22 = .ok (.bipush 16, 2) := by decide +kernel
theorem dX5_init_24 : decode cX5_init 24 = .ok (.newarray .int, 2) := by decide +kernel
theorem dX5_init_26 : decode cX5_init 26 = .ok (.putfield 19, 3) := by decide +kernel
theorem dX5_init_29 : decode cX5_init 29 = .ok (.aload_n 0, 1) := by decide +kernel
theorem dX5_init_30 : decode cX5_init 30 = .ok (.bipush 16, 2) := by decide +kernel
theorem dX5_init_32 : decode cX5_init 32 = .ok (.newarray .int, 2) := by decide +kernel
theorem dX5_init_34 : decode cX5_init 34 = .ok (.putfield 22, 3) := by decide +kernel
theorem dX5_init_37 : decode cX5_init 37 = .ok (.return_, 1) := by decide +kernel
set_option maxRecDepth 20000 in
theorem ggX5_clear_J7_fill_53178 : GoodIn wsX5_clear wsJ7_fill_53178 := goodIn_r _ [10] (by decide +kernel) (by decide +kernel)
set_option maxRecDepth 20000 in
theorem gX5_clear_J7_fill_53178 : GoodIn wsX5_clear (va_wsS RX5 25 yJ7_fill_53178 wsJ7_fill_53178) := goodIn_app (goodIn_of _ (by decide +kernel)) ggX5_clear_J7_fill_53178
set_option maxRecDepth 20000 in
theorem ggX5_clear_X5_untell : GoodIn wsX5_clear wsX5_untell := goodIn_r _ [15, 16, 17, 18, 19, 20, 21, 22, 23, 24, 25, 26, 27] (by decide +kernel) (by decide +kernel)
set_option maxRecDepth 20000 in
theorem gX5_clear_X5_untell : GoodIn wsX5_clear (wsV RX5 31 RX5 yX5_untell wsX5_untell) := goodIn_app (goodIn_of _ (by decide +kernel)) ggX5_clear_X5_untell
theorem dX5_clear_0 : decode cX5_clear 0 = .ok (.aload_n 0, 1) := by decide +kernel
theorem dX5_clear_1 : decode cX5_clear 1 = .ok (.getfield 9, 3) := by decide +kernel
theorem dX5_clear_4 : decode cX5_clear 4 = .ok (.iconst 0, 1) := by decide +kernel
theorem dX5_clear_5 : decode cX5_clear 5 = .ok (.invokestatic 25, 3) := by decide +kernel
theorem dX5_clear_8 : decode cX5_clear 8 = .ok (.iconst 0, 1) := by decide +kernel
theorem dX5_clear_9 : decode cX5_clear 9 = .ok (.istore_n 1, 1) := by decide +kernel
theorem dX5_clear_10 : decode cX5_clear 10 = .ok (.iload_n 1, 1) := by decide +kernel
theorem dX5_clear_11 : decode cX5_clear 11 = .ok (.bipush 16, 2) := by decide +kernel
theorem dX5_clear_13 : decode cX5_clear 13 = .ok (.if_icmp .ge 14, 3) := by decide +kernel
theorem dX5_clear_16 : decode cX5_clear 16 = .ok (.aload_n 0, 1) := by decide +kernel
theorem dX5_clear_17 : decode cX5_clear 17 = .ok (.iload_n 1, 1) := by decide +kernel
theorem dX5_clear_18 : decode cX5_clear 18 = .ok (.invokevirtual 31, 3) := by decide +kernel
theorem dX5_clear_21 : decode cX5_clear 21 = .ok (.iinc 1 1, 3) := by decide +kernel
theorem dX5_clear_24 : decode cX5_clear 24 = .ok (.goto (-14), 3) := by decide +kernel
theorem dX5_clear_27 : decode cX5_clear 27 = .ok (.aload_n 0, 1) := by decide +kernel
theorem dX5_clear_28 : decode cX5_clear 28 = .ok (.iconst 0, 1) := by decide +kernel
theorem dX5_clear_29 : decode cX5_clear 29 = .ok (.putfield 35, 3) := by decide +kernel
theorem dX5_clear_32 : decode cX5_clear 32 = .ok (.aload_n 0, 1) := by decide +kernel
theorem dX5_clear_33 : decode cX5_clear 33 = .ok (.iconst 0, 1) := by decide +kernel
theorem dX5_clear_34 : decode cX5_clear 34 = .ok (.putfield 39, 3) := by decide +kernel
theorem dX5_clear_37 : decode cX5_clear 37 = .ok (.aload_n 0, 1) := by decide +kernel
theorem dX5_clear_38 : decode cX5_clear 38 = .ok (.bipush 8, 2) := by decide +kernel
theorem dX5_clear_40 : decode cX5_clear 40 = .ok (.putfield 42, 3) := by decide +kernel
theorem dX5_clear_43 : decode cX5_clear 43 = .ok (.aload_n 0, 1) := by decide +kernel
theorem dX5_clear_44 : decode cX5_clear 44 = .ok (.bipush 6, 2) := by decide +kernel
theorem dX5_clear_46 : decode cX5_clear 46 = .ok (.putfield 45, 3) := by decide +kernel
theorem dX5_clear_49 : decode cX5_clear 49 = .ok (.aload_n 0, 1) := by decide +kernel
theorem dX5_clear_50 : decode cX5_clear 50 = .ok (.iconst 0, 1) := by decide +kernel
theorem dX5_clear_51 : decode cX5_clear 51 = .ok (.putfield 48, 3) := by decide +kernel
theorem dX5_clear_54 : decode cX5_clear 54 = .ok (.return_, 1) := by decide +kernel
theorem dX5_copyFrom_0 : decode cX5_copyFrom 0 = .ok (.aload_n 1, 1) := by decide +kernel
theorem dX5_copyFrom_1 : decode cX5_copyFrom 1 = .ok (.getfield 9, 3) := by decide +kernel
theorem dX5_copyFrom_4 : decode cX5_copyFrom 4 = .ok (.iconst 0, 1) := by decide +kernel
theorem dX5_copyFrom_5 : decode cX5_copyFrom 5 = .ok (.aload_n 0, 1) := by decide +kernel
theorem dX5_copyFrom_6 : decode cX5_copyFrom 6 = .ok (.getfield 9, 3) := by decide +kernel
theorem dX5_copyFrom_9 : decode cX5_copyFrom 9 = .ok (.iconst 0, 1) := by decide +kernel
theorem dX5_copyFrom_10 : decode cX5_copyFrom 10 = .ok (.aload_n 0, 1) := by decide +kernel
theorem dX5_copyFrom_11 : decode cX5_copyFrom 11 = .ok (.getfield 9, 3) := by decide +kernel
theorem dX5_copyFrom_14 : decode cX5_copyFrom 14 = .ok (.arraylength, 1) := by decide +kernel
theorem dX5_copyFrom_15 : decode cX5_copyFrom 15 = .ok (.invokestatic 51, 3) := by decide +kernel
theorem dX5_copyFrom_18 : decode cX5_copyFrom 18 = .ok (.iconst 0, 1) := by decide +kernel
theorem dX5_copyFrom_19 : decode cX5_copyFrom 19 = .ok (.istore_n 2, 1) := by decide +kernel
theorem dX5_copyFrom_20 : decode cX5_copyFrom 20 = .ok (.iload_n 2, 1) := by decide +kernel
theorem dX5_copyFrom_21 : decode cX5_copyFrom 21 = .ok (.bipush 16, 2) := by decide +kernel
theorem dX5_copyFrom_23 : decode cX5_copyFrom 23 = .ok (.if_icmp .ge 45, 3) := by decide +kernel
theorem dX5_copyFrom_26 : decode cX5_copyFrom 26 = .ok (.aload_n 0, 1) := by decide +kernel
theorem dX5_copyFrom_27 : decode cX5_copyFrom 27 = .ok (.getfield 15, 3) := by decide +kernel
theorem dX5_copyFrom_30 : decode cX5_copyFrom 30 = .ok (.iload_n 2, 1) := by decide +kernel
theorem dX5_copyFrom_31 : decode cX5_copyFrom 31 = .ok (.aload_n 1, 1) := by decide +kernel
theorem dX5_copyFrom_32 : decode cX5_copyFrom 32 = .ok (.getfield 15, 3) := by decide +kernel
theorem dX5_copyFrom_35 : decode cX5_copyFrom 35 = .ok (.iload_n 2, 1) := by decide +kernel
theorem dX5_copyFrom_36 : decode cX5_copyFrom 36 = .ok (.baload, 1) := by decide +kernel
theorem dX5_copyFrom_37 : decode cX5_copyFrom 37 = .ok (.bastore, 1) := by decide +kernel
theorem dX5_copyFrom_38 : decode cX5_copyFrom 38 = .ok (.aload_n 0, 1) := by decide +kernel
theorem dX5_copyFrom_39 : decode cX5_copyFrom 39 = .ok (.getfield 19, 3) := by decide +kernel
theorem dX5_copyFrom_42 : decode cX5_copyFrom 42 = .ok (.iload_n 2, 1) := by decide +kernel
theorem dX5_copyFrom_43 : decode cX5_copyFrom 43 = .ok (.aload_n 1, 1) := by decide +kernel
theorem dX5_copyFrom_44 : decode cX5_copyFrom 44 = .ok (.getfield 19, 3) := by decide +kernel
theorem dX5_copyFrom_47 : decode cX5_copyFrom 47 = .ok (.iload_n 2, 1) := by decide +kernel
theorem dX5_copyFrom_48 : decode cX5_copyFrom 48 = .ok (.iaload, 1) := by decide +kernel
theorem dX5_copyFrom_49 : decode cX5_copyFrom 49 = .ok (.iastore, 1) := by decide +kernel
theorem dX5_copyFrom_50 : decode cX5_copyFrom 50 = .ok (.aload_n 0, 1) := by decide +kernel
theorem dX5_copyFrom_51 : decode cX5_copyFrom 51 = .ok (.getfield 22, 3) := by decide +kernel
theorem dX5_copyFrom_54 : decode cX5_copyFrom 54 = .ok (.iload_n 2, 1) := by decide +kernel
theorem dX5_copyFrom_55 : decode cX5_copyFrom 55 = .ok (.aload_n 1, 1) := by decide +kernel
theorem dX5_copyFrom_56 : decode cX5_copyFrom 56 = .ok (.getfield 22, 3) := by decide +kernel
theorem dX5_copyFrom_59 : decode cX5_copyFrom 59 = .ok (.iload_n 2, 1) := by decide +kernel
theorem dX5_copyFrom_60 : decode cX5_copyFrom 60 = .ok (.iaload, 1) := by decide +kernel
theorem dX5_copyFrom_61 : decode cX5_copyFrom 61 = .ok (.iastore, 1) := by decide +kernel
theorem dX5_copyFrom_62 : decode cX5_copyFrom 62 = .ok (.iinc 2 1, 3) := by decide +kernel
theorem dX5_copyFrom_65 : decode cX5_copyFrom 65 = .ok (.goto (-45), 3) := by decide +kernel
theorem dX5_copyFrom_68 : decode cX5_copyFrom 68 = .ok (.aload_n 0, 1) := by decide +kernel
theorem dX5_copyFrom_69 : decode cX5_copyFrom 69 = .ok (.aload_n 1, 1) := by decide +kernel
theorem dX5_copyFrom_70 : decode cX5_copyFrom 70 = .ok (.getfield 35, 3) := by decide +kernel
theorem dX5_copyFrom_73 : decode cX5_copyFrom 73 = .ok (.putfield 35, 3) := by decide +kernel
theorem dX5_copyFrom_76 : decode cX5_copyFrom 76 = .ok (.aload_n 0, 1) := by decide +kernel
theorem dX5_copyFrom_77 : decode cX5_copyFrom 77 = .ok (.aload_n 1, 1) := by decide +kernel
theorem dX5_copyFrom_78 : decode cX5_copyFrom 78 = .ok (.getfield 39, 3) := by decide +kernel
theorem dX5_copyFrom_81 : decode cX5_copyFrom 81 = .ok (.putfield 39, 3) := by decide +kernel
theorem dX5_copyFrom_84 : decode cX5_copyFrom 84 = .ok (.aload_n 0, 1) := by decide +kernel
theorem dX5_copyFrom_85 : decode cX5_copyFrom 85 = .ok (.aload_n 1, 1) := by decide +kernel
theorem dX5_copyFrom_86 : decode cX5_copyFrom 86 = .ok (.getfield 42, 3) := by decide +kernel
theorem dX5_copyFrom_89 : decode cX5_copyFrom 89 = .ok (.putfield 42, 3) := by decide +kernel
theorem dX5_copyFrom_92 : decode cX5_copyFrom 92 = .ok (.aload_n 0, 1) := by decide +kernel
theorem dX5_copyFrom_93 : decode cX5_copyFrom 93 = .ok (.aload_n 1, 1) := by decide +kernel
theorem dX5_copyFrom_94 : decode cX5_copyFrom 94 = .ok (.getfield 45, 3) := by decide +kernel
theorem dX5_copyFrom_97 : decode cX5_copyFrom 97 = .ok (.putfield 45, 3) := by decide +kernel
theorem dX5_copyFrom_100 : decode cX5_copyFrom 100 = .ok (.aload_n 0, 1) := by decide +kernel
theorem dX5_copyFrom_101 : decode cX5_copyFrom 101 = .ok (.aload_n 1, 1) := by decide +kernel
theorem dX5_copyFrom_102 : decode cX5_copyFrom 102 = .ok (.getfield 48, 3) := by decide +kernel
theorem dX5_copyFrom_105 : decode cX5_copyFrom 105 = .ok (.putfield 48, 3) := by decide +kernel
theorem dX5_copyFrom_108 : decode cX5_copyFrom 108 = .ok (.return_, 1) := by decide +kernel
theorem dX5_places_0 : decode cX5_places 0 = .ok (.aload_n 0, 1) := by decide +kernel
theorem dX5_places_1 : decode cX5_places 1 = .ok (.getfield 35, 3) := by decide +kernel
theorem dX5_places_4 : decode cX5_places 4 = .ok (.ireturn, 1) := by decide +kernel
theorem dX5_links_0 : decode cX5_links 0 = .ok (.aload_n 0, 1) := by decide +kernel
theorem dX5_links_1 : decode cX5_links 1 = .ok (.getfield 39, 3) := by decide +kernel
theorem dX5_links_4 : decode cX5_links 4 = .ok (.ireturn, 1) := by decide +kernel
theorem dX5_mostDrawn_0 : decode cX5_mostDrawn 0 = .ok (.aload_n 0, 1) := by decide +kernel
theorem dX5_mostDrawn_1 : decode cX5_mostDrawn 1 = .ok (.getfield 42, 3) := by decide +kernel
theorem dX5_mostDrawn_4 : decode cX5_mostDrawn 4 = .ok (.ireturn, 1) := by decide +kernel
theorem dX5_ofTen_0 : decode cX5_ofTen 0 = .ok (.aload_n 0, 1) := by decide +kernel
theorem dX5_ofTen_1 : decode cX5_ofTen 1 = .ok (.getfield 45, 3) := by decide +kernel
theorem dX5_ofTen_4 : decode cX5_ofTen 4 = .ok (.ireturn, 1) := by decide +kernel
theorem dX5_z_0 : decode cX5_z 0 = .ok (.aload_n 0, 1) := by decide +kernel
theorem dX5_z_1 : decode cX5_z 1 = .ok (.getfield 48, 3) := by decide +kernel
theorem dX5_z_4 : decode cX5_z 4 = .ok (.ireturn, 1) := by decide +kernel
theorem dX5_setPlaces_0 : decode cX5_setPlaces 0 = .ok (.aload_n 0, 1) := by decide +kernel
theorem dX5_setPlaces_1 : decode cX5_setPlaces 1 = .ok (.iload_n 1, 1) := by decide +kernel
theorem dX5_setPlaces_2 : decode cX5_setPlaces 2 = .ok (.putfield 35, 3) := by decide +kernel
theorem dX5_setPlaces_5 : decode cX5_setPlaces 5 = .ok (.return_, 1) := by decide +kernel
theorem dX5_setDrawing_0 : decode cX5_setDrawing 0 = .ok (.aload_n 0, 1) := by decide +kernel
theorem dX5_setDrawing_1 : decode cX5_setDrawing 1 = .ok (.iload_n 1, 1) := by decide +kernel
theorem dX5_setDrawing_2 : decode cX5_setDrawing 2 = .ok (.putfield 42, 3) := by decide +kernel
theorem dX5_setDrawing_5 : decode cX5_setDrawing 5 = .ok (.aload_n 0, 1) := by decide +kernel
theorem dX5_setDrawing_6 : decode cX5_setDrawing 6 = .ok (.iload_n 2, 1) := by decide +kernel
theorem dX5_setDrawing_7 : decode cX5_setDrawing 7 = .ok (.putfield 45, 3) := by decide +kernel
theorem dX5_setDrawing_10 : decode cX5_setDrawing 10 = .ok (.return_, 1) := by decide +kernel
theorem dX5_setZ_0 : decode cX5_setZ 0 = .ok (.aload_n 0, 1) := by decide +kernel
theorem dX5_setZ_1 : decode cX5_setZ 1 = .ok (.iload_n 1, 1) := by decide +kernel
theorem dX5_setZ_2 : decode cX5_setZ 2 = .ok (.putfield 48, 3) := by decide +kernel
theorem dX5_setZ_5 : decode cX5_setZ 5 = .ok (.return_, 1) := by decide +kernel
theorem dX5_isPlace_0 : decode cX5_isPlace 0 = .ok (.iconst 0, 1) := by decide +kernel
theorem dX5_isPlace_1 : decode cX5_isPlace 1 = .ok (.iload_n 1, 1) := by decide +kernel
theorem dX5_isPlace_2 : decode cX5_isPlace 2 = .ok (.if_icmp .gt 15, 3) := by decide +kernel
theorem dX5_isPlace_5 : decode cX5_isPlace 5 = .ok (.iload_n 1, 1) := by decide +kernel
theorem dX5_isPlace_6 : decode cX5_isPlace 6 = .ok (.aload_n 0, 1) := by decide +kernel
theorem dX5_isPlace_7 : decode cX5_isPlace 7 = .ok (.getfield 35, 3) := by decide +kernel
theorem dX5_isPlace_10 : decode cX5_isPlace 10 = .ok (.if_icmp .ge 7, 3) := by decide +kernel
theorem dX5_isPlace_13 : decode cX5_isPlace 13 = .ok (.iconst 1, 1) := by decide +kernel
theorem dX5_isPlace_14 : decode cX5_isPlace 14 = .ok (.goto 4, 3) := by decide +kernel
theorem dX5_isPlace_17 : decode cX5_isPlace 17 = .ok (.iconst 0, 1) := by decide +kernel
theorem dX5_isPlace_18 : decode cX5_isPlace 18 = .ok (.ireturn, 1) := by decide +kernel
set_option maxRecDepth 20000 in
theorem ggX5_isPair_X5_isPlace : GoodIn wsX5_isPair wsX5_isPlace := goodIn_r _ [5, 6, 7, 8, 9, 10, 11, 12, 13, 14, 15] (by decide +kernel) (by decide +kernel)
set_option maxRecDepth 20000 in
theorem gX5_isPair_X5_isPlace : GoodIn wsX5_isPair (wsV RX5 57 RX5 yX5_isPlace wsX5_isPlace) := goodIn_app (goodIn_of _ (by decide +kernel)) ggX5_isPair_X5_isPlace
theorem dX5_isPair_0 : decode cX5_isPair 0 = .ok (.aload_n 0, 1) := by decide +kernel
theorem dX5_isPair_1 : decode cX5_isPair 1 = .ok (.iload_n 1, 1) := by decide +kernel
theorem dX5_isPair_2 : decode cX5_isPair 2 = .ok (.invokevirtual 57, 3) := by decide +kernel
theorem dX5_isPair_5 : decode cX5_isPair 5 = .ok (.ifCond .eq 20, 3) := by decide +kernel
theorem dX5_isPair_8 : decode cX5_isPair 8 = .ok (.aload_n 0, 1) := by decide +kernel
theorem dX5_isPair_9 : decode cX5_isPair 9 = .ok (.iload_n 2, 1) := by decide +kernel
theorem dX5_isPair_10 : decode cX5_isPair 10 = .ok (.invokevirtual 57, 3) := by decide +kernel
theorem dX5_isPair_13 : decode cX5_isPair 13 = .ok (.ifCond .eq 12, 3) := by decide +kernel
theorem dX5_isPair_16 : decode cX5_isPair 16 = .ok (.iload_n 1, 1) := by decide +kernel
theorem dX5_isPair_17 : decode cX5_isPair 17 = .ok (.iload_n 2, 1) := by decide +kernel
theorem dX5_isPair_18 : decode cX5_isPair 18 = .ok (.if_icmp .eq 7, 3) := by decide +kernel
theorem dX5_isPair_21 : decode cX5_isPair 21 = .ok (.iconst 1, 1) := by decide +kernel
theorem dX5_isPair_22 : decode cX5_isPair 22 = .ok (.goto 4, 3) := by decide +kernel
theorem dX5_isPair_25 : decode cX5_isPair 25 = .ok (.iconst 0, 1) := by decide +kernel
theorem dX5_isPair_26 : decode cX5_isPair 26 = .ok (.ireturn, 1) := by decide +kernel
theorem dX5_lengthOf_0 : decode cX5_lengthOf 0 = .ok (.aload_n 0, 1) := by decide +kernel
theorem dX5_lengthOf_1 : decode cX5_lengthOf 1 = .ok (.getfield 9, 3) := by decide +kernel
theorem dX5_lengthOf_4 : decode cX5_lengthOf 4 = .ok (.iload_n 1, 1) := by decide +kernel
theorem dX5_lengthOf_5 : decode cX5_lengthOf 5 = .ok (.bipush 16, 2) := by decide +kernel
theorem dX5_lengthOf_7 : decode cX5_lengthOf 7 = .ok (.imul, 1) := by decide +kernel
theorem dX5_lengthOf_8 : decode cX5_lengthOf 8 = .ok (.iload_n 2, 1) := by decide +kernel
theorem dX5_lengthOf_9 : decode cX5_lengthOf 9 = .ok (.iadd, 1) := by decide +kernel
theorem dX5_lengthOf_10 : decode cX5_lengthOf 10 = .ok (.iaload, 1) := by decide +kernel
theorem dX5_lengthOf_11 : decode cX5_lengthOf 11 = .ok (.ireturn, 1) := by decide +kernel
set_option maxRecDepth 20000 in
theorem ggX5_setLength_X5_lengthOf : GoodIn wsX5_setLength wsX5_lengthOf := goodIn_r _ [7, 2, 8, 9, 10, 11, 12, 13, 14, 15, 16] (by decide +kernel) (by decide +kernel)
set_option maxRecDepth 20000 in
theorem gX5_setLength_X5_lengthOf : GoodIn wsX5_setLength (wsV RX5 61 RX5 yX5_lengthOf wsX5_lengthOf) := goodIn_app (goodIn_of _ (by decide +kernel)) ggX5_setLength_X5_lengthOf
theorem dX5_setLength_0 : decode cX5_setLength 0 = .ok (.aload_n 0, 1) := by decide +kernel
theorem dX5_setLength_1 : decode cX5_setLength 1 = .ok (.iload_n 1, 1) := by decide +kernel
theorem dX5_setLength_2 : decode cX5_setLength 2 = .ok (.iload_n 2, 1) := by decide +kernel
theorem dX5_setLength_3 : decode cX5_setLength 3 = .ok (.invokevirtual 61, 3) := by decide +kernel
theorem dX5_setLength_6 : decode cX5_setLength 6 = .ok (.ifCond .eq 13, 3) := by decide +kernel
theorem dX5_setLength_9 : decode cX5_setLength 9 = .ok (.aload_n 0, 1) := by decide +kernel
theorem dX5_setLength_10 : decode cX5_setLength 10 = .ok (.dup, 1) := by decide +kernel
theorem dX5_setLength_11 : decode cX5_setLength 11 = .ok (.getfield 39, 3) := by decide +kernel
theorem dX5_setLength_14 : decode cX5_setLength 14 = .ok (.iconst 1, 1) := by decide +kernel
theorem dX5_setLength_15 : decode cX5_setLength 15 = .ok (.isub, 1) := by decide +kernel
theorem dX5_setLength_16 : decode cX5_setLength 16 = .ok (.putfield 39, 3) := by decide +kernel
theorem dX5_setLength_19 : decode cX5_setLength 19 = .ok (.iload_n 3, 1) := by decide +kernel
theorem dX5_setLength_20 : decode cX5_setLength 20 = .ok (.ifCond .eq 13, 3) := by decide +kernel
theorem dX5_setLength_23 : decode cX5_setLength 23 = .ok (.aload_n 0, 1) := by decide +kernel
theorem dX5_setLength_24 : decode cX5_setLength 24 = .ok (.dup, 1) := by decide +kernel
theorem dX5_setLength_25 : decode cX5_setLength 25 = .ok (.getfield 39, 3) := by decide +kernel
theorem dX5_setLength_28 : decode cX5_setLength 28 = .ok (.iconst 1, 1) := by decide +kernel
theorem dX5_setLength_29 : decode cX5_setLength 29 = .ok (.iadd, 1) := by decide +kernel
theorem dX5_setLength_30 : decode cX5_setLength 30 = .ok (.putfield 39, 3) := by decide +kernel
theorem dX5_setLength_33 : decode cX5_setLength 33 = .ok (.aload_n 0, 1) := by decide +kernel
theorem dX5_setLength_34 : decode cX5_setLength 34 = .ok (.getfield 9, 3) := by decide +kernel
theorem dX5_setLength_37 : decode cX5_setLength 37 = .ok (.iload_n 1, 1) := by decide +kernel
theorem dX5_setLength_38 : decode cX5_setLength 38 = .ok (.bipush 16, 2) := by decide +kernel
theorem dX5_setLength_40 : decode cX5_setLength 40 = .ok (.imul, 1) := by decide +kernel
theorem dX5_setLength_41 : decode cX5_setLength 41 = .ok (.iload_n 2, 1) := by decide +kernel
theorem dX5_setLength_42 : decode cX5_setLength 42 = .ok (.iadd, 1) := by decide +kernel
theorem dX5_setLength_43 : decode cX5_setLength 43 = .ok (.iload_n 3, 1) := by decide +kernel
theorem dX5_setLength_44 : decode cX5_setLength 44 = .ok (.iastore, 1) := by decide +kernel
theorem dX5_setLength_45 : decode cX5_setLength 45 = .ok (.aload_n 0, 1) := by decide +kernel
theorem dX5_setLength_46 : decode cX5_setLength 46 = .ok (.getfield 9, 3) := by decide +kernel
theorem dX5_setLength_49 : decode cX5_setLength 49 = .ok (.iload_n 2, 1) := by decide +kernel
theorem dX5_setLength_50 : decode cX5_setLength 50 = .ok (.bipush 16, 2) := by decide +kernel
theorem dX5_setLength_52 : decode cX5_setLength 52 = .ok (.imul, 1) := by decide +kernel
theorem dX5_setLength_53 : decode cX5_setLength 53 = .ok (.iload_n 1, 1) := by decide +kernel
theorem dX5_setLength_54 : decode cX5_setLength 54 = .ok (.iadd, 1) := by decide +kernel
theorem dX5_setLength_55 : decode cX5_setLength 55 = .ok (.iload_n 3, 1) := by decide +kernel
theorem dX5_setLength_56 : decode cX5_setLength 56 = .ok (.iastore, 1) := by decide +kernel
theorem dX5_setLength_57 : decode cX5_setLength 57 = .ok (.return_, 1) := by decide +kernel
set_option maxRecDepth 20000 in
theorem ggX5_linksAt_X5_lengthOf : GoodIn wsX5_linksAt wsX5_lengthOf := goodIn_r _ [6, 7, 8, 9, 10, 11, 12, 13, 14, 15, 16] (by decide +kernel) (by decide +kernel)
set_option maxRecDepth 20000 in
theorem gX5_linksAt_X5_lengthOf : GoodIn wsX5_linksAt (wsV RX5 61 RX5 yX5_lengthOf wsX5_lengthOf) := goodIn_app (goodIn_of _ (by decide +kernel)) ggX5_linksAt_X5_lengthOf
theorem dX5_linksAt_0 : decode cX5_linksAt 0 = .ok (.iconst 0, 1) := by decide +kernel
theorem dX5_linksAt_1 : decode cX5_linksAt 1 = .ok (.istore_n 2, 1) := by decide +kernel
theorem dX5_linksAt_2 : decode cX5_linksAt 2 = .ok (.iconst 0, 1) := by decide +kernel
theorem dX5_linksAt_3 : decode cX5_linksAt 3 = .ok (.istore_n 3, 1) := by decide +kernel
theorem dX5_linksAt_4 : decode cX5_linksAt 4 = .ok (.iload_n 3, 1) := by decide +kernel
theorem dX5_linksAt_5 : decode cX5_linksAt 5 = .ok (.aload_n 0, 1) := by decide +kernel
theorem dX5_linksAt_6 : decode cX5_linksAt 6 = .ok (.getfield 35, 3) := by decide +kernel
theorem dX5_linksAt_9 : decode cX5_linksAt 9 = .ok (.if_icmp .ge 21, 3) := by decide +kernel
theorem dX5_linksAt_12 : decode cX5_linksAt 12 = .ok (.aload_n 0, 1) := by decide +kernel
theorem dX5_linksAt_13 : decode cX5_linksAt 13 = .ok (.iload_n 1, 1) := by decide +kernel
theorem dX5_linksAt_14 : decode cX5_linksAt 14 = .ok (.iload_n 3, 1) := by decide +kernel
theorem dX5_linksAt_15 : decode cX5_linksAt 15 = .ok (.invokevirtual 61, 3) := by decide +kernel
theorem dX5_linksAt_18 : decode cX5_linksAt 18 = .ok (.ifCond .eq 6, 3) := by decide +kernel
theorem dX5_linksAt_21 : decode cX5_linksAt 21 = .ok (.iinc 2 1, 3) := by decide +kernel
theorem dX5_linksAt_24 : decode cX5_linksAt 24 = .ok (.iinc 3 1, 3) := by decide +kernel
theorem dX5_linksAt_27 : decode cX5_linksAt 27 = .ok (.goto (-23), 3) := by decide +kernel
theorem dX5_linksAt_30 : decode cX5_linksAt 30 = .ok (.iload_n 2, 1) := by decide +kernel
theorem dX5_linksAt_31 : decode cX5_linksAt 31 = .ok (.ireturn, 1) := by decide +kernel
theorem dX5_isTold_0 : decode cX5_isTold 0 = .ok (.aload_n 0, 1) := by decide +kernel
theorem dX5_isTold_1 : decode cX5_isTold 1 = .ok (.getfield 15, 3) := by decide +kernel
theorem dX5_isTold_4 : decode cX5_isTold 4 = .ok (.iload_n 1, 1) := by decide +kernel
theorem dX5_isTold_5 : decode cX5_isTold 5 = .ok (.baload, 1) := by decide +kernel
theorem dX5_isTold_6 : decode cX5_isTold 6 = .ok (.ireturn, 1) := by decide +kernel
theorem dX5_tell_0 : decode cX5_tell 0 = .ok (.aload_n 0, 1) := by decide +kernel
theorem dX5_tell_1 : decode cX5_tell 1 = .ok (.getfield 15, 3) := by decide +kernel
theorem dX5_tell_4 : decode cX5_tell 4 = .ok (.iload_n 1, 1) := by decide +kernel
theorem dX5_tell_5 : decode cX5_tell 5 = .ok (.iconst 1, 1) := by decide +kernel
theorem dX5_tell_6 : decode cX5_tell 6 = .ok (.bastore, 1) := by decide +kernel
theorem dX5_tell_7 : decode cX5_tell 7 = .ok (.aload_n 0, 1) := by decide +kernel
theorem dX5_tell_8 : decode cX5_tell 8 = .ok (.getfield 19, 3) := by decide +kernel
theorem dX5_tell_11 : decode cX5_tell 11 = .ok (.iload_n 1, 1) := by decide +kernel
theorem dX5_tell_12 : decode cX5_tell 12 = .ok (.iload_n 2, 1) := by decide +kernel
theorem dX5_tell_13 : decode cX5_tell 13 = .ok (.iastore, 1) := by decide +kernel
theorem dX5_tell_14 : decode cX5_tell 14 = .ok (.aload_n 0, 1) := by decide +kernel
theorem dX5_tell_15 : decode cX5_tell 15 = .ok (.getfield 22, 3) := by decide +kernel
theorem dX5_tell_18 : decode cX5_tell 18 = .ok (.iload_n 1, 1) := by decide +kernel
theorem dX5_tell_19 : decode cX5_tell 19 = .ok (.iload_n 3, 1) := by decide +kernel
theorem dX5_tell_20 : decode cX5_tell 20 = .ok (.iastore, 1) := by decide +kernel
theorem dX5_tell_21 : decode cX5_tell 21 = .ok (.return_, 1) := by decide +kernel
theorem dX5_untell_0 : decode cX5_untell 0 = .ok (.aload_n 0, 1) := by decide +kernel
theorem dX5_untell_1 : decode cX5_untell 1 = .ok (.getfield 15, 3) := by decide +kernel
theorem dX5_untell_4 : decode cX5_untell 4 = .ok (.iload_n 1, 1) := by decide +kernel
theorem dX5_untell_5 : decode cX5_untell 5 = .ok (.iconst 0, 1) := by decide +kernel
theorem dX5_untell_6 : decode cX5_untell 6 = .ok (.bastore, 1) := by decide +kernel
theorem dX5_untell_7 : decode cX5_untell 7 = .ok (.aload_n 0, 1) := by decide +kernel
theorem dX5_untell_8 : decode cX5_untell 8 = .ok (.getfield 19, 3) := by decide +kernel
theorem dX5_untell_11 : decode cX5_untell 11 = .ok (.iload_n 1, 1) := by decide +kernel
theorem dX5_untell_12 : decode cX5_untell 12 = .ok (.iconst 0, 1) := by decide +kernel
theorem dX5_untell_13 : decode cX5_untell 13 = .ok (.iastore, 1) := by decide +kernel
theorem dX5_untell_14 : decode cX5_untell 14 = .ok (.aload_n 0, 1) := by decide +kernel
theorem dX5_untell_15 : decode cX5_untell 15 = .ok (.getfield 22, 3) := by decide +kernel
theorem dX5_untell_18 : decode cX5_untell 18 = .ok (.iload_n 1, 1) := by decide +kernel
theorem dX5_untell_19 : decode cX5_untell 19 = .ok (.iconst 0, 1) := by decide +kernel
theorem dX5_untell_20 : decode cX5_untell 20 = .ok (.iastore, 1) := by decide +kernel
theorem dX5_untell_21 : decode cX5_untell 21 = .ok (.return_, 1) := by decide +kernel
theorem dX5_toldDelays_0 : decode cX5_toldDelays 0 = .ok (.iconst 0, 1) := by decide +kernel
theorem dX5_toldDelays_1 : decode cX5_toldDelays 1 = .ok (.istore_n 1, 1) := by decide +kernel
theorem dX5_toldDelays_2 : decode cX5_toldDelays 2 = .ok (.iconst 0, 1) := by decide +kernel
theorem dX5_toldDelays_3 : decode cX5_toldDelays 3 = .ok (.istore_n 2, 1) := by decide +kernel
theorem dX5_toldDelays_4 : decode cX5_toldDelays 4 = .ok (.iload_n 2, 1) := by decide +kernel
theorem dX5_toldDelays_5 : decode cX5_toldDelays 5 = .ok (.aload_n 0, 1) := by decide +kernel
theorem dX5_toldDelays_6 : decode cX5_toldDelays 6 = .ok (.getfield 35, 3) := by decide +kernel
theorem dX5_toldDelays_9 : decode cX5_toldDelays 9 = .ok (.if_icmp .ge 21, 3) := by decide +kernel
theorem dX5_toldDelays_12 : decode cX5_toldDelays 12 = .ok (.aload_n 0, 1) := by decide +kernel
theorem dX5_toldDelays_13 : decode cX5_toldDelays 13 = .ok (.getfield 15, 3) := by decide +kernel
theorem dX5_toldDelays_16 : decode cX5_toldDelays 16 = .ok (.iload_n 2, 1) := by decide +kernel
theorem dX5_toldDelays_17 : decode cX5_toldDelays 17 = .ok (.baload, 1) := by decide +kernel
theorem dX5_toldDelays_18 : decode cX5_toldDelays 18 = .ok (.ifCond .eq 6, 3) := by decide +kernel
theorem dX5_toldDelays_21 : decode cX5_toldDelays 21 = .ok (.iinc 1 1, 3) := by decide +kernel
theorem dX5_toldDelays_24 : decode cX5_toldDelays 24 = .ok (.iinc 2 1, 3) := by decide +kernel
theorem dX5_toldDelays_27 : decode cX5_toldDelays 27 = .ok (.goto (-23), 3) := by decide +kernel
theorem dX5_toldDelays_30 : decode cX5_toldDelays 30 = .ok (.iload_n 1, 1) := by decide +kernel
theorem dX5_toldDelays_31 : decode cX5_toldDelays 31 = .ok (.ireturn, 1) := by decide +kernel
set_option maxRecDepth 20000 in
theorem ggX5_delayBy_X5_drawnDelay : GoodIn wsX5_delayBy wsX5_drawnDelay := goodIn_r _ [7, 8, 9, 10, 11, 6, 12, 13, 14, 15, 16, 17, 18, 19, 20, 21, 22, 23, 24, 25] (by decide +kernel) (by decide +kernel)
set_option maxRecDepth 20000 in
theorem gX5_delayBy_X5_drawnDelay : GoodIn wsX5_delayBy (wsV RX5 65 RX5 yX5_drawnDelay wsX5_drawnDelay) := goodIn_app (goodIn_of _ (by decide +kernel)) ggX5_delayBy_X5_drawnDelay
theorem dX5_delayBy_0 : decode cX5_delayBy 0 = .ok (.aload_n 0, 1) := by decide +kernel
theorem dX5_delayBy_1 : decode cX5_delayBy 1 = .ok (.getfield 15, 3) := by decide +kernel
theorem dX5_delayBy_4 : decode cX5_delayBy 4 = .ok (.iload_n 2, 1) := by decide +kernel
theorem dX5_delayBy_5 : decode cX5_delayBy 5 = .ok (.baload, 1) := by decide +kernel
theorem dX5_delayBy_6 : decode cX5_delayBy 6 = .ok (.ifCond .eq 12, 3) := by decide +kernel
theorem dX5_delayBy_9 : decode cX5_delayBy 9 = .ok (.aload_n 0, 1) := by decide +kernel
theorem dX5_delayBy_10 : decode cX5_delayBy 10 = .ok (.getfield 19, 3) := by decide +kernel
theorem dX5_delayBy_13 : decode cX5_delayBy 13 = .ok (.iload_n 2, 1) := by decide +kernel
theorem dX5_delayBy_14 : decode cX5_delayBy 14 = .ok (.iaload, 1) := by decide +kernel
theorem dX5_delayBy_15 : decode cX5_delayBy 15 = .ok (.goto 9, 3) := by decide +kernel
theorem dX5_delayBy_18 : decode cX5_delayBy 18 = .ok (.aload_n 0, 1) := by decide +kernel
theorem dX5_delayBy_19 : decode cX5_delayBy 19 = .ok (.iload_n 1, 1) := by decide +kernel
theorem dX5_delayBy_20 : decode cX5_delayBy 20 = .ok (.iload_n 2, 1) := by decide +kernel
theorem dX5_delayBy_21 : decode cX5_delayBy 21 = .ok (.invokevirtual 65, 3) := by decide +kernel
theorem dX5_delayBy_24 : decode cX5_delayBy 24 = .ok (.ireturn, 1) := by decide +kernel
set_option maxRecDepth 20000 in
theorem ggX5_fractionBy_X5_drawnNumber : GoodIn wsX5_fractionBy wsX5_drawnNumber := goodIn_r _ [6, 7, 8, 9, 10] (by decide +kernel) (by decide +kernel)
set_option maxRecDepth 20000 in
theorem gX5_fractionBy_X5_drawnNumber : GoodIn wsX5_fractionBy (va_wsS RX5 68 yX5_drawnNumber wsX5_drawnNumber) := goodIn_app (goodIn_of _ (by decide +kernel)) ggX5_fractionBy_X5_drawnNumber
theorem dX5_fractionBy_0 : decode cX5_fractionBy 0 = .ok (.aload_n 0, 1) := by decide +kernel
theorem dX5_fractionBy_1 : decode cX5_fractionBy 1 = .ok (.getfield 15, 3) := by decide +kernel
theorem dX5_fractionBy_4 : decode cX5_fractionBy 4 = .ok (.iload_n 2, 1) := by decide +kernel
theorem dX5_fractionBy_5 : decode cX5_fractionBy 5 = .ok (.baload, 1) := by decide +kernel
theorem dX5_fractionBy_6 : decode cX5_fractionBy 6 = .ok (.ifCond .eq 12, 3) := by decide +kernel
theorem dX5_fractionBy_9 : decode cX5_fractionBy 9 = .ok (.aload_n 0, 1) := by decide +kernel
theorem dX5_fractionBy_10 : decode cX5_fractionBy 10 = .ok (.getfield 22, 3) := by decide +kernel
theorem dX5_fractionBy_13 : decode cX5_fractionBy 13 = .ok (.iload_n 2, 1) := by decide +kernel
theorem dX5_fractionBy_14 : decode cX5_fractionBy 14 = .ok (.iaload, 1) := by decide +kernel
theorem dX5_fractionBy_15 : decode cX5_fractionBy 15 = .ok (.goto 14, 3) := by decide +kernel
theorem dX5_fractionBy_18 : decode cX5_fractionBy 18 = .ok (.iload_n 1, 1) := by decide +kernel
theorem dX5_fractionBy_19 : decode cX5_fractionBy 19 = .ok (.iload_n 2, 1) := by decide +kernel
theorem dX5_fractionBy_20 : decode cX5_fractionBy 20 = .ok (.bipush 99, 2) := by decide +kernel
theorem dX5_fractionBy_22 : decode cX5_fractionBy 22 = .ok (.invokestatic 68, 3) := by decide +kernel
theorem dX5_fractionBy_25 : decode cX5_fractionBy 25 = .ok (.sipush 1000, 3) := by decide +kernel
theorem dX5_fractionBy_28 : decode cX5_fractionBy 28 = .ok (.irem, 1) := by decide +kernel
theorem dX5_fractionBy_29 : decode cX5_fractionBy 29 = .ok (.ireturn, 1) := by decide +kernel
set_option maxRecDepth 20000 in
theorem ggX5_drawnDelay_X5_drawnNumber : GoodIn wsX5_drawnDelay wsX5_drawnNumber := goodIn_r _ [6, 7, 8, 9, 10] (by decide +kernel) (by decide +kernel)
set_option maxRecDepth 20000 in
theorem gX5_drawnDelay_X5_drawnNumber : GoodIn wsX5_drawnDelay (va_wsS RX5 68 yX5_drawnNumber wsX5_drawnNumber) := goodIn_app (goodIn_of _ (by decide +kernel)) ggX5_drawnDelay_X5_drawnNumber
theorem dX5_drawnDelay_0 : decode cX5_drawnDelay 0 = .ok (.iconst 0, 1) := by decide +kernel
theorem dX5_drawnDelay_1 : decode cX5_drawnDelay 1 = .ok (.istore_n 3, 1) := by decide +kernel
theorem dX5_drawnDelay_2 : decode cX5_drawnDelay 2 = .ok (.iload_n 3, 1) := by decide +kernel
theorem dX5_drawnDelay_3 : decode cX5_drawnDelay 3 = .ok (.aload_n 0, 1) := by decide +kernel
theorem dX5_drawnDelay_4 : decode cX5_drawnDelay 4 = .ok (.getfield 42, 3) := by decide +kernel
theorem dX5_drawnDelay_7 : decode cX5_drawnDelay 7 = .ok (.if_icmp .ge 27, 3) := by decide +kernel
theorem dX5_drawnDelay_10 : decode cX5_drawnDelay 10 = .ok (.iload_n 1, 1) := by decide +kernel
theorem dX5_drawnDelay_11 : decode cX5_drawnDelay 11 = .ok (.iload_n 2, 1) := by decide +kernel
theorem dX5_drawnDelay_12 : decode cX5_drawnDelay 12 = .ok (.iload_n 3, 1) := by decide +kernel
theorem dX5_drawnDelay_13 : decode cX5_drawnDelay 13 = .ok (.invokestatic 68, 3) := by decide +kernel
theorem dX5_drawnDelay_16 : decode cX5_drawnDelay 16 = .ok (.bipush 10, 2) := by decide +kernel
theorem dX5_drawnDelay_18 : decode cX5_drawnDelay 18 = .ok (.irem, 1) := by decide +kernel
theorem dX5_drawnDelay_19 : decode cX5_drawnDelay 19 = .ok (.aload_n 0, 1) := by decide +kernel
theorem dX5_drawnDelay_20 : decode cX5_drawnDelay 20 = .ok (.getfield 45, 3) := by decide +kernel
theorem dX5_drawnDelay_23 : decode cX5_drawnDelay 23 = .ok (.if_icmp .lt 5, 3) := by decide +kernel
theorem dX5_drawnDelay_26 : decode cX5_drawnDelay 26 = .ok (.iload_n 3, 1) := by decide +kernel
theorem dX5_drawnDelay_27 : decode cX5_drawnDelay 27 = .ok (.ireturn, 1) := by decide +kernel
theorem dX5_drawnDelay_28 : decode cX5_drawnDelay 28 = .ok (.iinc 3 1, 3) := by decide +kernel
theorem dX5_drawnDelay_31 : decode cX5_drawnDelay 31 = .ok (.goto (-29), 3) := by decide +kernel
theorem dX5_drawnDelay_34 : decode cX5_drawnDelay 34 = .ok (.aload_n 0, 1) := by decide +kernel
theorem dX5_drawnDelay_35 : decode cX5_drawnDelay 35 = .ok (.getfield 42, 3) := by decide +kernel
theorem dX5_drawnDelay_38 : decode cX5_drawnDelay 38 = .ok (.ireturn, 1) := by decide +kernel
theorem dX5_drawnNumber_0 : decode cX5_drawnNumber 0 = .ok (.ldc2_w 72, 3) := by decide +kernel
theorem dX5_drawnNumber_3 : decode cX5_drawnNumber 3 = .ok (.iload_n 0, 1) := by decide +kernel
theorem dX5_drawnNumber_4 : decode cX5_drawnNumber 4 = .ok (.i2l, 1) := by decide +kernel
theorem dX5_drawnNumber_5 : decode cX5_drawnNumber 5 = .ok (.lmul, 1) := by decide +kernel
theorem dX5_drawnNumber_6 : decode cX5_drawnNumber 6 = .ok (.ldc2_w 74, 3) := by decide +kernel
theorem dX5_drawnNumber_9 : decode cX5_drawnNumber 9 = .ok (.iload_n 1, 1) := by decide +kernel
theorem dX5_drawnNumber_10 : decode cX5_drawnNumber 10 = .ok (.i2l, 1) := by decide +kernel
theorem dX5_drawnNumber_11 : decode cX5_drawnNumber 11 = .ok (.lmul, 1) := by decide +kernel
theorem dX5_drawnNumber_12 : decode cX5_drawnNumber 12 = .ok (.ladd, 1) := by decide +kernel
theorem dX5_drawnNumber_13 : decode cX5_drawnNumber 13 = .ok (.ldc2_w 76, 3) := by decide +kernel
theorem dX5_drawnNumber_16 : decode cX5_drawnNumber 16 = .ok (.iload_n 2, 1) := by decide +kernel
theorem dX5_drawnNumber_17 : decode cX5_drawnNumber 17 = .ok (.i2l, 1) := by decide +kernel
theorem dX5_drawnNumber_18 : decode cX5_drawnNumber 18 = .ok (.lmul, 1) := by decide +kernel
theorem dX5_drawnNumber_19 : decode cX5_drawnNumber 19 = .ok (.ladd, 1) := by decide +kernel
theorem dX5_drawnNumber_20 : decode cX5_drawnNumber 20 = .ok (.lconst 1, 1) := by decide +kernel
theorem dX5_drawnNumber_21 : decode cX5_drawnNumber 21 = .ok (.ladd, 1) := by decide +kernel
theorem dX5_drawnNumber_22 : decode cX5_drawnNumber 22 = .ok (.lstore_n 3, 1) := by decide +kernel
theorem dX5_drawnNumber_23 : decode cX5_drawnNumber 23 = .ok (.lload_n 3, 1) := by decide +kernel
theorem dX5_drawnNumber_24 : decode cX5_drawnNumber 24 = .ok (.lload_n 3, 1) := by decide +kernel
theorem dX5_drawnNumber_25 : decode cX5_drawnNumber 25 = .ok (.lmul, 1) := by decide +kernel
theorem dX5_drawnNumber_26 : decode cX5_drawnNumber 26 = .ok (.ldc2_w 78, 3) := by decide +kernel
theorem dX5_drawnNumber_29 : decode cX5_drawnNumber 29 = .ok (.lrem, 1) := by decide +kernel
theorem dX5_drawnNumber_30 : decode cX5_drawnNumber 30 = .ok (.l2i, 1) := by decide +kernel
theorem dX5_drawnNumber_31 : decode cX5_drawnNumber 31 = .ok (.ireturn, 1) := by decide +kernel
set_option maxRecDepth 20000 in
theorem ggX6_init_X5_init : GoodIn wsX6_init wsX5_init := goodIn_r _ [11, 12, 2, 3, 8, 13, 14, 15, 16, 17, 18, 19, 20, 21, 22, 23, 24, 25, 26] (by decide +kernel) (by decide +kernel)
set_option maxRecDepth 20000 in
theorem gX6_init_X5_init_n11 : GoodIn wsX6_init (wsX5_init) := ggX6_init_X5_init
theorem dX6_init_0 : decode cX6_init 0 = .ok (.aload_n 0, 1) := by decide +kernel
theorem dX6_init_1 : decode cX6_init 1 = .ok (.invokespecial 3, 3) := by decide +kernel
theorem dX6_init_4 : decode cX6_init 4 = .ok (.aload_n 0, 1) := by decide +kernel
theorem dX6_init_5 : decode cX6_init 5 = .ok (.new 9, 3) := by decide +kernel
theorem dX6_init_8 : decode cX6_init 8 = .ok (.dup, 1) := by decide +kernel
theorem dX6_init_9 : decode cX6_init 9 = .ok (.invokespecial 11, 3) := by decide +kernel
theorem dX6_init_12 : decode cX6_init 12 = .ok (.putfield 12, 3) := by decide +kernel
theorem dX6_init_15 : decode cX6_init 15 = .ok (.aload_n 0, 1) := by decide +kernel
theorem dX6_init_16 : decode cX6_init 16 = .ok (.iconst 3, 1) := by decide +kernel
theorem dX6_init_17 : decode cX6_init 17 = .ok (.newarray .int, 2) := by decide +kernel
theorem dX6_init_19 : decode cX6_init 19 = .ok (.putfield 18, 3) := by decide +kernel
theorem dX6_init_22 : decode cX6_init 22 = .ok (.return_, 1) := by decide +kernel
theorem dX6_draft_0 : decode cX6_draft 0 = .ok (.aload_n 0, 1) := by decide +kernel
theorem dX6_draft_1 : decode cX6_draft 1 = .ok (.getfield 12, 3) := by decide +kernel
theorem dX6_draft_4 : decode cX6_draft 4 = .ok (.areturn, 1) := by decide +kernel
set_option maxRecDepth 20000 in
theorem ggX6_firstFault_X5_clear : GoodIn wsX6_firstFault wsX5_clear := goodIn_r _ [6, 7, 8, 9, 10, 11, 12, 13, 14, 15, 16, 17, 18, 19, 5, 20, 21, 22, 23, 119, 120, 121, 122, 123, 124, 125, 126, 127] (by decide +kernel) (by decide +kernel)
set_option maxRecDepth 20000 in
theorem gX6_firstFault_X5_clear : GoodIn wsX6_firstFault (wsV RX6 22 RX5 yX5_clear wsX5_clear) := goodIn_app (goodIn_of _ (by decide +kernel)) ggX6_firstFault_X5_clear
set_option maxRecDepth 20000 in
theorem ggX6_firstFault_X2_size : GoodIn wsX6_firstFault wsX2_size := goodIn_r _ [28, 29, 128, 129] (by decide +kernel) (by decide +kernel)
set_option maxRecDepth 20000 in
theorem gX6_firstFault_X2_size : GoodIn wsX6_firstFault (wsV RX6 25 RX2 yX2_size wsX2_size) := goodIn_app (goodIn_of _ (by decide +kernel)) ggX6_firstFault_X2_size
set_option maxRecDepth 20000 in
theorem ggX6_firstFault_X6_behindItem : GoodIn wsX6_firstFault wsX6_behindItem := goodIn_r _ [34, 35, 36, 37, 27, 38, 29, 39, 40, 41, 42, 43, 44, 33, 45, 46, 47, 48, 49, 50, 128, 129, 117, 118] (by decide +kernel) (by decide +kernel)
set_option maxRecDepth 20000 in
theorem gX6_firstFault_X6_behindItem : GoodIn wsX6_firstFault (wsV RX6 31 RX6 yX6_behindItem wsX6_behindItem) := goodIn_app (goodIn_of _ (by decide +kernel)) ggX6_firstFault_X6_behindItem
set_option maxRecDepth 20000 in
theorem ggX6_firstFault_X2_at : GoodIn wsX6_firstFault wsX2_at := goodIn_r _ [38, 29, 39, 40, 41, 42, 128, 129] (by decide +kernel) (by decide +kernel)
set_option maxRecDepth 20000 in
theorem gX6_firstFault_X2_at : GoodIn wsX6_firstFault (wsV RX6 35 RX2 yX2_at wsX2_at) := goodIn_app (goodIn_of _ (by decide +kernel)) ggX6_firstFault_X2_at
set_option maxRecDepth 20000 in
theorem ggX6_firstFault_X6_takesItem : GoodIn wsX6_firstFault wsX6_takesItem := goodIn_r _ [54, 1, 50, 55, 56, 57, 5, 58, 8, 59, 60, 61, 33, 62, 40, 41, 42, 63, 64, 65, 66, 67, 68, 69, 70, 71, 72, 73, 74, 75, 76, 77, 78, 79, 80, 81, 82, 7, 83, 84, 85, 86, 9, 87, 88, 89, 90, 91, 92, 93, 94, 95, 96, 97, 98, 99, 100, 21, 22, 23, 101, 102, 103, 104, 105, 106, 107, 108, 10, 11, 109, 110, 111, 112, 113, 114, 115, 116, 12, 117, 118, 119, 120, 121, 122, 123, 124, 125, 126, 127] (by decide +kernel) (by decide +kernel)
set_option maxRecDepth 20000 in
theorem gX6_firstFault_X6_takesItem : GoodIn wsX6_firstFault (wsV RX6 39 RX6 yX6_takesItem wsX6_takesItem) := goodIn_app (goodIn_of _ (by decide +kernel)) ggX6_firstFault_X6_takesItem
theorem dX6_firstFault_0 : decode cX6_firstFault 0 = .ok (.aload_n 0, 1) := by decide +kernel
theorem dX6_firstFault_1 : decode cX6_firstFault 1 = .ok (.getfield 12, 3) := by decide +kernel
theorem dX6_firstFault_4 : decode cX6_firstFault 4 = .ok (.invokevirtual 22, 3) := by decide +kernel
theorem dX6_firstFault_7 : decode cX6_firstFault 7 = .ok (.iconst 0, 1) := by decide +kernel
theorem dX6_firstFault_8 : decode cX6_firstFault 8 = .ok (.istore_n 2, 1) := by decide +kernel
theorem dX6_firstFault_9 : decode cX6_firstFault 9 = .ok (.iconst 0, 1) := by decide +kernel
theorem dX6_firstFault_10 : decode cX6_firstFault 10 = .ok (.istore_n 3, 1) := by decide +kernel
theorem dX6_firstFault_11 : decode cX6_firstFault 11 = .ok (.iload_n 3, 1) := by decide +kernel
theorem dX6_firstFault_12 : decode cX6_firstFault 12 = .ok (.sipush 200, 3) := by decide +kernel
theorem dX6_firstFault_15 : decode cX6_firstFault 15 = .ok (.if_icmp .ge 49, 3) := by decide +kernel
theorem dX6_firstFault_18 : decode cX6_firstFault 18 = .ok (.iload_n 2, 1) := by decide +kernel
theorem dX6_firstFault_19 : decode cX6_firstFault 19 = .ok (.aload_n 1, 1) := by decide +kernel
theorem dX6_firstFault_20 : decode cX6_firstFault 20 = .ok (.invokevirtual 25, 3) := by decide +kernel
theorem dX6_firstFault_23 : decode cX6_firstFault 23 = .ok (.if_icmp .ge 41, 3) := by decide +kernel
theorem dX6_firstFault_26 : decode cX6_firstFault 26 = .ok (.aload_n 0, 1) := by decide +kernel
theorem dX6_firstFault_27 : decode cX6_firstFault 27 = .ok (.aload_n 1, 1) := by decide +kernel
theorem dX6_firstFault_28 : decode cX6_firstFault 28 = .ok (.iload_n 2, 1) := by decide +kernel
theorem dX6_firstFault_29 : decode cX6_firstFault 29 = .ok (.invokevirtual 31, 3) := by decide +kernel
theorem dX6_firstFault_32 : decode cX6_firstFault 32 = .ok (.istore 4, 2) := by decide +kernel
theorem dX6_firstFault_34 : decode cX6_firstFault 34 = .ok (.iload 4, 2) := by decide +kernel
theorem dX6_firstFault_36 : decode cX6_firstFault 36 = .ok (.bipush (-4), 2) := by decide +kernel
theorem dX6_firstFault_38 : decode cX6_firstFault 38 = .ok (.if_icmp .eq 15, 3) := by decide +kernel
theorem dX6_firstFault_41 : decode cX6_firstFault 41 = .ok (.aload_n 0, 1) := by decide +kernel
theorem dX6_firstFault_42 : decode cX6_firstFault 42 = .ok (.aload_n 1, 1) := by decide +kernel
theorem dX6_firstFault_43 : decode cX6_firstFault 43 = .ok (.iload_n 2, 1) := by decide +kernel
theorem dX6_firstFault_44 : decode cX6_firstFault 44 = .ok (.invokevirtual 35, 3) := by decide +kernel
theorem dX6_firstFault_47 : decode cX6_firstFault 47 = .ok (.invokevirtual 39, 3) := by decide +kernel
theorem dX6_firstFault_50 : decode cX6_firstFault 50 = .ok (.ifCond .ne 5, 3) := by decide +kernel
theorem dX6_firstFault_53 : decode cX6_firstFault 53 = .ok (.iload_n 2, 1) := by decide +kernel
theorem dX6_firstFault_54 : decode cX6_firstFault 54 = .ok (.ireturn, 1) := by decide +kernel
theorem dX6_firstFault_55 : decode cX6_firstFault 55 = .ok (.iload 4, 2) := by decide +kernel
theorem dX6_firstFault_57 : decode cX6_firstFault 57 = .ok (.istore_n 2, 1) := by decide +kernel
theorem dX6_firstFault_58 : decode cX6_firstFault 58 = .ok (.iinc 3 1, 3) := by decide +kernel
theorem dX6_firstFault_61 : decode cX6_firstFault 61 = .ok (.goto (-50), 3) := by decide +kernel
theorem dX6_firstFault_64 : decode cX6_firstFault 64 = .ok (.bipush (-4), 2) := by decide +kernel
theorem dX6_firstFault_66 : decode cX6_firstFault 66 = .ok (.ireturn, 1) := by decide +kernel
set_option maxRecDepth 20000 in
theorem ggX6_behindItem_X2_at : GoodIn wsX6_behindItem wsX2_at := goodIn_r _ [5, 6, 7, 8, 9, 10, 20, 21] (by decide +kernel) (by decide +kernel)
set_option maxRecDepth 20000 in
theorem gX6_behindItem_X2_at : GoodIn wsX6_behindItem (wsV RX6 35 RX2 yX2_at wsX2_at) := goodIn_app (goodIn_of _ (by decide +kernel)) ggX6_behindItem_X2_at
set_option maxRecDepth 20000 in
theorem ggX6_behindItem_X6_numbersNeeded : GoodIn wsX6_behindItem wsX6_numbersNeeded := goodIn_r _ [14] (by decide +kernel) (by decide +kernel)
set_option maxRecDepth 20000 in
theorem gX6_behindItem_X6_numbersNeeded : GoodIn wsX6_behindItem (va_wsS RX6 43 yX6_numbersNeeded wsX6_numbersNeeded) := goodIn_app (goodIn_of _ (by decide +kernel)) ggX6_behindItem_X6_numbersNeeded
set_option maxRecDepth 20000 in
theorem ggX6_behindItem_X6_behindNumber : GoodIn wsX6_behindItem wsX6_behindNumber := goodIn_r _ [18, 19, 1, 2, 3, 4, 5, 6, 7, 8, 9, 10, 22, 23, 20, 21] (by decide +kernel) (by decide +kernel)
set_option maxRecDepth 20000 in
theorem gX6_behindItem_X6_behindNumber : GoodIn wsX6_behindItem (wsV RX6 46 RX6 yX6_behindNumber wsX6_behindNumber) := goodIn_app (goodIn_of _ (by decide +kernel)) ggX6_behindItem_X6_behindNumber
theorem dX6_behindItem_0 : decode cX6_behindItem 0 = .ok (.aload_n 1, 1) := by decide +kernel
theorem dX6_behindItem_1 : decode cX6_behindItem 1 = .ok (.iload_n 2, 1) := by decide +kernel
theorem dX6_behindItem_2 : decode cX6_behindItem 2 = .ok (.invokevirtual 35, 3) := by decide +kernel
theorem dX6_behindItem_5 : decode cX6_behindItem 5 = .ok (.invokestatic 43, 3) := by decide +kernel
theorem dX6_behindItem_8 : decode cX6_behindItem 8 = .ok (.istore_n 3, 1) := by decide +kernel
theorem dX6_behindItem_9 : decode cX6_behindItem 9 = .ok (.iload_n 2, 1) := by decide +kernel
theorem dX6_behindItem_10 : decode cX6_behindItem 10 = .ok (.iconst 1, 1) := by decide +kernel
theorem dX6_behindItem_11 : decode cX6_behindItem 11 = .ok (.iadd, 1) := by decide +kernel
theorem dX6_behindItem_12 : decode cX6_behindItem 12 = .ok (.istore 4, 2) := by decide +kernel
theorem dX6_behindItem_14 : decode cX6_behindItem 14 = .ok (.iconst 0, 1) := by decide +kernel
theorem dX6_behindItem_15 : decode cX6_behindItem 15 = .ok (.istore 5, 2) := by decide +kernel
theorem dX6_behindItem_17 : decode cX6_behindItem 17 = .ok (.iload 5, 2) := by decide +kernel
theorem dX6_behindItem_19 : decode cX6_behindItem 19 = .ok (.iload_n 3, 1) := by decide +kernel
theorem dX6_behindItem_20 : decode cX6_behindItem 20 = .ok (.if_icmp .ge 57, 3) := by decide +kernel
theorem dX6_behindItem_23 : decode cX6_behindItem 23 = .ok (.aload_n 0, 1) := by decide +kernel
theorem dX6_behindItem_24 : decode cX6_behindItem 24 = .ok (.aload_n 1, 1) := by decide +kernel
theorem dX6_behindItem_25 : decode cX6_behindItem 25 = .ok (.iload 4, 2) := by decide +kernel
theorem dX6_behindItem_27 : decode cX6_behindItem 27 = .ok (.iload 5, 2) := by decide +kernel
theorem dX6_behindItem_29 : decode cX6_behindItem 29 = .ok (.invokevirtual 46, 3) := by decide +kernel
theorem dX6_behindItem_32 : decode cX6_behindItem 32 = .ok (.istore 4, 2) := by decide +kernel
theorem dX6_behindItem_34 : decode cX6_behindItem 34 = .ok (.iload 4, 2) := by decide +kernel
theorem dX6_behindItem_36 : decode cX6_behindItem 36 = .ok (.bipush (-4), 2) := by decide +kernel
theorem dX6_behindItem_38 : decode cX6_behindItem 38 = .ok (.if_icmp .eq 27, 3) := by decide +kernel
theorem dX6_behindItem_41 : decode cX6_behindItem 41 = .ok (.aload_n 1, 1) := by decide +kernel
theorem dX6_behindItem_42 : decode cX6_behindItem 42 = .ok (.iload 4, 2) := by decide +kernel
theorem dX6_behindItem_44 : decode cX6_behindItem 44 = .ok (.invokevirtual 35, 3) := by decide +kernel
theorem dX6_behindItem_47 : decode cX6_behindItem 47 = .ok (.iload 5, 2) := by decide +kernel
theorem dX6_behindItem_49 : decode cX6_behindItem 49 = .ok (.iload_n 3, 1) := by decide +kernel
theorem dX6_behindItem_50 : decode cX6_behindItem 50 = .ok (.iconst 1, 1) := by decide +kernel
theorem dX6_behindItem_51 : decode cX6_behindItem 51 = .ok (.isub, 1) := by decide +kernel
theorem dX6_behindItem_52 : decode cX6_behindItem 52 = .ok (.if_icmp .ne 8, 3) := by decide +kernel
theorem dX6_behindItem_55 : decode cX6_behindItem 55 = .ok (.bipush 59, 2) := by decide +kernel
theorem dX6_behindItem_57 : decode cX6_behindItem 57 = .ok (.goto 5, 3) := by decide +kernel
theorem dX6_behindItem_60 : decode cX6_behindItem 60 = .ok (.bipush 44, 2) := by decide +kernel
theorem dX6_behindItem_62 : decode cX6_behindItem 62 = .ok (.if_icmp .eq 6, 3) := by decide +kernel
theorem dX6_behindItem_65 : decode cX6_behindItem 65 = .ok (.bipush (-4), 2) := by decide +kernel
theorem dX6_behindItem_67 : decode cX6_behindItem 67 = .ok (.ireturn, 1) := by decide +kernel
theorem dX6_behindItem_68 : decode cX6_behindItem 68 = .ok (.iinc 4 1, 3) := by decide +kernel
theorem dX6_behindItem_71 : decode cX6_behindItem 71 = .ok (.iinc 5 1, 3) := by decide +kernel
theorem dX6_behindItem_74 : decode cX6_behindItem 74 = .ok (.goto (-57), 3) := by decide +kernel
theorem dX6_behindItem_77 : decode cX6_behindItem 77 = .ok (.iload_n 3, 1) := by decide +kernel
theorem dX6_behindItem_78 : decode cX6_behindItem 78 = .ok (.ifCond .ne 8, 3) := by decide +kernel
theorem dX6_behindItem_81 : decode cX6_behindItem 81 = .ok (.bipush (-4), 2) := by decide +kernel
theorem dX6_behindItem_83 : decode cX6_behindItem 83 = .ok (.goto 5, 3) := by decide +kernel
theorem dX6_behindItem_86 : decode cX6_behindItem 86 = .ok (.iload 4, 2) := by decide +kernel
theorem dX6_behindItem_88 : decode cX6_behindItem 88 = .ok (.ireturn, 1) := by decide +kernel
theorem dX6_numbersNeeded_0 : decode cX6_numbersNeeded 0 = .ok (.iload_n 0, 1) := by decide +kernel
theorem dX6_numbersNeeded_1 : decode cX6_numbersNeeded 1 = .ok (.lookupswitch 63 #[(100, 59), (108, 59), (109, 55), (110, 51), (122, 51)], 51) := by decide +kernel
theorem dX6_numbersNeeded_52 : decode cX6_numbersNeeded 52 = .ok (.iconst 1, 1) := by decide +kernel
theorem dX6_numbersNeeded_53 : decode cX6_numbersNeeded 53 = .ok (.goto 12, 3) := by decide +kernel
theorem dX6_numbersNeeded_56 : decode cX6_numbersNeeded 56 = .ok (.iconst 2, 1) := by decide +kernel
theorem dX6_numbersNeeded_57 : decode cX6_numbersNeeded 57 = .ok (.goto 8, 3) := by decide +kernel
theorem dX6_numbersNeeded_60 : decode cX6_numbersNeeded 60 = .ok (.iconst 3, 1) := by decide +kernel
theorem dX6_numbersNeeded_61 : decode cX6_numbersNeeded 61 = .ok (.goto 4, 3) := by decide +kernel
theorem dX6_numbersNeeded_64 : decode cX6_numbersNeeded 64 = .ok (.iconst 0, 1) := by decide +kernel
theorem dX6_numbersNeeded_65 : decode cX6_numbersNeeded 65 = .ok (.ireturn, 1) := by decide +kernel
set_option maxRecDepth 20000 in
theorem ggX6_behindNumber_X2_at : GoodIn wsX6_behindNumber wsX2_at := goodIn_r _ [6, 7, 8, 9, 10, 11, 14, 15] (by decide +kernel) (by decide +kernel)
set_option maxRecDepth 20000 in
theorem gX6_behindNumber_X2_at : GoodIn wsX6_behindNumber (wsV RX6 35 RX2 yX2_at wsX2_at) := goodIn_app (goodIn_of _ (by decide +kernel)) ggX6_behindNumber_X2_at
set_option maxRecDepth 20000 in
theorem ggX6_behindNumber_X7_isWithin : GoodIn wsX6_behindNumber wsX7_isWithin := goodIn_r _ [11] (by decide +kernel) (by decide +kernel)
set_option maxRecDepth 20000 in
theorem gX6_behindNumber_X7_isWithin_n50 : GoodIn wsX6_behindNumber (wsX7_isWithin) := ggX6_behindNumber_X7_isWithin
theorem dX6_behindNumber_0 : decode cX6_behindNumber 0 = .ok (.iconst 0, 1) := by decide +kernel
theorem dX6_behindNumber_1 : decode cX6_behindNumber 1 = .ok (.istore 4, 2) := by decide +kernel
theorem dX6_behindNumber_3 : decode cX6_behindNumber 3 = .ok (.iconst 0, 1) := by decide +kernel
theorem dX6_behindNumber_4 : decode cX6_behindNumber 4 = .ok (.istore 5, 2) := by decide +kernel
theorem dX6_behindNumber_6 : decode cX6_behindNumber 6 = .ok (.iload 5, 2) := by decide +kernel
theorem dX6_behindNumber_8 : decode cX6_behindNumber 8 = .ok (.iconst 4, 1) := by decide +kernel
theorem dX6_behindNumber_9 : decode cX6_behindNumber 9 = .ok (.if_icmp .ge 46, 3) := by decide +kernel
theorem dX6_behindNumber_12 : decode cX6_behindNumber 12 = .ok (.aload_n 1, 1) := by decide +kernel
theorem dX6_behindNumber_13 : decode cX6_behindNumber 13 = .ok (.iload_n 2, 1) := by decide +kernel
theorem dX6_behindNumber_14 : decode cX6_behindNumber 14 = .ok (.iload 5, 2) := by decide +kernel
theorem dX6_behindNumber_16 : decode cX6_behindNumber 16 = .ok (.iadd, 1) := by decide +kernel
theorem dX6_behindNumber_17 : decode cX6_behindNumber 17 = .ok (.invokevirtual 35, 3) := by decide +kernel
theorem dX6_behindNumber_20 : decode cX6_behindNumber 20 = .ok (.bipush 48, 2) := by decide +kernel
theorem dX6_behindNumber_22 : decode cX6_behindNumber 22 = .ok (.bipush 57, 2) := by decide +kernel
theorem dX6_behindNumber_24 : decode cX6_behindNumber 24 = .ok (.invokestatic 50, 3) := by decide +kernel
theorem dX6_behindNumber_27 : decode cX6_behindNumber 27 = .ok (.ifCond .eq 28, 3) := by decide +kernel
theorem dX6_behindNumber_30 : decode cX6_behindNumber 30 = .ok (.iload 4, 2) := by decide +kernel
theorem dX6_behindNumber_32 : decode cX6_behindNumber 32 = .ok (.bipush 10, 2) := by decide +kernel
theorem dX6_behindNumber_34 : decode cX6_behindNumber 34 = .ok (.imul, 1) := by decide +kernel
theorem dX6_behindNumber_35 : decode cX6_behindNumber 35 = .ok (.aload_n 1, 1) := by decide +kernel
theorem dX6_behindNumber_36 : decode cX6_behindNumber 36 = .ok (.iload_n 2, 1) := by decide +kernel
theorem dX6_behindNumber_37 : decode cX6_behindNumber 37 = .ok (.iload 5, 2) := by decide +kernel
theorem dX6_behindNumber_39 : decode cX6_behindNumber 39 = .ok (.iadd, 1) := by decide +kernel
theorem dX6_behindNumber_40 : decode cX6_behindNumber 40 = .ok (.invokevirtual 35, 3) := by decide +kernel
theorem dX6_behindNumber_43 : decode cX6_behindNumber 43 = .ok (.iadd, 1) := by decide +kernel
theorem dX6_behindNumber_44 : decode cX6_behindNumber 44 = .ok (.bipush 48, 2) := by decide +kernel
theorem dX6_behindNumber_46 : decode cX6_behindNumber 46 = .ok (.isub, 1) := by decide +kernel
theorem dX6_behindNumber_47 : decode cX6_behindNumber 47 = .ok (.istore 4, 2) := by decide +kernel
theorem dX6_behindNumber_49 : decode cX6_behindNumber 49 = .ok (.iinc 5 1, 3) := by decide +kernel
theorem dX6_behindNumber_52 : decode cX6_behindNumber 52 = .ok (.goto (-46), 3) := by decide +kernel
theorem dX6_behindNumber_55 : decode cX6_behindNumber 55 = .ok (.aload_n 0, 1) := by decide +kernel
theorem dX6_behindNumber_56 : decode cX6_behindNumber 56 = .ok (.getfield 18, 3) := by decide +kernel
theorem dX6_behindNumber_59 : decode cX6_behindNumber 59 = .ok (.iload_n 3, 1) := by decide +kernel
theorem dX6_behindNumber_60 : decode cX6_behindNumber 60 = .ok (.iload 4, 2) := by decide +kernel
theorem dX6_behindNumber_62 : decode cX6_behindNumber 62 = .ok (.iastore, 1) := by decide +kernel
theorem dX6_behindNumber_63 : decode cX6_behindNumber 63 = .ok (.iload 5, 2) := by decide +kernel
theorem dX6_behindNumber_65 : decode cX6_behindNumber 65 = .ok (.ifCond .ne 8, 3) := by decide +kernel
theorem dX6_behindNumber_68 : decode cX6_behindNumber 68 = .ok (.bipush (-4), 2) := by decide +kernel
theorem dX6_behindNumber_70 : decode cX6_behindNumber 70 = .ok (.goto 7, 3) := by decide +kernel
theorem dX6_behindNumber_73 : decode cX6_behindNumber 73 = .ok (.iload_n 2, 1) := by decide +kernel
theorem dX6_behindNumber_74 : decode cX6_behindNumber 74 = .ok (.iload 5, 2) := by decide +kernel
theorem dX6_behindNumber_76 : decode cX6_behindNumber 76 = .ok (.iadd, 1) := by decide +kernel
theorem dX6_behindNumber_77 : decode cX6_behindNumber 77 = .ok (.ireturn, 1) := by decide +kernel
set_option maxRecDepth 20000 in
theorem ggX6_takesItem_X5_places : GoodIn wsX6_takesItem wsX5_places := goodIn_r _ [7, 8, 81, 82, 83, 84, 85, 86, 87, 88, 89] (by decide +kernel) (by decide +kernel)
set_option maxRecDepth 20000 in
theorem gX6_takesItem_X5_places : GoodIn wsX6_takesItem (wsV RX6 54 RX5 yX5_places wsX5_places) := goodIn_app (goodIn_of _ (by decide +kernel)) ggX6_takesItem_X5_places
set_option maxRecDepth 20000 in
theorem ggX6_takesItem_X6_takesPlaces : GoodIn wsX6_takesItem wsX6_takesPlaces := goodIn_r _ [13, 1, 14, 15, 16, 17, 18, 19, 6, 20, 8, 79, 80, 81, 82, 83, 84, 85, 86, 87, 88, 89] (by decide +kernel) (by decide +kernel)
set_option maxRecDepth 20000 in
theorem gX6_takesItem_X6_takesPlaces : GoodIn wsX6_takesItem (wsV RX6 57 RX6 yX6_takesPlaces wsX6_takesPlaces) := goodIn_app (goodIn_of _ (by decide +kernel)) ggX6_takesItem_X6_takesPlaces
set_option maxRecDepth 20000 in
theorem ggX6_takesItem_X6_takesLink : GoodIn wsX6_takesItem wsX6_takesLink := goodIn_r _ [24, 1, 25, 26, 27, 6, 28, 29, 30, 31, 32, 8, 14, 15, 16, 33, 34, 35, 36, 37, 38, 39, 40, 41, 42, 43, 44, 45, 46, 47, 79, 80, 81, 82, 83, 84, 85, 86, 87, 88, 89] (by decide +kernel) (by decide +kernel)
set_option maxRecDepth 20000 in
theorem gX6_takesItem_X6_takesLink : GoodIn wsX6_takesItem (wsV RX6 60 RX6 yX6_takesLink wsX6_takesLink) := goodIn_app (goodIn_of _ (by decide +kernel)) ggX6_takesItem_X6_takesLink
set_option maxRecDepth 20000 in
theorem ggX6_takesItem_X6_takesDelay : GoodIn wsX6_takesItem wsX6_takesDelay := goodIn_r _ [51, 1, 52, 30, 31, 6, 32, 8, 14, 15, 16, 53, 54, 55, 56, 57, 58, 59, 79, 80, 81, 82, 83, 84, 85, 86, 87, 88, 89] (by decide +kernel) (by decide +kernel)
set_option maxRecDepth 20000 in
theorem gX6_takesItem_X6_takesDelay : GoodIn wsX6_takesItem (wsV RX6 63 RX6 yX6_takesDelay wsX6_takesDelay) := goodIn_app (goodIn_of _ (by decide +kernel)) ggX6_takesItem_X6_takesDelay
set_option maxRecDepth 20000 in
theorem ggX6_takesItem_X6_takesDrawing : GoodIn wsX6_takesItem wsX6_takesDrawing := goodIn_r _ [63, 1, 14, 15, 16, 64, 65, 66, 6, 67, 68, 69, 79, 80, 81, 82, 83, 84, 85, 86, 87, 88, 89] (by decide +kernel) (by decide +kernel)
set_option maxRecDepth 20000 in
theorem gX6_takesItem_X6_takesDrawing : GoodIn wsX6_takesItem (wsV RX6 66 RX6 yX6_takesDrawing wsX6_takesDrawing) := goodIn_app (goodIn_of _ (by decide +kernel)) ggX6_takesItem_X6_takesDrawing
set_option maxRecDepth 20000 in
theorem ggX6_takesItem_X6_takesZ : GoodIn wsX6_takesItem wsX6_takesZ := goodIn_r _ [73, 1, 14, 15, 16, 74, 75, 76, 6, 77, 78, 79, 80, 81, 82, 83, 84, 85, 86, 87, 88, 89] (by decide +kernel) (by decide +kernel)
set_option maxRecDepth 20000 in
theorem gX6_takesItem_X6_takesZ : GoodIn wsX6_takesItem (wsV RX6 70 RX6 yX6_takesZ wsX6_takesZ) := goodIn_app (goodIn_of _ (by decide +kernel)) ggX6_takesItem_X6_takesZ
theorem dX6_takesItem_0 : decode cX6_takesItem 0 = .ok (.iload_n 1, 1) := by decide +kernel
theorem dX6_takesItem_1 : decode cX6_takesItem 1 = .ok (.bipush 110, 2) := by decide +kernel
theorem dX6_takesItem_3 : decode cX6_takesItem 3 = .ok (.if_icmp .ne 7, 3) := by decide +kernel
theorem dX6_takesItem_6 : decode cX6_takesItem 6 = .ok (.iconst 1, 1) := by decide +kernel
theorem dX6_takesItem_7 : decode cX6_takesItem 7 = .ok (.goto 4, 3) := by decide +kernel
theorem dX6_takesItem_10 : decode cX6_takesItem 10 = .ok (.iconst 0, 1) := by decide +kernel
theorem dX6_takesItem_11 : decode cX6_takesItem 11 = .ok (.aload_n 0, 1) := by decide +kernel
theorem dX6_takesItem_12 : decode cX6_takesItem 12 = .ok (.getfield 12, 3) := by decide +kernel
theorem dX6_takesItem_15 : decode cX6_takesItem 15 = .ok (.invokevirtual 54, 3) := by decide +kernel
theorem dX6_takesItem_18 : decode cX6_takesItem 18 = .ok (.ifCond .ne 7, 3) := by decide +kernel
theorem dX6_takesItem_21 : decode cX6_takesItem 21 = .ok (.iconst 1, 1) := by decide +kernel
theorem dX6_takesItem_22 : decode cX6_takesItem 22 = .ok (.goto 4, 3) := by decide +kernel
theorem dX6_takesItem_25 : decode cX6_takesItem 25 = .ok (.iconst 0, 1) := by decide +kernel
theorem dX6_takesItem_26 : decode cX6_takesItem 26 = .ok (.if_icmp .eq 5, 3) := by decide +kernel
theorem dX6_takesItem_29 : decode cX6_takesItem 29 = .ok (.iconst 0, 1) := by decide +kernel
theorem dX6_takesItem_30 : decode cX6_takesItem 30 = .ok (.ireturn, 1) := by decide +kernel
theorem dX6_takesItem_31 : decode cX6_takesItem 31 = .ok (.iload_n 1, 1) := by decide +kernel
theorem dX6_takesItem_32 : decode cX6_takesItem 32 = .ok (.lookupswitch 147 #[(100, 90), (108, 65), (109, 115), (110, 52), (122, 134)], 52) := by decide +kernel
theorem dX6_takesItem_84 : decode cX6_takesItem 84 = .ok (.aload_n 0, 1) := by decide +kernel
theorem dX6_takesItem_85 : decode cX6_takesItem 85 = .ok (.aload_n 0, 1) := by decide +kernel
theorem dX6_takesItem_86 : decode cX6_takesItem 86 = .ok (.getfield 18, 3) := by decide +kernel
theorem dX6_takesItem_89 : decode cX6_takesItem 89 = .ok (.iconst 0, 1) := by decide +kernel
theorem dX6_takesItem_90 : decode cX6_takesItem 90 = .ok (.iaload, 1) := by decide +kernel
theorem dX6_takesItem_91 : decode cX6_takesItem 91 = .ok (.invokevirtual 57, 3) := by decide +kernel
theorem dX6_takesItem_94 : decode cX6_takesItem 94 = .ok (.goto 86, 3) := by decide +kernel
theorem dX6_takesItem_97 : decode cX6_takesItem 97 = .ok (.aload_n 0, 1) := by decide +kernel
theorem dX6_takesItem_98 : decode cX6_takesItem 98 = .ok (.aload_n 0, 1) := by decide +kernel
theorem dX6_takesItem_99 : decode cX6_takesItem 99 = .ok (.getfield 18, 3) := by decide +kernel
theorem dX6_takesItem_102 : decode cX6_takesItem 102 = .ok (.iconst 0, 1) := by decide +kernel
theorem dX6_takesItem_103 : decode cX6_takesItem 103 = .ok (.iaload, 1) := by decide +kernel
theorem dX6_takesItem_104 : decode cX6_takesItem 104 = .ok (.aload_n 0, 1) := by decide +kernel
theorem dX6_takesItem_105 : decode cX6_takesItem 105 = .ok (.getfield 18, 3) := by decide +kernel
theorem dX6_takesItem_108 : decode cX6_takesItem 108 = .ok (.iconst 1, 1) := by decide +kernel
theorem dX6_takesItem_109 : decode cX6_takesItem 109 = .ok (.iaload, 1) := by decide +kernel
theorem dX6_takesItem_110 : decode cX6_takesItem 110 = .ok (.aload_n 0, 1) := by decide +kernel
theorem dX6_takesItem_111 : decode cX6_takesItem 111 = .ok (.getfield 18, 3) := by decide +kernel
theorem dX6_takesItem_114 : decode cX6_takesItem 114 = .ok (.iconst 2, 1) := by decide +kernel
theorem dX6_takesItem_115 : decode cX6_takesItem 115 = .ok (.iaload, 1) := by decide +kernel
theorem dX6_takesItem_116 : decode cX6_takesItem 116 = .ok (.invokevirtual 60, 3) := by decide +kernel
theorem dX6_takesItem_119 : decode cX6_takesItem 119 = .ok (.goto 61, 3) := by decide +kernel
theorem dX6_takesItem_122 : decode cX6_takesItem 122 = .ok (.aload_n 0, 1) := by decide +kernel
theorem dX6_takesItem_123 : decode cX6_takesItem 123 = .ok (.aload_n 0, 1) := by decide +kernel
theorem dX6_takesItem_124 : decode cX6_takesItem 124 = .ok (.getfield 18, 3) := by decide +kernel
theorem dX6_takesItem_127 : decode cX6_takesItem 127 = .ok (.iconst 0, 1) := by decide +kernel
theorem dX6_takesItem_128 : decode cX6_takesItem 128 = .ok (.iaload, 1) := by decide +kernel
theorem dX6_takesItem_129 : decode cX6_takesItem 129 = .ok (.aload_n 0, 1) := by decide +kernel
theorem dX6_takesItem_130 : decode cX6_takesItem 130 = .ok (.getfield 18, 3) := by decide +kernel
theorem dX6_takesItem_133 : decode cX6_takesItem 133 = .ok (.iconst 1, 1) := by decide +kernel
theorem dX6_takesItem_134 : decode cX6_takesItem 134 = .ok (.iaload, 1) := by decide +kernel
theorem dX6_takesItem_135 : decode cX6_takesItem 135 = .ok (.aload_n 0, 1) := by decide +kernel
theorem dX6_takesItem_136 : decode cX6_takesItem 136 = .ok (.getfield 18, 3) := by decide +kernel
theorem dX6_takesItem_139 : decode cX6_takesItem 139 = .ok (.iconst 2, 1) := by decide +kernel
theorem dX6_takesItem_140 : decode cX6_takesItem 140 = .ok (.iaload, 1) := by decide +kernel
theorem dX6_takesItem_141 : decode cX6_takesItem 141 = .ok (.invokevirtual 63, 3) := by decide +kernel
theorem dX6_takesItem_144 : decode cX6_takesItem 144 = .ok (.goto 36, 3) := by decide +kernel
theorem dX6_takesItem_147 : decode cX6_takesItem 147 = .ok (.aload_n 0, 1) := by decide +kernel
theorem dX6_takesItem_148 : decode cX6_takesItem 148 = .ok (.aload_n 0, 1) := by decide +kernel
theorem dX6_takesItem_149 : decode cX6_takesItem 149 = .ok (.getfield 18, 3) := by decide +kernel
theorem dX6_takesItem_152 : decode cX6_takesItem 152 = .ok (.iconst 0, 1) := by decide +kernel
theorem dX6_takesItem_153 : decode cX6_takesItem 153 = .ok (.iaload, 1) := by decide +kernel
theorem dX6_takesItem_154 : decode cX6_takesItem 154 = .ok (.aload_n 0, 1) := by decide +kernel
theorem dX6_takesItem_155 : decode cX6_takesItem 155 = .ok (.getfield 18, 3) := by decide +kernel
theorem dX6_takesItem_158 : decode cX6_takesItem 158 = .ok (.iconst 1, 1) := by decide +kernel
theorem dX6_takesItem_159 : decode cX6_takesItem 159 = .ok (.iaload, 1) := by decide +kernel
theorem dX6_takesItem_160 : decode cX6_takesItem 160 = .ok (.invokevirtual 66, 3) := by decide +kernel
theorem dX6_takesItem_163 : decode cX6_takesItem 163 = .ok (.goto 17, 3) := by decide +kernel
theorem dX6_takesItem_166 : decode cX6_takesItem 166 = .ok (.aload_n 0, 1) := by decide +kernel
theorem dX6_takesItem_167 : decode cX6_takesItem 167 = .ok (.aload_n 0, 1) := by decide +kernel
theorem dX6_takesItem_168 : decode cX6_takesItem 168 = .ok (.getfield 18, 3) := by decide +kernel
theorem dX6_takesItem_171 : decode cX6_takesItem 171 = .ok (.iconst 0, 1) := by decide +kernel
theorem dX6_takesItem_172 : decode cX6_takesItem 172 = .ok (.iaload, 1) := by decide +kernel
theorem dX6_takesItem_173 : decode cX6_takesItem 173 = .ok (.invokevirtual 70, 3) := by decide +kernel
theorem dX6_takesItem_176 : decode cX6_takesItem 176 = .ok (.goto 4, 3) := by decide +kernel
theorem dX6_takesItem_179 : decode cX6_takesItem 179 = .ok (.iconst 0, 1) := by decide +kernel
theorem dX6_takesItem_180 : decode cX6_takesItem 180 = .ok (.ireturn, 1) := by decide +kernel
set_option maxRecDepth 20000 in
theorem ggX6_takesPlaces_X7_isWithin : GoodIn wsX6_takesPlaces wsX7_isWithin := goodIn_r _ [4] (by decide +kernel) (by decide +kernel)
set_option maxRecDepth 20000 in
theorem gX6_takesPlaces_X7_isWithin_n50 : GoodIn wsX6_takesPlaces (wsX7_isWithin) := ggX6_takesPlaces_X7_isWithin
set_option maxRecDepth 20000 in
theorem ggX6_takesPlaces_X5_setPlaces : GoodIn wsX6_takesPlaces wsX5_setPlaces := goodIn_r _ [9, 10, 13, 14, 15, 16, 17, 18, 19, 20, 21] (by decide +kernel) (by decide +kernel)
set_option maxRecDepth 20000 in
theorem gX6_takesPlaces_X5_setPlaces : GoodIn wsX6_takesPlaces (wsV RX6 73 RX5 yX5_setPlaces wsX5_setPlaces) := goodIn_app (goodIn_of _ (by decide +kernel)) ggX6_takesPlaces_X5_setPlaces
theorem dX6_takesPlaces_0 : decode cX6_takesPlaces 0 = .ok (.iload_n 1, 1) := by decide +kernel
theorem dX6_takesPlaces_1 : decode cX6_takesPlaces 1 = .ok (.iconst 1, 1) := by decide +kernel
theorem dX6_takesPlaces_2 : decode cX6_takesPlaces 2 = .ok (.bipush 16, 2) := by decide +kernel
theorem dX6_takesPlaces_4 : decode cX6_takesPlaces 4 = .ok (.invokestatic 50, 3) := by decide +kernel
theorem dX6_takesPlaces_7 : decode cX6_takesPlaces 7 = .ok (.ifCond .ne 5, 3) := by decide +kernel
theorem dX6_takesPlaces_10 : decode cX6_takesPlaces 10 = .ok (.iconst 0, 1) := by decide +kernel
theorem dX6_takesPlaces_11 : decode cX6_takesPlaces 11 = .ok (.ireturn, 1) := by decide +kernel
