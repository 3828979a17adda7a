theorem dX8_readsItem_97 : decode cX8_readsItem 97 = .ok (.ireturn, 1) := by decide +kernel
theorem dX8_readsItem_98 : decode cX8_readsItem 98 = .ok (.aload_n 0, 1) := by decide +kernel
theorem dX8_readsItem_99 : decode cX8_readsItem 99 = .ok (.iload_n 2, 1) := by decide +kernel
theorem dX8_readsItem_100 : decode cX8_readsItem 100 = .ok (.invokevirtual 96, 3) := by decide +kernel
theorem dX8_readsItem_103 : decode cX8_readsItem 103 = .ok (.ireturn, 1) := by decide +kernel
theorem dX8_readsItem_104 : decode cX8_readsItem 104 = .ok (.aload_n 0, 1) := by decide +kernel
theorem dX8_readsItem_105 : decode cX8_readsItem 105 = .ok (.iload_n 2, 1) := by decide +kernel
theorem dX8_readsItem_106 : decode cX8_readsItem 106 = .ok (.invokevirtual 100, 3) := by decide +kernel
theorem dX8_readsItem_109 : decode cX8_readsItem 109 = .ok (.ireturn, 1) := by decide +kernel
theorem dX8_readsItem_110 : decode cX8_readsItem 110 = .ok (.aload_n 0, 1) := by decide +kernel
theorem dX8_readsItem_111 : decode cX8_readsItem 111 = .ok (.iload_n 2, 1) := by decide +kernel
theorem dX8_readsItem_112 : decode cX8_readsItem 112 = .ok (.invokevirtual 103, 3) := by decide +kernel
theorem dX8_readsItem_115 : decode cX8_readsItem 115 = .ok (.ireturn, 1) := by decide +kernel
theorem dX8_readsItem_116 : decode cX8_readsItem 116 = .ok (.aload_n 0, 1) := by decide +kernel
theorem dX8_readsItem_117 : decode cX8_readsItem 117 = .ok (.iload_n 2, 1) := by decide +kernel
theorem dX8_readsItem_118 : decode cX8_readsItem 118 = .ok (.iconst 0, 1) := by decide +kernel
theorem dX8_readsItem_119 : decode cX8_readsItem 119 = .ok (.sipush 9999, 3) := by decide +kernel
theorem dX8_readsItem_122 : decode cX8_readsItem 122 = .ok (.invokevirtual 86, 3) := by decide +kernel
theorem dX8_readsItem_125 : decode cX8_readsItem 125 = .ok (.istore 5, 2) := by decide +kernel
theorem dX8_readsItem_127 : decode cX8_readsItem 127 = .ok (.aload_n 0, 1) := by decide +kernel
theorem dX8_readsItem_128 : decode cX8_readsItem 128 = .ok (.getfield 16, 3) := by decide +kernel
theorem dX8_readsItem_131 : decode cX8_readsItem 131 = .ok (.sipush 288, 3) := by decide +kernel
theorem dX8_readsItem_134 : decode cX8_readsItem 134 = .ok (.aload_n 0, 1) := by decide +kernel
theorem dX8_readsItem_135 : decode cX8_readsItem 135 = .ok (.getfield 72, 3) := by decide +kernel
theorem dX8_readsItem_138 : decode cX8_readsItem 138 = .ok (.iastore, 1) := by decide +kernel
theorem dX8_readsItem_139 : decode cX8_readsItem 139 = .ok (.iload 5, 2) := by decide +kernel
theorem dX8_readsItem_141 : decode cX8_readsItem 141 = .ok (.ireturn, 1) := by decide +kernel
theorem dX8_readsItem_142 : decode cX8_readsItem 142 = .ok (.iconst 0, 1) := by decide +kernel
theorem dX8_readsItem_143 : decode cX8_readsItem 143 = .ok (.ireturn, 1) := by decide +kernel
set_option maxRecDepth 20000 in
theorem ggX8_reads_X8_clears : GoodIn wsX8_reads wsX8_clears := goodIn_r _ [8, 9, 10, 11, 51, 52, 53, 54, 55, 56, 57, 58, 59, 60, 61, 62, 63, 64, 65, 66, 67, 68, 69, 70] (by decide +kernel) (by decide +kernel)
set_option maxRecDepth 20000 in
theorem gX8_reads_X8_clears : GoodIn wsX8_reads (wsV RX8 43 RX8 yX8_clears wsX8_clears) := goodIn_app (goodIn_of _ (by decide +kernel)) ggX8_reads_X8_clears
set_option maxRecDepth 20000 in
theorem ggX8_reads_X8_readsItem : GoodIn wsX8_reads wsX8_readsItem := goodIn_r _ [15, 16, 9, 11, 17, 18, 19, 7, 20, 3, 2, 21, 22, 23, 24, 1, 25, 26, 27, 28, 29, 30, 31, 32, 33, 34, 35, 36, 37, 38, 39, 40, 41, 42, 43, 44, 45, 46, 47, 48, 49, 50, 10, 51, 52, 53, 54, 55, 56, 57, 58, 59, 60, 61, 62, 63, 64, 65, 66, 67, 68, 69, 70] (by decide +kernel) (by decide +kernel)
set_option maxRecDepth 20000 in
theorem gX8_reads_X8_readsItem : GoodIn wsX8_reads (wsV RX8 106 RX8 yX8_readsItem wsX8_readsItem) := goodIn_app (goodIn_of _ (by decide +kernel)) ggX8_reads_X8_readsItem
set_option maxRecDepth 20000 in
theorem ggX8_reads_X8_letterAt : GoodIn wsX8_reads wsX8_letterAt := goodIn_r _ [24, 1, 2, 51, 52, 53, 54, 55, 56, 57, 58, 59, 60, 61, 62, 63, 64, 65, 66, 67, 68, 69, 70] (by decide +kernel) (by decide +kernel)
set_option maxRecDepth 20000 in
theorem gX8_reads_X8_letterAt : GoodIn wsX8_reads (wsV RX8 78 RX8 yX8_letterAt wsX8_letterAt) := goodIn_app (goodIn_of _ (by decide +kernel)) ggX8_reads_X8_letterAt
theorem dX8_reads_0 : decode cX8_reads 0 = .ok (.aload_n 0, 1) := by decide +kernel
theorem dX8_reads_1 : decode cX8_reads 1 = .ok (.invokevirtual 43, 3) := by decide +kernel
theorem dX8_reads_4 : decode cX8_reads 4 = .ok (.iconst 0, 1) := by decide +kernel
theorem dX8_reads_5 : decode cX8_reads 5 = .ok (.istore_n 1, 1) := by decide +kernel
theorem dX8_reads_6 : decode cX8_reads 6 = .ok (.iload_n 1, 1) := by decide +kernel
theorem dX8_reads_7 : decode cX8_reads 7 = .ok (.aload_n 0, 1) := by decide +kernel
theorem dX8_reads_8 : decode cX8_reads 8 = .ok (.getfield 69, 3) := by decide +kernel
theorem dX8_reads_11 : decode cX8_reads 11 = .ok (.if_icmp .ge 53, 3) := by decide +kernel
theorem dX8_reads_14 : decode cX8_reads 14 = .ok (.aload_n 0, 1) := by decide +kernel
theorem dX8_reads_15 : decode cX8_reads 15 = .ok (.aload_n 0, 1) := by decide +kernel
theorem dX8_reads_16 : decode cX8_reads 16 = .ok (.getfield 7, 3) := by decide +kernel
theorem dX8_reads_19 : decode cX8_reads 19 = .ok (.iload_n 1, 1) := by decide +kernel
theorem dX8_reads_20 : decode cX8_reads 20 = .ok (.iaload, 1) := by decide +kernel
theorem dX8_reads_21 : decode cX8_reads 21 = .ok (.iload_n 1, 1) := by decide +kernel
theorem dX8_reads_22 : decode cX8_reads 22 = .ok (.iconst 1, 1) := by decide +kernel
theorem dX8_reads_23 : decode cX8_reads 23 = .ok (.iadd, 1) := by decide +kernel
theorem dX8_reads_24 : decode cX8_reads 24 = .ok (.iload_n 1, 1) := by decide +kernel
theorem dX8_reads_25 : decode cX8_reads 25 = .ok (.ifCond .ne 7, 3) := by decide +kernel
theorem dX8_reads_28 : decode cX8_reads 28 = .ok (.iconst 1, 1) := by decide +kernel
theorem dX8_reads_29 : decode cX8_reads 29 = .ok (.goto 4, 3) := by decide +kernel
theorem dX8_reads_32 : decode cX8_reads 32 = .ok (.iconst 0, 1) := by decide +kernel
theorem dX8_reads_33 : decode cX8_reads 33 = .ok (.invokevirtual 106, 3) := by decide +kernel
theorem dX8_reads_36 : decode cX8_reads 36 = .ok (.ifCond .eq 16, 3) := by decide +kernel
theorem dX8_reads_39 : decode cX8_reads 39 = .ok (.aload_n 0, 1) := by decide +kernel
theorem dX8_reads_40 : decode cX8_reads 40 = .ok (.aload_n 0, 1) := by decide +kernel
theorem dX8_reads_41 : decode cX8_reads 41 = .ok (.getfield 75, 3) := by decide +kernel
theorem dX8_reads_44 : decode cX8_reads 44 = .ok (.invokevirtual 78, 3) := by decide +kernel
theorem dX8_reads_47 : decode cX8_reads 47 = .ok (.bipush 59, 2) := by decide +kernel
theorem dX8_reads_49 : decode cX8_reads 49 = .ok (.if_icmp .eq 5, 3) := by decide +kernel
theorem dX8_reads_52 : decode cX8_reads 52 = .ok (.iload_n 1, 1) := by decide +kernel
theorem dX8_reads_53 : decode cX8_reads 53 = .ok (.ireturn, 1) := by decide +kernel
theorem dX8_reads_54 : decode cX8_reads 54 = .ok (.aload_n 0, 1) := by decide +kernel
theorem dX8_reads_55 : decode cX8_reads 55 = .ok (.getfield 75, 3) := by decide +kernel
theorem dX8_reads_58 : decode cX8_reads 58 = .ok (.iconst 1, 1) := by decide +kernel
theorem dX8_reads_59 : decode cX8_reads 59 = .ok (.iadd, 1) := by decide +kernel
theorem dX8_reads_60 : decode cX8_reads 60 = .ok (.istore_n 1, 1) := by decide +kernel
theorem dX8_reads_61 : decode cX8_reads 61 = .ok (.goto (-55), 3) := by decide +kernel
theorem dX8_reads_64 : decode cX8_reads 64 = .ok (.bipush (-4), 2) := by decide +kernel
theorem dX8_reads_66 : decode cX8_reads 66 = .ok (.ireturn, 1) := by decide +kernel
theorem dX8_write_0 : decode cX8_write 0 = .ok (.iload_n 1, 1) := by decide +kernel
theorem dX8_write_1 : decode cX8_write 1 = .ok (.bipush 32, 2) := by decide +kernel
theorem dX8_write_3 : decode cX8_write 3 = .ok (.if_icmp .lt 9, 3) := by decide +kernel
theorem dX8_write_6 : decode cX8_write 6 = .ok (.iload_n 1, 1) := by decide +kernel
theorem dX8_write_7 : decode cX8_write 7 = .ok (.bipush 126, 2) := by decide +kernel
theorem dX8_write_9 : decode cX8_write 9 = .ok (.if_icmp .le 5, 3) := by decide +kernel
theorem dX8_write_12 : decode cX8_write 12 = .ok (.iconst (-1), 1) := by decide +kernel
theorem dX8_write_13 : decode cX8_write 13 = .ok (.ireturn, 1) := by decide +kernel
theorem dX8_write_14 : decode cX8_write 14 = .ok (.aload_n 0, 1) := by decide +kernel
theorem dX8_write_15 : decode cX8_write 15 = .ok (.getfield 69, 3) := by decide +kernel
theorem dX8_write_18 : decode cX8_write 18 = .ok (.sipush 200, 3) := by decide +kernel
theorem dX8_write_21 : decode cX8_write 21 = .ok (.if_icmp .ne 6, 3) := by decide +kernel
theorem dX8_write_24 : decode cX8_write 24 = .ok (.bipush (-3), 2) := by decide +kernel
theorem dX8_write_26 : decode cX8_write 26 = .ok (.ireturn, 1) := by decide +kernel
theorem dX8_write_27 : decode cX8_write 27 = .ok (.aload_n 0, 1) := by decide +kernel
theorem dX8_write_28 : decode cX8_write 28 = .ok (.getfield 7, 3) := by decide +kernel
theorem dX8_write_31 : decode cX8_write 31 = .ok (.aload_n 0, 1) := by decide +kernel
theorem dX8_write_32 : decode cX8_write 32 = .ok (.getfield 69, 3) := by decide +kernel
theorem dX8_write_35 : decode cX8_write 35 = .ok (.iload_n 1, 1) := by decide +kernel
theorem dX8_write_36 : decode cX8_write 36 = .ok (.iastore, 1) := by decide +kernel
theorem dX8_write_37 : decode cX8_write 37 = .ok (.aload_n 0, 1) := by decide +kernel
theorem dX8_write_38 : decode cX8_write 38 = .ok (.dup, 1) := by decide +kernel
theorem dX8_write_39 : decode cX8_write 39 = .ok (.getfield 69, 3) := by decide +kernel
theorem dX8_write_42 : decode cX8_write 42 = .ok (.iconst 1, 1) := by decide +kernel
theorem dX8_write_43 : decode cX8_write 43 = .ok (.iadd, 1) := by decide +kernel
theorem dX8_write_44 : decode cX8_write 44 = .ok (.putfield 69, 3) := by decide +kernel
theorem dX8_write_47 : decode cX8_write 47 = .ok (.aload_n 0, 1) := by decide +kernel
theorem dX8_write_48 : decode cX8_write 48 = .ok (.getfield 69, 3) := by decide +kernel
theorem dX8_write_51 : decode cX8_write 51 = .ok (.ireturn, 1) := by decide +kernel
theorem dX8_wipe_0 : decode cX8_wipe 0 = .ok (.aload_n 0, 1) := by decide +kernel
theorem dX8_wipe_1 : decode cX8_wipe 1 = .ok (.getfield 69, 3) := by decide +kernel
theorem dX8_wipe_4 : decode cX8_wipe 4 = .ok (.istore_n 1, 1) := by decide +kernel
theorem dX8_wipe_5 : decode cX8_wipe 5 = .ok (.aload_n 0, 1) := by decide +kernel
theorem dX8_wipe_6 : decode cX8_wipe 6 = .ok (.iconst 0, 1) := by decide +kernel
theorem dX8_wipe_7 : decode cX8_wipe 7 = .ok (.putfield 69, 3) := by decide +kernel
theorem dX8_wipe_10 : decode cX8_wipe 10 = .ok (.iload_n 1, 1) := by decide +kernel
theorem dX8_wipe_11 : decode cX8_wipe 11 = .ok (.ireturn, 1) := by decide +kernel
set_option maxRecDepth 20000 in
theorem ggX8_fault_X8_reads : GoodIn wsX8_fault wsX8_reads := goodIn_r _ [5, 6, 7, 8, 9, 10, 11, 4, 12, 13, 14, 15, 16, 17, 18, 19, 20, 21, 22, 23, 24, 25, 26, 27, 28, 29, 30, 31, 32, 33, 34, 35, 36, 37, 38, 39, 40, 41, 42, 43, 44, 45, 46, 47, 48, 49, 50, 51, 52, 53, 54, 55, 56, 57, 58, 59, 60, 61, 62, 63, 64, 65, 66, 67, 68, 69, 70, 71, 72, 73, 74] (by decide +kernel) (by decide +kernel)
set_option maxRecDepth 20000 in
theorem gX8_fault_X8_reads : GoodIn wsX8_fault (wsV RX8 110 RX8 yX8_reads wsX8_reads) := goodIn_app (goodIn_of _ (by decide +kernel)) ggX8_fault_X8_reads
theorem dX8_fault_0 : decode cX8_fault 0 = .ok (.aload_n 0, 1) := by decide +kernel
theorem dX8_fault_1 : decode cX8_fault 1 = .ok (.invokevirtual 110, 3) := by decide +kernel
theorem dX8_fault_4 : decode cX8_fault 4 = .ok (.ireturn, 1) := by decide +kernel
set_option maxRecDepth 20000 in
theorem ggX8_lay_X8_reads : GoodIn wsX8_lay wsX8_reads := goodIn_r _ [7, 8, 9, 10, 11, 12, 13, 6, 14, 1, 15, 16, 17, 18, 19, 20, 21, 22, 23, 24, 25, 26, 27, 28, 29, 30, 31, 32, 33, 34, 35, 36, 37, 38, 39, 40, 41, 42, 43, 44, 45, 46, 47, 48, 49, 50, 51, 52, 53, 54, 55, 64, 65, 66, 67, 68, 69, 70, 71, 72, 73, 74, 75, 76, 77, 78, 79, 80, 81, 82, 83] (by decide +kernel) (by decide +kernel)
set_option maxRecDepth 20000 in
theorem gX8_lay_X8_reads : GoodIn wsX8_lay (wsV RX8 110 RX8 yX8_reads wsX8_reads) := goodIn_app (goodIn_of _ (by decide +kernel)) ggX8_lay_X8_reads
set_option maxRecDepth 20000 in
theorem ggX8_lay_X8_takes : GoodIn wsX8_lay wsX8_takes := goodIn_r _ [59, 1, 2, 15, 60, 61, 62, 16, 63, 64, 65, 66, 67, 68, 69, 70, 71, 72, 73, 74, 75, 76, 77, 78, 79, 80, 81, 82, 83] (by decide +kernel) (by decide +kernel)
set_option maxRecDepth 20000 in
theorem gX8_lay_X8_takes : GoodIn wsX8_lay (wsV RX8 54 RX8 yX8_takes wsX8_takes) := goodIn_app (goodIn_of _ (by decide +kernel)) ggX8_lay_X8_takes
theorem dX8_lay_0 : decode cX8_lay 0 = .ok (.aload_n 0, 1) := by decide +kernel
theorem dX8_lay_1 : decode cX8_lay 1 = .ok (.invokevirtual 110, 3) := by decide +kernel
theorem dX8_lay_4 : decode cX8_lay 4 = .ok (.bipush (-4), 2) := by decide +kernel
theorem dX8_lay_6 : decode cX8_lay 6 = .ok (.if_icmp .ne 10, 3) := by decide +kernel
theorem dX8_lay_9 : decode cX8_lay 9 = .ok (.aload_n 0, 1) := by decide +kernel
theorem dX8_lay_10 : decode cX8_lay 10 = .ok (.getfield 46, 3) := by decide +kernel
theorem dX8_lay_13 : decode cX8_lay 13 = .ok (.ifCond .ne 6, 3) := by decide +kernel
theorem dX8_lay_16 : decode cX8_lay 16 = .ok (.bipush (-2), 2) := by decide +kernel
theorem dX8_lay_18 : decode cX8_lay 18 = .ok (.ireturn, 1) := by decide +kernel
theorem dX8_lay_19 : decode cX8_lay 19 = .ok (.aload_n 0, 1) := by decide +kernel
theorem dX8_lay_20 : decode cX8_lay 20 = .ok (.invokevirtual 54, 3) := by decide +kernel
theorem dX8_lay_23 : decode cX8_lay 23 = .ok (.aload_n 0, 1) := by decide +kernel
theorem dX8_lay_24 : decode cX8_lay 24 = .ok (.getfield 57, 3) := by decide +kernel
theorem dX8_lay_27 : decode cX8_lay 27 = .ok (.ireturn, 1) := by decide +kernel
theorem dX8_drawOf_0 : decode cX8_drawOf 0 = .ok (.ldc2_w 114, 3) := by decide +kernel
theorem dX8_drawOf_3 : decode cX8_drawOf 3 = .ok (.iload_n 0, 1) := by decide +kernel
theorem dX8_drawOf_4 : decode cX8_drawOf 4 = .ok (.i2l, 1) := by decide +kernel
theorem dX8_drawOf_5 : decode cX8_drawOf 5 = .ok (.lmul, 1) := by decide +kernel
theorem dX8_drawOf_6 : decode cX8_drawOf 6 = .ok (.ldc2_w 116, 3) := by decide +kernel
theorem dX8_drawOf_9 : decode cX8_drawOf 9 = .ok (.iload_n 1, 1) := by decide +kernel
theorem dX8_drawOf_10 : decode cX8_drawOf 10 = .ok (.i2l, 1) := by decide +kernel
theorem dX8_drawOf_11 : decode cX8_drawOf 11 = .ok (.lmul, 1) := by decide +kernel
theorem dX8_drawOf_12 : decode cX8_drawOf 12 = .ok (.ladd, 1) := by decide +kernel
theorem dX8_drawOf_13 : decode cX8_drawOf 13 = .ok (.ldc2_w 118, 3) := by decide +kernel
theorem dX8_drawOf_16 : decode cX8_drawOf 16 = .ok (.iload_n 2, 1) := by decide +kernel
theorem dX8_drawOf_17 : decode cX8_drawOf 17 = .ok (.i2l, 1) := by decide +kernel
theorem dX8_drawOf_18 : decode cX8_drawOf 18 = .ok (.lmul, 1) := by decide +kernel
theorem dX8_drawOf_19 : decode cX8_drawOf 19 = .ok (.ladd, 1) := by decide +kernel
theorem dX8_drawOf_20 : decode cX8_drawOf 20 = .ok (.lconst 1, 1) := by decide +kernel
theorem dX8_drawOf_21 : decode cX8_drawOf 21 = .ok (.ladd, 1) := by decide +kernel
theorem dX8_drawOf_22 : decode cX8_drawOf 22 = .ok (.lstore_n 3, 1) := by decide +kernel
theorem dX8_drawOf_23 : decode cX8_drawOf 23 = .ok (.lload_n 3, 1) := by decide +kernel
theorem dX8_drawOf_24 : decode cX8_drawOf 24 = .ok (.lload_n 3, 1) := by decide +kernel
theorem dX8_drawOf_25 : decode cX8_drawOf 25 = .ok (.lmul, 1) := by decide +kernel
theorem dX8_drawOf_26 : decode cX8_drawOf 26 = .ok (.ldc2_w 120, 3) := by decide +kernel
theorem dX8_drawOf_29 : decode cX8_drawOf 29 = .ok (.lrem, 1) := by decide +kernel
theorem dX8_drawOf_30 : decode cX8_drawOf 30 = .ok (.l2i, 1) := by decide +kernel
theorem dX8_drawOf_31 : decode cX8_drawOf 31 = .ok (.ireturn, 1) := by decide +kernel
set_option maxRecDepth 20000 in
theorem ggX8_drawnDelay_X8_drawOf : GoodIn wsX8_drawnDelay wsX8_drawOf := goodIn_r _ [6, 7, 8, 9, 10] (by decide +kernel) (by decide +kernel)
set_option maxRecDepth 20000 in
theorem gX8_drawnDelay_X8_drawOf : GoodIn wsX8_drawnDelay (va_wsS RX8 122 yX8_drawOf wsX8_drawOf) := goodIn_app (goodIn_of _ (by decide +kernel)) ggX8_drawnDelay_X8_drawOf
theorem dX8_drawnDelay_0 : decode cX8_drawnDelay 0 = .ok (.iconst 0, 1) := by decide +kernel
theorem dX8_drawnDelay_1 : decode cX8_drawnDelay 1 = .ok (.istore_n 3, 1) := by decide +kernel
theorem dX8_drawnDelay_2 : decode cX8_drawnDelay 2 = .ok (.iload_n 3, 1) := by decide +kernel
theorem dX8_drawnDelay_3 : decode cX8_drawnDelay 3 = .ok (.aload_n 0, 1) := by decide +kernel
theorem dX8_drawnDelay_4 : decode cX8_drawnDelay 4 = .ok (.getfield 60, 3) := by decide +kernel
theorem dX8_drawnDelay_7 : decode cX8_drawnDelay 7 = .ok (.if_icmp .ge 25, 3) := by decide +kernel
theorem dX8_drawnDelay_10 : decode cX8_drawnDelay 10 = .ok (.iload_n 1, 1) := by decide +kernel
theorem dX8_drawnDelay_11 : decode cX8_drawnDelay 11 = .ok (.iload_n 2, 1) := by decide +kernel
theorem dX8_drawnDelay_12 : decode cX8_drawnDelay 12 = .ok (.iload_n 3, 1) := by decide +kernel
theorem dX8_drawnDelay_13 : decode cX8_drawnDelay 13 = .ok (.invokestatic 122, 3) := by decide +kernel
theorem dX8_drawnDelay_16 : decode cX8_drawnDelay 16 = .ok (.bipush 10, 2) := by decide +kernel
theorem dX8_drawnDelay_18 : decode cX8_drawnDelay 18 = .ok (.irem, 1) := by decide +kernel
theorem dX8_drawnDelay_19 : decode cX8_drawnDelay 19 = .ok (.aload_n 0, 1) := by decide +kernel
theorem dX8_drawnDelay_20 : decode cX8_drawnDelay 20 = .ok (.getfield 63, 3) := by decide +kernel
theorem dX8_drawnDelay_23 : decode cX8_drawnDelay 23 = .ok (.if_icmp .ge 9, 3) := by decide +kernel
theorem dX8_drawnDelay_26 : decode cX8_drawnDelay 26 = .ok (.iinc 3 1, 3) := by decide +kernel
theorem dX8_drawnDelay_29 : decode cX8_drawnDelay 29 = .ok (.goto (-27), 3) := by decide +kernel
theorem dX8_drawnDelay_32 : decode cX8_drawnDelay 32 = .ok (.iload_n 3, 1) := by decide +kernel
theorem dX8_drawnDelay_33 : decode cX8_drawnDelay 33 = .ok (.ireturn, 1) := by decide +kernel
theorem dX8_ways_0 : decode cX8_ways 0 = .ok (.iconst 0, 1) := by decide +kernel
theorem dX8_ways_1 : decode cX8_ways 1 = .ok (.istore_n 1, 1) := by decide +kernel
theorem dX8_ways_2 : decode cX8_ways 2 = .ok (.iload_n 1, 1) := by decide +kernel
theorem dX8_ways_3 : decode cX8_ways 3 = .ok (.aload_n 0, 1) := by decide +kernel
theorem dX8_ways_4 : decode cX8_ways 4 = .ok (.getfield 57, 3) := by decide +kernel
theorem dX8_ways_7 : decode cX8_ways 7 = .ok (.if_icmp .ge 67, 3) := by decide +kernel
theorem dX8_ways_10 : decode cX8_ways 10 = .ok (.iconst 0, 1) := by decide +kernel
theorem dX8_ways_11 : decode cX8_ways 11 = .ok (.istore_n 2, 1) := by decide +kernel
theorem dX8_ways_12 : decode cX8_ways 12 = .ok (.iload_n 2, 1) := by decide +kernel
theorem dX8_ways_13 : decode cX8_ways 13 = .ok (.aload_n 0, 1) := by decide +kernel
theorem dX8_ways_14 : decode cX8_ways 14 = .ok (.getfield 57, 3) := by decide +kernel
theorem dX8_ways_17 : decode cX8_ways 17 = .ok (.if_icmp .ge 51, 3) := by decide +kernel
theorem dX8_ways_20 : decode cX8_ways 20 = .ok (.aload_n 0, 1) := by decide +kernel
theorem dX8_ways_21 : decode cX8_ways 21 = .ok (.getfield 13, 3) := by decide +kernel
theorem dX8_ways_24 : decode cX8_ways 24 = .ok (.bipush 16, 2) := by decide +kernel
theorem dX8_ways_26 : decode cX8_ways 26 = .ok (.iload_n 1, 1) := by decide +kernel
theorem dX8_ways_27 : decode cX8_ways 27 = .ok (.imul, 1) := by decide +kernel
theorem dX8_ways_28 : decode cX8_ways 28 = .ok (.iload_n 2, 1) := by decide +kernel
theorem dX8_ways_29 : decode cX8_ways 29 = .ok (.iadd, 1) := by decide +kernel
theorem dX8_ways_30 : decode cX8_ways 30 = .ok (.iaload, 1) := by decide +kernel
theorem dX8_ways_31 : decode cX8_ways 31 = .ok (.istore_n 3, 1) := by decide +kernel
theorem dX8_ways_32 : decode cX8_ways 32 = .ok (.aload_n 0, 1) := by decide +kernel
theorem dX8_ways_33 : decode cX8_ways 33 = .ok (.getfield 25, 3) := by decide +kernel
theorem dX8_ways_36 : decode cX8_ways 36 = .ok (.bipush 16, 2) := by decide +kernel
theorem dX8_ways_38 : decode cX8_ways 38 = .ok (.iload_n 1, 1) := by decide +kernel
theorem dX8_ways_39 : decode cX8_ways 39 = .ok (.imul, 1) := by decide +kernel
theorem dX8_ways_40 : decode cX8_ways 40 = .ok (.iload_n 2, 1) := by decide +kernel
theorem dX8_ways_41 : decode cX8_ways 41 = .ok (.iadd, 1) := by decide +kernel
theorem dX8_ways_42 : decode cX8_ways 42 = .ok (.iload_n 1, 1) := by decide +kernel
theorem dX8_ways_43 : decode cX8_ways 43 = .ok (.iload_n 2, 1) := by decide +kernel
theorem dX8_ways_44 : decode cX8_ways 44 = .ok (.if_icmp .ne 7, 3) := by decide +kernel
theorem dX8_ways_47 : decode cX8_ways 47 = .ok (.iconst 0, 1) := by decide +kernel
theorem dX8_ways_48 : decode cX8_ways 48 = .ok (.goto 13, 3) := by decide +kernel
theorem dX8_ways_51 : decode cX8_ways 51 = .ok (.iload_n 3, 1) := by decide +kernel
theorem dX8_ways_52 : decode cX8_ways 52 = .ok (.ifCond .le 7, 3) := by decide +kernel
theorem dX8_ways_55 : decode cX8_ways 55 = .ok (.iload_n 3, 1) := by decide +kernel
theorem dX8_ways_56 : decode cX8_ways 56 = .ok (.goto 5, 3) := by decide +kernel
theorem dX8_ways_59 : decode cX8_ways 59 = .ok (.ldc 126, 2) := by decide +kernel
theorem dX8_ways_61 : decode cX8_ways 61 = .ok (.iastore, 1) := by decide +kernel
theorem dX8_ways_62 : decode cX8_ways 62 = .ok (.iinc 2 1, 3) := by decide +kernel
theorem dX8_ways_65 : decode cX8_ways 65 = .ok (.goto (-53), 3) := by decide +kernel
theorem dX8_ways_68 : decode cX8_ways 68 = .ok (.iinc 1 1, 3) := by decide +kernel
theorem dX8_ways_71 : decode cX8_ways 71 = .ok (.goto (-69), 3) := by decide +kernel
theorem dX8_ways_74 : decode cX8_ways 74 = .ok (.iconst 0, 1) := by decide +kernel
theorem dX8_ways_75 : decode cX8_ways 75 = .ok (.istore_n 1, 1) := by decide +kernel
theorem dX8_ways_76 : decode cX8_ways 76 = .ok (.iload_n 1, 1) := by decide +kernel
theorem dX8_ways_77 : decode cX8_ways 77 = .ok (.aload_n 0, 1) := by decide +kernel
theorem dX8_ways_78 : decode cX8_ways 78 = .ok (.getfield 57, 3) := by decide +kernel
theorem dX8_ways_81 : decode cX8_ways 81 = .ok (.if_icmp .ge 109, 3) := by decide +kernel
theorem dX8_ways_84 : decode cX8_ways 84 = .ok (.iconst 0, 1) := by decide +kernel
theorem dX8_ways_85 : decode cX8_ways 85 = .ok (.istore_n 2, 1) := by decide +kernel
theorem dX8_ways_86 : decode cX8_ways 86 = .ok (.iload_n 2, 1) := by decide +kernel
theorem dX8_ways_87 : decode cX8_ways 87 = .ok (.aload_n 0, 1) := by decide +kernel
theorem dX8_ways_88 : decode cX8_ways 88 = .ok (.getfield 57, 3) := by decide +kernel
theorem dX8_ways_91 : decode cX8_ways 91 = .ok (.if_icmp .ge 93, 3) := by decide +kernel
theorem dX8_ways_94 : decode cX8_ways 94 = .ok (.iconst 0, 1) := by decide +kernel
theorem dX8_ways_95 : decode cX8_ways 95 = .ok (.istore_n 3, 1) := by decide +kernel
theorem dX8_ways_96 : decode cX8_ways 96 = .ok (.iload_n 3, 1) := by decide +kernel
theorem dX8_ways_97 : decode cX8_ways 97 = .ok (.aload_n 0, 1) := by decide +kernel
theorem dX8_ways_98 : decode cX8_ways 98 = .ok (.getfield 57, 3) := by decide +kernel
theorem dX8_ways_101 : decode cX8_ways 101 = .ok (.if_icmp .ge 77, 3) := by decide +kernel
theorem dX8_ways_104 : decode cX8_ways 104 = .ok (.aload_n 0, 1) := by decide +kernel
theorem dX8_ways_105 : decode cX8_ways 105 = .ok (.getfield 25, 3) := by decide +kernel
theorem dX8_ways_108 : decode cX8_ways 108 = .ok (.bipush 16, 2) := by decide +kernel
theorem dX8_ways_110 : decode cX8_ways 110 = .ok (.iload_n 2, 1) := by decide +kernel
theorem dX8_ways_111 : decode cX8_ways 111 = .ok (.imul, 1) := by decide +kernel
theorem dX8_ways_112 : decode cX8_ways 112 = .ok (.iload_n 1, 1) := by decide +kernel
theorem dX8_ways_113 : decode cX8_ways 113 = .ok (.iadd, 1) := by decide +kernel
theorem dX8_ways_114 : decode cX8_ways 114 = .ok (.iaload, 1) := by decide +kernel
theorem dX8_ways_115 : decode cX8_ways 115 = .ok (.aload_n 0, 1) := by decide +kernel
theorem dX8_ways_116 : decode cX8_ways 116 = .ok (.getfield 25, 3) := by decide +kernel
theorem dX8_ways_119 : decode cX8_ways 119 = .ok (.bipush 16, 2) := by decide +kernel
theorem dX8_ways_121 : decode cX8_ways 121 = .ok (.iload_n 1, 1) := by decide +kernel
theorem dX8_ways_122 : decode cX8_ways 122 = .ok (.imul, 1) := by decide +kernel
theorem dX8_ways_123 : decode cX8_ways 123 = .ok (.iload_n 3, 1) := by decide +kernel
theorem dX8_ways_124 : decode cX8_ways 124 = .ok (.iadd, 1) := by decide +kernel
theorem dX8_ways_125 : decode cX8_ways 125 = .ok (.iaload, 1) := by decide +kernel
theorem dX8_ways_126 : decode cX8_ways 126 = .ok (.iadd, 1) := by decide +kernel
theorem dX8_ways_127 : decode cX8_ways 127 = .ok (.istore 4, 2) := by decide +kernel
theorem dX8_ways_129 : decode cX8_ways 129 = .ok (.aload_n 0, 1) := by decide +kernel
theorem dX8_ways_130 : decode cX8_ways 130 = .ok (.getfield 25, 3) := by decide +kernel
theorem dX8_ways_133 : decode cX8_ways 133 = .ok (.bipush 16, 2) := by decide +kernel
theorem dX8_ways_135 : decode cX8_ways 135 = .ok (.iload_n 2, 1) := by decide +kernel
theorem dX8_ways_136 : decode cX8_ways 136 = .ok (.imul, 1) := by decide +kernel
theorem dX8_ways_137 : decode cX8_ways 137 = .ok (.iload_n 3, 1) := by decide +kernel
theorem dX8_ways_138 : decode cX8_ways 138 = .ok (.iadd, 1) := by decide +kernel
theorem dX8_ways_139 : decode cX8_ways 139 = .ok (.iload 4, 2) := by decide +kernel
theorem dX8_ways_141 : decode cX8_ways 141 = .ok (.aload_n 0, 1) := by decide +kernel
theorem dX8_ways_142 : decode cX8_ways 142 = .ok (.getfield 25, 3) := by decide +kernel
theorem dX8_ways_145 : decode cX8_ways 145 = .ok (.bipush 16, 2) := by decide +kernel
theorem dX8_ways_147 : decode cX8_ways 147 = .ok (.iload_n 2, 1) := by decide +kernel
theorem dX8_ways_148 : decode cX8_ways 148 = .ok (.imul, 1) := by decide +kernel
theorem dX8_ways_149 : decode cX8_ways 149 = .ok (.iload_n 3, 1) := by decide +kernel
theorem dX8_ways_150 : decode cX8_ways 150 = .ok (.iadd, 1) := by decide +kernel
theorem dX8_ways_151 : decode cX8_ways 151 = .ok (.iaload, 1) := by decide +kernel
theorem dX8_ways_152 : decode cX8_ways 152 = .ok (.if_icmp .ge 8, 3) := by decide +kernel
theorem dX8_ways_155 : decode cX8_ways 155 = .ok (.iload 4, 2) := by decide +kernel
theorem dX8_ways_157 : decode cX8_ways 157 = .ok (.goto 14, 3) := by decide +kernel
theorem dX8_ways_160 : decode cX8_ways 160 = .ok (.aload_n 0, 1) := by decide +kernel
theorem dX8_ways_161 : decode cX8_ways 161 = .ok (.getfield 25, 3) := by decide +kernel
theorem dX8_ways_164 : decode cX8_ways 164 = .ok (.bipush 16, 2) := by decide +kernel
theorem dX8_ways_166 : decode cX8_ways 166 = .ok (.iload_n 2, 1) := by decide +kernel
theorem dX8_ways_167 : decode cX8_ways 167 = .ok (.imul, 1) := by decide +kernel
theorem dX8_ways_168 : decode cX8_ways 168 = .ok (.iload_n 3, 1) := by decide +kernel
theorem dX8_ways_169 : decode cX8_ways 169 = .ok (.iadd, 1) := by decide +kernel
theorem dX8_ways_170 : decode cX8_ways 170 = .ok (.iaload, 1) := by decide +kernel
theorem dX8_ways_171 : decode cX8_ways 171 = .ok (.iastore, 1) := by decide +kernel
theorem dX8_ways_172 : decode cX8_ways 172 = .ok (.iinc 3 1, 3) := by decide +kernel
theorem dX8_ways_175 : decode cX8_ways 175 = .ok (.goto (-79), 3) := by decide +kernel
theorem dX8_ways_178 : decode cX8_ways 178 = .ok (.iinc 2 1, 3) := by decide +kernel
theorem dX8_ways_181 : decode cX8_ways 181 = .ok (.goto (-95), 3) := by decide +kernel
theorem dX8_ways_184 : decode cX8_ways 184 = .ok (.iinc 1 1, 3) := by decide +kernel
theorem dX8_ways_187 : decode cX8_ways 187 = .ok (.goto (-111), 3) := by decide +kernel
theorem dX8_ways_190 : decode cX8_ways 190 = .ok (.return_, 1) := by decide +kernel
theorem dX8_greatest_0 : decode cX8_greatest 0 = .ok (.iconst 0, 1) := by decide +kernel
theorem dX8_greatest_1 : decode cX8_greatest 1 = .ok (.istore_n 1, 1) := by decide +kernel
theorem dX8_greatest_2 : decode cX8_greatest 2 = .ok (.iconst 0, 1) := by decide +kernel
theorem dX8_greatest_3 : decode cX8_greatest 3 = .ok (.istore_n 2, 1) := by decide +kernel
theorem dX8_greatest_4 : decode cX8_greatest 4 = .ok (.iload_n 2, 1) := by decide +kernel
theorem dX8_greatest_5 : decode cX8_greatest 5 = .ok (.aload_n 0, 1) := by decide +kernel
theorem dX8_greatest_6 : decode cX8_greatest 6 = .ok (.getfield 57, 3) := by decide +kernel
theorem dX8_greatest_9 : decode cX8_greatest 9 = .ok (.if_icmp .ge 30, 3) := by decide +kernel
theorem dX8_greatest_12 : decode cX8_greatest 12 = .ok (.aload_n 0, 1) := by decide +kernel
theorem dX8_greatest_13 : decode cX8_greatest 13 = .ok (.getfield 28, 3) := by decide +kernel
theorem dX8_greatest_16 : decode cX8_greatest 16 = .ok (.iload_n 2, 1) := by decide +kernel
theorem dX8_greatest_17 : decode cX8_greatest 17 = .ok (.iaload, 1) := by decide +kernel
theorem dX8_greatest_18 : decode cX8_greatest 18 = .ok (.iload_n 1, 1) := by decide +kernel
theorem dX8_greatest_19 : decode cX8_greatest 19 = .ok (.if_icmp .le 12, 3) := by decide +kernel
theorem dX8_greatest_22 : decode cX8_greatest 22 = .ok (.aload_n 0, 1) := by decide +kernel
theorem dX8_greatest_23 : decode cX8_greatest 23 = .ok (.getfield 28, 3) := by decide +kernel
theorem dX8_greatest_26 : decode cX8_greatest 26 = .ok (.iload_n 2, 1) := by decide +kernel
theorem dX8_greatest_27 : decode cX8_greatest 27 = .ok (.iaload, 1) := by decide +kernel
theorem dX8_greatest_28 : decode cX8_greatest 28 = .ok (.goto 4, 3) := by decide +kernel
theorem dX8_greatest_31 : decode cX8_greatest 31 = .ok (.iload_n 1, 1) := by decide +kernel
theorem dX8_greatest_32 : decode cX8_greatest 32 = .ok (.istore_n 1, 1) := by decide +kernel
theorem dX8_greatest_33 : decode cX8_greatest 33 = .ok (.iinc 2 1, 3) := by decide +kernel
theorem dX8_greatest_36 : decode cX8_greatest 36 = .ok (.goto (-32), 3) := by decide +kernel
theorem dX8_greatest_39 : decode cX8_greatest 39 = .ok (.iload_n 1, 1) := by decide +kernel
theorem dX8_greatest_40 : decode cX8_greatest 40 = .ok (.ireturn, 1) := by decide +kernel
theorem dX8_isEarlier_0 : decode cX8_isEarlier 0 = .ok (.iload 4, 2) := by decide +kernel
theorem dX8_isEarlier_2 : decode cX8_isEarlier 2 = .ok (.aload_n 0, 1) := by decide +kernel
theorem dX8_isEarlier_3 : decode cX8_isEarlier 3 = .ok (.getfield 28, 3) := by decide +kernel
theorem dX8_isEarlier_6 : decode cX8_isEarlier 6 = .ok (.iload_n 1, 1) := by decide +kernel
theorem dX8_isEarlier_7 : decode cX8_isEarlier 7 = .ok (.iaload, 1) := by decide +kernel
theorem dX8_isEarlier_8 : decode cX8_isEarlier 8 = .ok (.isub, 1) := by decide +kernel
theorem dX8_isEarlier_9 : decode cX8_isEarlier 9 = .ok (.aload_n 0, 1) := by decide +kernel
theorem dX8_isEarlier_10 : decode cX8_isEarlier 10 = .ok (.getfield 25, 3) := by decide +kernel
theorem dX8_isEarlier_13 : decode cX8_isEarlier 13 = .ok (.bipush 16, 2) := by decide +kernel
theorem dX8_isEarlier_15 : decode cX8_isEarlier 15 = .ok (.iload_n 1, 1) := by decide +kernel
theorem dX8_isEarlier_16 : decode cX8_isEarlier 16 = .ok (.imul, 1) := by decide +kernel
theorem dX8_isEarlier_17 : decode cX8_isEarlier 17 = .ok (.iload_n 3, 1) := by decide +kernel
theorem dX8_isEarlier_18 : decode cX8_isEarlier 18 = .ok (.iadd, 1) := by decide +kernel
theorem dX8_isEarlier_19 : decode cX8_isEarlier 19 = .ok (.iaload, 1) := by decide +kernel
theorem dX8_isEarlier_20 : decode cX8_isEarlier 20 = .ok (.iadd, 1) := by decide +kernel
theorem dX8_isEarlier_21 : decode cX8_isEarlier 21 = .ok (.istore 5, 2) := by decide +kernel
theorem dX8_isEarlier_23 : decode cX8_isEarlier 23 = .ok (.iload 4, 2) := by decide +kernel
theorem dX8_isEarlier_25 : decode cX8_isEarlier 25 = .ok (.aload_n 0, 1) := by decide +kernel
theorem dX8_isEarlier_26 : decode cX8_isEarlier 26 = .ok (.getfield 28, 3) := by decide +kernel
theorem dX8_isEarlier_29 : decode cX8_isEarlier 29 = .ok (.iload_n 2, 1) := by decide +kernel
theorem dX8_isEarlier_30 : decode cX8_isEarlier 30 = .ok (.iaload, 1) := by decide +kernel
theorem dX8_isEarlier_31 : decode cX8_isEarlier 31 = .ok (.isub, 1) := by decide +kernel
theorem dX8_isEarlier_32 : decode cX8_isEarlier 32 = .ok (.aload_n 0, 1) := by decide +kernel
theorem dX8_isEarlier_33 : decode cX8_isEarlier 33 = .ok (.getfield 25, 3) := by decide +kernel
theorem dX8_isEarlier_36 : decode cX8_isEarlier 36 = .ok (.bipush 16, 2) := by decide +kernel
theorem dX8_isEarlier_38 : decode cX8_isEarlier 38 = .ok (.iload_n 2, 1) := by decide +kernel
theorem dX8_isEarlier_39 : decode cX8_isEarlier 39 = .ok (.imul, 1) := by decide +kernel
theorem dX8_isEarlier_40 : decode cX8_isEarlier 40 = .ok (.iload_n 3, 1) := by decide +kernel
theorem dX8_isEarlier_41 : decode cX8_isEarlier 41 = .ok (.iadd, 1) := by decide +kernel
theorem dX8_isEarlier_42 : decode cX8_isEarlier 42 = .ok (.iaload, 1) := by decide +kernel
theorem dX8_isEarlier_43 : decode cX8_isEarlier 43 = .ok (.iadd, 1) := by decide +kernel
theorem dX8_isEarlier_44 : decode cX8_isEarlier 44 = .ok (.istore 6, 2) := by decide +kernel
theorem dX8_isEarlier_46 : decode cX8_isEarlier 46 = .ok (.iload 5, 2) := by decide +kernel
theorem dX8_isEarlier_48 : decode cX8_isEarlier 48 = .ok (.iload 6, 2) := by decide +kernel
theorem dX8_isEarlier_50 : decode cX8_isEarlier 50 = .ok (.if_icmp .eq 18, 3) := by decide +kernel
theorem dX8_isEarlier_53 : decode cX8_isEarlier 53 = .ok (.iload 5, 2) := by decide +kernel
theorem dX8_isEarlier_55 : decode cX8_isEarlier 55 = .ok (.iload 6, 2) := by decide +kernel
theorem dX8_isEarlier_57 : decode cX8_isEarlier 57 = .ok (.if_icmp .ge 7, 3) := by decide +kernel
theorem dX8_isEarlier_60 : decode cX8_isEarlier 60 = .ok (.iconst 1, 1) := by decide +kernel
theorem dX8_isEarlier_61 : decode cX8_isEarlier 61 = .ok (.goto 27, 3) := by decide +kernel
theorem dX8_isEarlier_64 : decode cX8_isEarlier 64 = .ok (.iconst 0, 1) := by decide +kernel
theorem dX8_isEarlier_65 : decode cX8_isEarlier 65 = .ok (.goto 23, 3) := by decide +kernel
theorem dX8_isEarlier_68 : decode cX8_isEarlier 68 = .ok (.aload_n 0, 1) := by decide +kernel
theorem dX8_isEarlier_69 : decode cX8_isEarlier 69 = .ok (.getfield 31, 3) := by decide +kernel
theorem dX8_isEarlier_72 : decode cX8_isEarlier 72 = .ok (.iload_n 1, 1) := by decide +kernel
theorem dX8_isEarlier_73 : decode cX8_isEarlier 73 = .ok (.iaload, 1) := by decide +kernel
theorem dX8_isEarlier_74 : decode cX8_isEarlier 74 = .ok (.aload_n 0, 1) := by decide +kernel
theorem dX8_isEarlier_75 : decode cX8_isEarlier 75 = .ok (.getfield 31, 3) := by decide +kernel
theorem dX8_isEarlier_78 : decode cX8_isEarlier 78 = .ok (.iload_n 2, 1) := by decide +kernel
theorem dX8_isEarlier_79 : decode cX8_isEarlier 79 = .ok (.iaload, 1) := by decide +kernel
theorem dX8_isEarlier_80 : decode cX8_isEarlier 80 = .ok (.if_icmp .ge 7, 3) := by decide +kernel
theorem dX8_isEarlier_83 : decode cX8_isEarlier 83 = .ok (.iconst 1, 1) := by decide +kernel
theorem dX8_isEarlier_84 : decode cX8_isEarlier 84 = .ok (.goto 4, 3) := by decide +kernel
theorem dX8_isEarlier_87 : decode cX8_isEarlier 87 = .ok (.iconst 0, 1) := by decide +kernel
theorem dX8_isEarlier_88 : decode cX8_isEarlier 88 = .ok (.ireturn, 1) := by decide +kernel
set_option maxRecDepth 20000 in
theorem ggX8_join_X8_greatest : GoodIn wsX8_join wsX8_greatest := goodIn_r _ [13, 2, 7, 19, 20, 21, 22, 23, 24, 25, 26, 27, 28, 29, 30, 31, 32, 33, 34, 35, 36, 37, 38] (by decide +kernel) (by decide +kernel)
set_option maxRecDepth 20000 in
theorem gX8_join_X8_greatest : GoodIn wsX8_join (wsV RX8 127 RX8 yX8_greatest wsX8_greatest) := goodIn_app (goodIn_of _ (by decide +kernel)) ggX8_join_X8_greatest
set_option maxRecDepth 20000 in
theorem ggX8_join_X8_isEarlier : GoodIn wsX8_join wsX8_isEarlier := goodIn_r _ [17, 7, 3, 18, 19, 20, 21, 22, 23, 24, 25, 26, 27, 28, 29, 30, 31, 32, 33, 34, 35, 36, 37, 38] (by decide +kernel) (by decide +kernel)
set_option maxRecDepth 20000 in
theorem gX8_join_X8_isEarlier : GoodIn wsX8_join (wsV RX8 133 RX8 yX8_isEarlier wsX8_isEarlier) := goodIn_app (goodIn_of _ (by decide +kernel)) ggX8_join_X8_isEarlier
theorem dX8_join_0 : decode cX8_join 0 = .ok (.aload_n 0, 1) := by decide +kernel
theorem dX8_join_1 : decode cX8_join 1 = .ok (.invokevirtual 127, 3) := by decide +kernel
theorem dX8_join_4 : decode cX8_join 4 = .ok (.istore_n 1, 1) := by decide +kernel
theorem dX8_join_5 : decode cX8_join 5 = .ok (.aload_n 0, 1) := by decide +kernel
theorem dX8_join_6 : decode cX8_join 6 = .ok (.iconst 0, 1) := by decide +kernel
theorem dX8_join_7 : decode cX8_join 7 = .ok (.putfield 130, 3) := by decide +kernel
theorem dX8_join_10 : decode cX8_join 10 = .ok (.iconst 0, 1) := by decide +kernel
theorem dX8_join_11 : decode cX8_join 11 = .ok (.istore_n 2, 1) := by decide +kernel
theorem dX8_join_12 : decode cX8_join 12 = .ok (.iload_n 2, 1) := by decide +kernel
theorem dX8_join_13 : decode cX8_join 13 = .ok (.aload_n 0, 1) := by decide +kernel
theorem dX8_join_14 : decode cX8_join 14 = .ok (.getfield 57, 3) := by decide +kernel
theorem dX8_join_17 : decode cX8_join 17 = .ok (.if_icmp .ge 146, 3) := by decide +kernel
theorem dX8_join_20 : decode cX8_join 20 = .ok (.iload_n 2, 1) := by decide +kernel
theorem dX8_join_21 : decode cX8_join 21 = .ok (.istore_n 3, 1) := by decide +kernel
theorem dX8_join_22 : decode cX8_join 22 = .ok (.iconst 0, 1) := by decide +kernel
theorem dX8_join_23 : decode cX8_join 23 = .ok (.istore 4, 2) := by decide +kernel
theorem dX8_join_25 : decode cX8_join 25 = .ok (.iload 4, 2) := by decide +kernel
theorem dX8_join_27 : decode cX8_join 27 = .ok (.aload_n 0, 1) := by decide +kernel
theorem dX8_join_28 : decode cX8_join 28 = .ok (.getfield 57, 3) := by decide +kernel
theorem dX8_join_31 : decode cX8_join 31 = .ok (.if_icmp .ge 93, 3) := by decide +kernel
theorem dX8_join_34 : decode cX8_join 34 = .ok (.aload_n 0, 1) := by decide +kernel
theorem dX8_join_35 : decode cX8_join 35 = .ok (.getfield 25, 3) := by decide +kernel
theorem dX8_join_38 : decode cX8_join 38 = .ok (.bipush 16, 2) := by decide +kernel
theorem dX8_join_40 : decode cX8_join 40 = .ok (.iload 4, 2) := by decide +kernel
theorem dX8_join_42 : decode cX8_join 42 = .ok (.imul, 1) := by decide +kernel
theorem dX8_join_43 : decode cX8_join 43 = .ok (.iload_n 2, 1) := by decide +kernel
theorem dX8_join_44 : decode cX8_join 44 = .ok (.iadd, 1) := by decide +kernel
theorem dX8_join_45 : decode cX8_join 45 = .ok (.iaload, 1) := by decide +kernel
theorem dX8_join_46 : decode cX8_join 46 = .ok (.ldc 126, 2) := by decide +kernel
theorem dX8_join_48 : decode cX8_join 48 = .ok (.if_icmp .ge 13, 3) := by decide +kernel
theorem dX8_join_51 : decode cX8_join 51 = .ok (.iload 4, 2) := by decide +kernel
theorem dX8_join_53 : decode cX8_join 53 = .ok (.iload_n 3, 1) := by decide +kernel
theorem dX8_join_54 : decode cX8_join 54 = .ok (.if_icmp .eq 7, 3) := by decide +kernel
theorem dX8_join_57 : decode cX8_join 57 = .ok (.iconst 1, 1) := by decide +kernel
theorem dX8_join_58 : decode cX8_join 58 = .ok (.goto 4, 3) := by decide +kernel
theorem dX8_join_61 : decode cX8_join 61 = .ok (.iconst 0, 1) := by decide +kernel
theorem dX8_join_62 : decode cX8_join 62 = .ok (.istore 5, 2) := by decide +kernel
theorem dX8_join_64 : decode cX8_join 64 = .ok (.iload 5, 2) := by decide +kernel
theorem dX8_join_66 : decode cX8_join 66 = .ok (.ifCond .eq 37, 3) := by decide +kernel
theorem dX8_join_69 : decode cX8_join 69 = .ok (.aload_n 0, 1) := by decide +kernel
theorem dX8_join_70 : decode cX8_join 70 = .ok (.iload 4, 2) := by decide +kernel
theorem dX8_join_72 : decode cX8_join 72 = .ok (.iload_n 3, 1) := by decide +kernel
theorem dX8_join_73 : decode cX8_join 73 = .ok (.iload_n 2, 1) := by decide +kernel
theorem dX8_join_74 : decode cX8_join 74 = .ok (.iload_n 1, 1) := by decide +kernel
theorem dX8_join_75 : decode cX8_join 75 = .ok (.invokevirtual 133, 3) := by decide +kernel
theorem dX8_join_78 : decode cX8_join 78 = .ok (.ifCond .ne 21, 3) := by decide +kernel
theorem dX8_join_81 : decode cX8_join 81 = .ok (.iload 4, 2) := by decide +kernel
theorem dX8_join_83 : decode cX8_join 83 = .ok (.iload_n 3, 1) := by decide +kernel
theorem dX8_join_84 : decode cX8_join 84 = .ok (.if_icmp .ge 19, 3) := by decide +kernel
theorem dX8_join_87 : decode cX8_join 87 = .ok (.aload_n 0, 1) := by decide +kernel
theorem dX8_join_88 : decode cX8_join 88 = .ok (.iload_n 3, 1) := by decide +kernel
theorem dX8_join_89 : decode cX8_join 89 = .ok (.iload 4, 2) := by decide +kernel
theorem dX8_join_91 : decode cX8_join 91 = .ok (.iload_n 2, 1) := by decide +kernel
theorem dX8_join_92 : decode cX8_join 92 = .ok (.iload_n 1, 1) := by decide +kernel
theorem dX8_join_93 : decode cX8_join 93 = .ok (.invokevirtual 133, 3) := by decide +kernel
theorem dX8_join_96 : decode cX8_join 96 = .ok (.ifCond .ne 7, 3) := by decide +kernel
theorem dX8_join_99 : decode cX8_join 99 = .ok (.iconst 1, 1) := by decide +kernel
theorem dX8_join_100 : decode cX8_join 100 = .ok (.goto 4, 3) := by decide +kernel
theorem dX8_join_103 : decode cX8_join 103 = .ok (.iconst 0, 1) := by decide +kernel
theorem dX8_join_104 : decode cX8_join 104 = .ok (.istore 6, 2) := by decide +kernel
theorem dX8_join_106 : decode cX8_join 106 = .ok (.iload 6, 2) := by decide +kernel
theorem dX8_join_108 : decode cX8_join 108 = .ok (.ifCond .eq 8, 3) := by decide +kernel
theorem dX8_join_111 : decode cX8_join 111 = .ok (.iload 4, 2) := by decide +kernel
theorem dX8_join_113 : decode cX8_join 113 = .ok (.goto 4, 3) := by decide +kernel
theorem dX8_join_116 : decode cX8_join 116 = .ok (.iload_n 3, 1) := by decide +kernel
theorem dX8_join_117 : decode cX8_join 117 = .ok (.istore_n 3, 1) := by decide +kernel
theorem dX8_join_118 : decode cX8_join 118 = .ok (.iinc 4 1, 3) := by decide +kernel
theorem dX8_join_121 : decode cX8_join 121 = .ok (.goto (-96), 3) := by decide +kernel
theorem dX8_join_124 : decode cX8_join 124 = .ok (.aload_n 0, 1) := by decide +kernel
theorem dX8_join_125 : decode cX8_join 125 = .ok (.getfield 34, 3) := by decide +kernel
theorem dX8_join_128 : decode cX8_join 128 = .ok (.iload_n 2, 1) := by decide +kernel
theorem dX8_join_129 : decode cX8_join 129 = .ok (.iload_n 3, 1) := by decide +kernel
theorem dX8_join_130 : decode cX8_join 130 = .ok (.iastore, 1) := by decide +kernel
theorem dX8_join_131 : decode cX8_join 131 = .ok (.aload_n 0, 1) := by decide +kernel
theorem dX8_join_132 : decode cX8_join 132 = .ok (.getfield 37, 3) := by decide +kernel
theorem dX8_join_135 : decode cX8_join 135 = .ok (.iload_n 2, 1) := by decide +kernel
theorem dX8_join_136 : decode cX8_join 136 = .ok (.iload_n 1, 1) := by decide +kernel
theorem dX8_join_137 : decode cX8_join 137 = .ok (.aload_n 0, 1) := by decide +kernel
theorem dX8_join_138 : decode cX8_join 138 = .ok (.getfield 28, 3) := by decide +kernel
theorem dX8_join_141 : decode cX8_join 141 = .ok (.iload_n 3, 1) := by decide +kernel
theorem dX8_join_142 : decode cX8_join 142 = .ok (.iaload, 1) := by decide +kernel
theorem dX8_join_143 : decode cX8_join 143 = .ok (.isub, 1) := by decide +kernel
theorem dX8_join_144 : decode cX8_join 144 = .ok (.aload_n 0, 1) := by decide +kernel
theorem dX8_join_145 : decode cX8_join 145 = .ok (.getfield 25, 3) := by decide +kernel
theorem dX8_join_148 : decode cX8_join 148 = .ok (.bipush 16, 2) := by decide +kernel
theorem dX8_join_150 : decode cX8_join 150 = .ok (.iload_n 3, 1) := by decide +kernel
theorem dX8_join_151 : decode cX8_join 151 = .ok (.imul, 1) := by decide +kernel
theorem dX8_join_152 : decode cX8_join 152 = .ok (.iload_n 2, 1) := by decide +kernel
theorem dX8_join_153 : decode cX8_join 153 = .ok (.iadd, 1) := by decide +kernel
theorem dX8_join_154 : decode cX8_join 154 = .ok (.iaload, 1) := by decide +kernel
theorem dX8_join_155 : decode cX8_join 155 = .ok (.iadd, 1) := by decide +kernel
theorem dX8_join_156 : decode cX8_join 156 = .ok (.iastore, 1) := by decide +kernel
theorem dX8_join_157 : decode cX8_join 157 = .ok (.iinc 2 1, 3) := by decide +kernel
theorem dX8_join_160 : decode cX8_join 160 = .ok (.goto (-148), 3) := by decide +kernel
theorem dX8_join_163 : decode cX8_join 163 = .ok (.iconst 0, 1) := by decide +kernel
theorem dX8_join_164 : decode cX8_join 164 = .ok (.istore_n 2, 1) := by decide +kernel
theorem dX8_join_165 : decode cX8_join 165 = .ok (.iload_n 2, 1) := by decide +kernel
theorem dX8_join_166 : decode cX8_join 166 = .ok (.aload_n 0, 1) := by decide +kernel
theorem dX8_join_167 : decode cX8_join 167 = .ok (.getfield 57, 3) := by decide +kernel
theorem dX8_join_170 : decode cX8_join 170 = .ok (.if_icmp .ge 87, 3) := by decide +kernel
theorem dX8_join_173 : decode cX8_join 173 = .ok (.iconst 0, 1) := by decide +kernel
theorem dX8_join_174 : decode cX8_join 174 = .ok (.istore_n 3, 1) := by decide +kernel
theorem dX8_join_175 : decode cX8_join 175 = .ok (.iconst 0, 1) := by decide +kernel
theorem dX8_join_176 : decode cX8_join 176 = .ok (.istore 4, 2) := by decide +kernel
theorem dX8_join_178 : decode cX8_join 178 = .ok (.iload 4, 2) := by decide +kernel
theorem dX8_join_180 : decode cX8_join 180 = .ok (.aload_n 0, 1) := by decide +kernel
theorem dX8_join_181 : decode cX8_join 181 = .ok (.getfield 57, 3) := by decide +kernel
theorem dX8_join_184 : decode cX8_join 184 = .ok (.if_icmp .ge 30, 3) := by decide +kernel
theorem dX8_join_187 : decode cX8_join 187 = .ok (.iload_n 3, 1) := by decide +kernel
theorem dX8_join_188 : decode cX8_join 188 = .ok (.ifCond .ne 14, 3) := by decide +kernel
theorem dX8_join_191 : decode cX8_join 191 = .ok (.aload_n 0, 1) := by decide +kernel
theorem dX8_join_192 : decode cX8_join 192 = .ok (.getfield 34, 3) := by decide +kernel
theorem dX8_join_195 : decode cX8_join 195 = .ok (.iload 4, 2) := by decide +kernel
theorem dX8_join_197 : decode cX8_join 197 = .ok (.iaload, 1) := by decide +kernel
theorem dX8_join_198 : decode cX8_join 198 = .ok (.iload_n 2, 1) := by decide +kernel
theorem dX8_join_199 : decode cX8_join 199 = .ok (.if_icmp .ne 7, 3) := by decide +kernel
theorem dX8_join_202 : decode cX8_join 202 = .ok (.iconst 1, 1) := by decide +kernel
theorem dX8_join_203 : decode cX8_join 203 = .ok (.goto 4, 3) := by decide +kernel
theorem dX8_join_206 : decode cX8_join 206 = .ok (.iconst 0, 1) := by decide +kernel
theorem dX8_join_207 : decode cX8_join 207 = .ok (.istore_n 3, 1) := by decide +kernel
theorem dX8_join_208 : decode cX8_join 208 = .ok (.iinc 4 1, 3) := by decide +kernel
theorem dX8_join_211 : decode cX8_join 211 = .ok (.goto (-33), 3) := by decide +kernel
theorem dX8_join_214 : decode cX8_join 214 = .ok (.aload_n 0, 1) := by decide +kernel
theorem dX8_join_215 : decode cX8_join 215 = .ok (.getfield 40, 3) := by decide +kernel
theorem dX8_join_218 : decode cX8_join 218 = .ok (.iload_n 2, 1) := by decide +kernel
theorem dX8_join_219 : decode cX8_join 219 = .ok (.iload_n 3, 1) := by decide +kernel
theorem dX8_join_220 : decode cX8_join 220 = .ok (.ifCond .eq 10, 3) := by decide +kernel
theorem dX8_join_223 : decode cX8_join 223 = .ok (.aload_n 0, 1) := by decide +kernel
theorem dX8_join_224 : decode cX8_join 224 = .ok (.getfield 130, 3) := by decide +kernel
theorem dX8_join_227 : decode cX8_join 227 = .ok (.goto 5, 3) := by decide +kernel
theorem dX8_join_230 : decode cX8_join 230 = .ok (.bipush (-4), 2) := by decide +kernel
theorem dX8_join_232 : decode cX8_join 232 = .ok (.iastore, 1) := by decide +kernel
theorem dX8_join_233 : decode cX8_join 233 = .ok (.aload_n 0, 1) := by decide +kernel
theorem dX8_join_234 : decode cX8_join 234 = .ok (.dup, 1) := by decide +kernel
theorem dX8_join_235 : decode cX8_join 235 = .ok (.getfield 130, 3) := by decide +kernel
theorem dX8_join_238 : decode cX8_join 238 = .ok (.iload_n 3, 1) := by decide +kernel
theorem dX8_join_239 : decode cX8_join 239 = .ok (.ifCond .eq 7, 3) := by decide +kernel
theorem dX8_join_242 : decode cX8_join 242 = .ok (.iconst 1, 1) := by decide +kernel
theorem dX8_join_243 : decode cX8_join 243 = .ok (.goto 4, 3) := by decide +kernel
theorem dX8_join_246 : decode cX8_join 246 = .ok (.iconst 0, 1) := by decide +kernel
theorem dX8_join_247 : decode cX8_join 247 = .ok (.iadd, 1) := by decide +kernel
theorem dX8_join_248 : decode cX8_join 248 = .ok (.putfield 130, 3) := by decide +kernel
theorem dX8_join_251 : decode cX8_join 251 = .ok (.iinc 2 1, 3) := by decide +kernel
theorem dX8_join_254 : decode cX8_join 254 = .ok (.goto (-89), 3) := by decide +kernel
theorem dX8_join_257 : decode cX8_join 257 = .ok (.return_, 1) := by decide +kernel
set_option maxRecDepth 20000 in
theorem ggX8_settles_X8_ways : GoodIn wsX8_settles wsX8_ways := goodIn_r _ [9, 1, 2, 10, 11, 41, 42, 43, 44, 45, 46, 47, 48, 49, 50, 51, 52, 53, 54, 55, 56, 57, 58, 59, 60] (by decide +kernel) (by decide +kernel)
set_option maxRecDepth 20000 in
theorem gX8_settles_X8_ways : GoodIn wsX8_settles (wsV RX8 137 RX8 yX8_ways wsX8_ways) := goodIn_app (goodIn_of _ (by decide +kernel)) ggX8_settles_X8_ways
set_option maxRecDepth 20000 in
theorem ggX8_settles_X8_drawnDelay : GoodIn wsX8_settles wsX8_drawnDelay := goodIn_r _ [15, 16, 17, 18, 19, 8, 20, 21, 22, 23, 24, 41, 42, 43, 44, 45, 46, 47, 48, 49, 50, 51, 52, 53, 54, 55, 56, 57, 58, 59, 60] (by decide +kernel) (by decide +kernel)
set_option maxRecDepth 20000 in
theorem gX8_settles_X8_drawnDelay : GoodIn wsX8_settles (wsV RX8 140 RX8 yX8_drawnDelay wsX8_drawnDelay) := goodIn_app (goodIn_of _ (by decide +kernel)) ggX8_settles_X8_drawnDelay
set_option maxRecDepth 20000 in
theorem ggX8_settles_X8_drawOf : GoodIn wsX8_settles wsX8_drawOf := goodIn_r _ [20, 21, 22, 23, 24] (by decide +kernel) (by decide +kernel)
set_option maxRecDepth 20000 in
theorem gX8_settles_X8_drawOf : GoodIn wsX8_settles (va_wsS RX8 122 yX8_drawOf wsX8_drawOf) := goodIn_app (goodIn_of _ (by decide +kernel)) ggX8_settles_X8_drawOf
set_option maxRecDepth 20000 in
theorem ggX8_settles_X8_join : GoodIn wsX8_settles wsX8_join := goodIn_r _ [28, 29, 1, 10, 11, 30, 31, 3, 32, 33, 34, 35, 8, 36, 37, 38, 39, 40, 4, 41, 42, 43, 44, 45, 46, 47, 48, 49, 50, 51, 52, 53, 54, 55, 56, 57, 58, 59, 60] (by decide +kernel) (by decide +kernel)
set_option maxRecDepth 20000 in
theorem gX8_settles_X8_join : GoodIn wsX8_settles (wsV RX8 144 RX8 yX8_join wsX8_join) := goodIn_app (goodIn_of _ (by decide +kernel)) ggX8_settles_X8_join
theorem dX8_settles_0 : decode cX8_settles 0 = .ok (.aload_n 0, 1) := by decide +kernel
theorem dX8_settles_1 : decode cX8_settles 1 = .ok (.invokevirtual 137, 3) := by decide +kernel
theorem dX8_settles_4 : decode cX8_settles 4 = .ok (.iconst 0, 1) := by decide +kernel
theorem dX8_settles_5 : decode cX8_settles 5 = .ok (.istore_n 2, 1) := by decide +kernel
theorem dX8_settles_6 : decode cX8_settles 6 = .ok (.iload_n 2, 1) := by decide +kernel
theorem dX8_settles_7 : decode cX8_settles 7 = .ok (.aload_n 0, 1) := by decide +kernel
theorem dX8_settles_8 : decode cX8_settles 8 = .ok (.getfield 57, 3) := by decide +kernel
theorem dX8_settles_11 : decode cX8_settles 11 = .ok (.if_icmp .ge 93, 3) := by decide +kernel
theorem dX8_settles_14 : decode cX8_settles 14 = .ok (.aload_n 0, 1) := by decide +kernel
theorem dX8_settles_15 : decode cX8_settles 15 = .ok (.getfield 13, 3) := by decide +kernel
theorem dX8_settles_18 : decode cX8_settles 18 = .ok (.sipush 256, 3) := by decide +kernel
theorem dX8_settles_21 : decode cX8_settles 21 = .ok (.iload_n 2, 1) := by decide +kernel
theorem dX8_settles_22 : decode cX8_settles 22 = .ok (.iadd, 1) := by decide +kernel
theorem dX8_settles_23 : decode cX8_settles 23 = .ok (.iaload, 1) := by decide +kernel
theorem dX8_settles_24 : decode cX8_settles 24 = .ok (.ifCond .le 7, 3) := by decide +kernel
theorem dX8_settles_27 : decode cX8_settles 27 = .ok (.iconst 1, 1) := by decide +kernel
theorem dX8_settles_28 : decode cX8_settles 28 = .ok (.goto 4, 3) := by decide +kernel
theorem dX8_settles_31 : decode cX8_settles 31 = .ok (.iconst 0, 1) := by decide +kernel
theorem dX8_settles_32 : decode cX8_settles 32 = .ok (.istore_n 3, 1) := by decide +kernel
theorem dX8_settles_33 : decode cX8_settles 33 = .ok (.aload_n 0, 1) := by decide +kernel
theorem dX8_settles_34 : decode cX8_settles 34 = .ok (.getfield 28, 3) := by decide +kernel
theorem dX8_settles_37 : decode cX8_settles 37 = .ok (.iload_n 2, 1) := by decide +kernel
theorem dX8_settles_38 : decode cX8_settles 38 = .ok (.iload_n 3, 1) := by decide +kernel
theorem dX8_settles_39 : decode cX8_settles 39 = .ok (.ifCond .eq 18, 3) := by decide +kernel
theorem dX8_settles_42 : decode cX8_settles 42 = .ok (.aload_n 0, 1) := by decide +kernel
theorem dX8_settles_43 : decode cX8_settles 43 = .ok (.getfield 13, 3) := by decide +kernel
theorem dX8_settles_46 : decode cX8_settles 46 = .ok (.sipush 256, 3) := by decide +kernel
theorem dX8_settles_49 : decode cX8_settles 49 = .ok (.iload_n 2, 1) := by decide +kernel
theorem dX8_settles_50 : decode cX8_settles 50 = .ok (.iadd, 1) := by decide +kernel
theorem dX8_settles_51 : decode cX8_settles 51 = .ok (.iaload, 1) := by decide +kernel
theorem dX8_settles_52 : decode cX8_settles 52 = .ok (.iconst 1, 1) := by decide +kernel
theorem dX8_settles_53 : decode cX8_settles 53 = .ok (.isub, 1) := by decide +kernel
theorem dX8_settles_54 : decode cX8_settles 54 = .ok (.goto 9, 3) := by decide +kernel
theorem dX8_settles_57 : decode cX8_settles 57 = .ok (.aload_n 0, 1) := by decide +kernel
theorem dX8_settles_58 : decode cX8_settles 58 = .ok (.iload_n 1, 1) := by decide +kernel
theorem dX8_settles_59 : decode cX8_settles 59 = .ok (.iload_n 2, 1) := by decide +kernel
theorem dX8_settles_60 : decode cX8_settles 60 = .ok (.invokevirtual 140, 3) := by decide +kernel
theorem dX8_settles_63 : decode cX8_settles 63 = .ok (.iastore, 1) := by decide +kernel
theorem dX8_settles_64 : decode cX8_settles 64 = .ok (.aload_n 0, 1) := by decide +kernel
theorem dX8_settles_65 : decode cX8_settles 65 = .ok (.getfield 31, 3) := by decide +kernel
theorem dX8_settles_68 : decode cX8_settles 68 = .ok (.iload_n 2, 1) := by decide +kernel
theorem dX8_settles_69 : decode cX8_settles 69 = .ok (.iload_n 3, 1) := by decide +kernel
theorem dX8_settles_70 : decode cX8_settles 70 = .ok (.ifCond .eq 16, 3) := by decide +kernel
theorem dX8_settles_73 : decode cX8_settles 73 = .ok (.aload_n 0, 1) := by decide +kernel
theorem dX8_settles_74 : decode cX8_settles 74 = .ok (.getfield 13, 3) := by decide +kernel
theorem dX8_settles_77 : decode cX8_settles 77 = .ok (.sipush 272, 3) := by decide +kernel
theorem dX8_settles_80 : decode cX8_settles 80 = .ok (.iload_n 2, 1) := by decide +kernel
theorem dX8_settles_81 : decode cX8_settles 81 = .ok (.iadd, 1) := by decide +kernel
theorem dX8_settles_82 : decode cX8_settles 82 = .ok (.iaload, 1) := by decide +kernel
theorem dX8_settles_83 : decode cX8_settles 83 = .ok (.goto 14, 3) := by decide +kernel
theorem dX8_settles_86 : decode cX8_settles 86 = .ok (.iload_n 1, 1) := by decide +kernel
theorem dX8_settles_87 : decode cX8_settles 87 = .ok (.iload_n 2, 1) := by decide +kernel
theorem dX8_settles_88 : decode cX8_settles 88 = .ok (.bipush 99, 2) := by decide +kernel
theorem dX8_settles_90 : decode cX8_settles 90 = .ok (.invokestatic 122, 3) := by decide +kernel
theorem dX8_settles_93 : decode cX8_settles 93 = .ok (.sipush 1000, 3) := by decide +kernel
theorem dX8_settles_96 : decode cX8_settles 96 = .ok (.irem, 1) := by decide +kernel
theorem dX8_settles_97 : decode cX8_settles 97 = .ok (.iastore, 1) := by decide +kernel
theorem dX8_settles_98 : decode cX8_settles 98 = .ok (.iinc 2 1, 3) := by decide +kernel
theorem dX8_settles_101 : decode cX8_settles 101 = .ok (.goto (-95), 3) := by decide +kernel
theorem dX8_settles_104 : decode cX8_settles 104 = .ok (.aload_n 0, 1) := by decide +kernel
theorem dX8_settles_105 : decode cX8_settles 105 = .ok (.invokevirtual 144, 3) := by decide +kernel
theorem dX8_settles_108 : decode cX8_settles 108 = .ok (.return_, 1) := by decide +kernel
set_option maxRecDepth 20000 in
theorem ggX8_settle_X8_settles : GoodIn wsX8_settle wsX8_settles := goodIn_r _ [6, 7, 1, 8, 9, 10, 11, 12, 5, 13, 14, 15, 16, 17, 18, 19, 20, 21, 22, 23, 24, 25, 26, 27, 28, 29, 30, 31, 32, 33, 34, 35, 36, 37, 38, 39, 40, 41, 42, 43, 44, 45, 46, 47, 48, 49, 50, 51, 52, 53, 54, 55, 56, 57, 58, 59, 60, 61, 62, 63, 64] (by decide +kernel) (by decide +kernel)
set_option maxRecDepth 20000 in
theorem gX8_settle_X8_settles : GoodIn wsX8_settle (wsV RX8 147 RX8 yX8_settles wsX8_settles) := goodIn_app (goodIn_of _ (by decide +kernel)) ggX8_settle_X8_settles
theorem dX8_settle_0 : decode cX8_settle 0 = .ok (.aload_n 0, 1) := by decide +kernel
theorem dX8_settle_1 : decode cX8_settle 1 = .ok (.aload_n 0, 1) := by decide +kernel
theorem dX8_settle_2 : decode cX8_settle 2 = .ok (.getfield 13, 3) := by decide +kernel
theorem dX8_settle_5 : decode cX8_settle 5 = .ok (.sipush 288, 3) := by decide +kernel
theorem dX8_settle_8 : decode cX8_settle 8 = .ok (.iaload, 1) := by decide +kernel
theorem dX8_settle_9 : decode cX8_settle 9 = .ok (.invokevirtual 147, 3) := by decide +kernel
theorem dX8_settle_12 : decode cX8_settle 12 = .ok (.return_, 1) := by decide +kernel
theorem dX8_depth_0 : decode cX8_depth 0 = .ok (.aload_n 0, 1) := by decide +kernel
theorem dX8_depth_1 : decode cX8_depth 1 = .ok (.getfield 25, 3) := by decide +kernel
theorem dX8_depth_4 : decode cX8_depth 4 = .ok (.bipush 16, 2) := by decide +kernel
theorem dX8_depth_6 : decode cX8_depth 6 = .ok (.aload_n 0, 1) := by decide +kernel
theorem dX8_depth_7 : decode cX8_depth 7 = .ok (.getfield 34, 3) := by decide +kernel
theorem dX8_depth_10 : decode cX8_depth 10 = .ok (.iload_n 1, 1) := by decide +kernel
theorem dX8_depth_11 : decode cX8_depth 11 = .ok (.iaload, 1) := by decide +kernel
theorem dX8_depth_12 : decode cX8_depth 12 = .ok (.imul, 1) := by decide +kernel
theorem dX8_depth_13 : decode cX8_depth 13 = .ok (.iload_n 1, 1) := by decide +kernel
theorem dX8_depth_14 : decode cX8_depth 14 = .ok (.iadd, 1) := by decide +kernel
theorem dX8_depth_15 : decode cX8_depth 15 = .ok (.iaload, 1) := by decide +kernel
theorem dX8_depth_16 : decode cX8_depth 16 = .ok (.ireturn, 1) := by decide +kernel
set_option maxRecDepth 20000 in
theorem ggX8_upOf_X8_depth : GoodIn wsX8_upOf wsX8_depth := goodIn_r _ [8, 9, 2, 10, 11, 12, 13, 14, 15, 16, 17, 18, 19, 20, 21, 22, 23, 24, 25, 26, 27, 28, 29] (by decide +kernel) (by decide +kernel)
set_option maxRecDepth 20000 in
theorem gX8_upOf_X8_depth : GoodIn wsX8_upOf (wsV RX8 151 RX8 yX8_depth wsX8_depth) := goodIn_app (goodIn_of _ (by decide +kernel)) ggX8_upOf_X8_depth
theorem dX8_upOf_0 : decode cX8_upOf 0 = .ok (.iconst 0, 1) := by decide +kernel
theorem dX8_upOf_1 : decode cX8_upOf 1 = .ok (.istore_n 2, 1) := by decide +kernel
theorem dX8_upOf_2 : decode cX8_upOf 2 = .ok (.iload_n 2, 1) := by decide +kernel
theorem dX8_upOf_3 : decode cX8_upOf 3 = .ok (.aload_n 0, 1) := by decide +kernel
theorem dX8_upOf_4 : decode cX8_upOf 4 = .ok (.getfield 57, 3) := by decide +kernel
theorem dX8_upOf_7 : decode cX8_upOf 7 = .ok (.if_icmp .ge 67, 3) := by decide +kernel
theorem dX8_upOf_10 : decode cX8_upOf 10 = .ok (.aload_n 0, 1) := by decide +kernel
theorem dX8_upOf_11 : decode cX8_upOf 11 = .ok (.getfield 34, 3) := by decide +kernel
theorem dX8_upOf_14 : decode cX8_upOf 14 = .ok (.iload_n 1, 1) := by decide +kernel
theorem dX8_upOf_15 : decode cX8_upOf 15 = .ok (.iaload, 1) := by decide +kernel
theorem dX8_upOf_16 : decode cX8_upOf 16 = .ok (.iload_n 1, 1) := by decide +kernel
theorem dX8_upOf_17 : decode cX8_upOf 17 = .ok (.if_icmp .eq 57, 3) := by decide +kernel
theorem dX8_upOf_20 : decode cX8_upOf 20 = .ok (.aload_n 0, 1) := by decide +kernel
theorem dX8_upOf_21 : decode cX8_upOf 21 = .ok (.getfield 13, 3) := by decide +kernel
theorem dX8_upOf_24 : decode cX8_upOf 24 = .ok (.bipush 16, 2) := by decide +kernel
theorem dX8_upOf_26 : decode cX8_upOf 26 = .ok (.iload_n 2, 1) := by decide +kernel
theorem dX8_upOf_27 : decode cX8_upOf 27 = .ok (.imul, 1) := by decide +kernel
theorem dX8_upOf_28 : decode cX8_upOf 28 = .ok (.iload_n 1, 1) := by decide +kernel
theorem dX8_upOf_29 : decode cX8_upOf 29 = .ok (.iadd, 1) := by decide +kernel
theorem dX8_upOf_30 : decode cX8_upOf 30 = .ok (.iaload, 1) := by decide +kernel
theorem dX8_upOf_31 : decode cX8_upOf 31 = .ok (.istore_n 3, 1) := by decide +kernel
theorem dX8_upOf_32 : decode cX8_upOf 32 = .ok (.iload_n 3, 1) := by decide +kernel
theorem dX8_upOf_33 : decode cX8_upOf 33 = .ok (.ifCond .le 35, 3) := by decide +kernel
theorem dX8_upOf_36 : decode cX8_upOf 36 = .ok (.aload_n 0, 1) := by decide +kernel
theorem dX8_upOf_37 : decode cX8_upOf 37 = .ok (.getfield 34, 3) := by decide +kernel
theorem dX8_upOf_40 : decode cX8_upOf 40 = .ok (.iload_n 2, 1) := by decide +kernel
theorem dX8_upOf_41 : decode cX8_upOf 41 = .ok (.iaload, 1) := by decide +kernel
theorem dX8_upOf_42 : decode cX8_upOf 42 = .ok (.aload_n 0, 1) := by decide +kernel
theorem dX8_upOf_43 : decode cX8_upOf 43 = .ok (.getfield 34, 3) := by decide +kernel
theorem dX8_upOf_46 : decode cX8_upOf 46 = .ok (.iload_n 1, 1) := by decide +kernel
theorem dX8_upOf_47 : decode cX8_upOf 47 = .ok (.iaload, 1) := by decide +kernel
theorem dX8_upOf_48 : decode cX8_upOf 48 = .ok (.if_icmp .ne 20, 3) := by decide +kernel
theorem dX8_upOf_51 : decode cX8_upOf 51 = .ok (.aload_n 0, 1) := by decide +kernel
theorem dX8_upOf_52 : decode cX8_upOf 52 = .ok (.iload_n 2, 1) := by decide +kernel
theorem dX8_upOf_53 : decode cX8_upOf 53 = .ok (.invokevirtual 151, 3) := by decide +kernel
theorem dX8_upOf_56 : decode cX8_upOf 56 = .ok (.iload_n 3, 1) := by decide +kernel
theorem dX8_upOf_57 : decode cX8_upOf 57 = .ok (.iadd, 1) := by decide +kernel
theorem dX8_upOf_58 : decode cX8_upOf 58 = .ok (.aload_n 0, 1) := by decide +kernel
theorem dX8_upOf_59 : decode cX8_upOf 59 = .ok (.iload_n 1, 1) := by decide +kernel
theorem dX8_upOf_60 : decode cX8_upOf 60 = .ok (.invokevirtual 151, 3) := by decide +kernel
theorem dX8_upOf_63 : decode cX8_upOf 63 = .ok (.if_icmp .ne 5, 3) := by decide +kernel
theorem dX8_upOf_66 : decode cX8_upOf 66 = .ok (.iload_n 2, 1) := by decide +kernel
theorem dX8_upOf_67 : decode cX8_upOf 67 = .ok (.ireturn, 1) := by decide +kernel
theorem dX8_upOf_68 : decode cX8_upOf 68 = .ok (.iinc 2 1, 3) := by decide +kernel
theorem dX8_upOf_71 : decode cX8_upOf 71 = .ok (.goto (-69), 3) := by decide +kernel
theorem dX8_upOf_74 : decode cX8_upOf 74 = .ok (.bipush (-4), 2) := by decide +kernel
theorem dX8_upOf_76 : decode cX8_upOf 76 = .ok (.ireturn, 1) := by decide +kernel
set_option maxRecDepth 20000 in
theorem ggX8_sortOf_X8_upOf : GoodIn wsX8_sortOf wsX8_upOf := goodIn_r _ [6, 7, 1, 8, 9, 10, 11, 5, 12, 13, 14, 15, 16, 17, 18, 19, 20, 21, 22, 23, 24, 25, 26, 27, 28, 29, 30, 31, 32, 33] (by decide +kernel) (by decide +kernel)
set_option maxRecDepth 20000 in
theorem gX8_sortOf_X8_upOf : GoodIn wsX8_sortOf (wsV RX8 154 RX8 yX8_upOf wsX8_upOf) := goodIn_app (goodIn_of _ (by decide +kernel)) ggX8_sortOf_X8_upOf
theorem dX8_sortOf_0 : decode cX8_sortOf 0 = .ok (.aload_n 0, 1) := by decide +kernel
theorem dX8_sortOf_1 : decode cX8_sortOf 1 = .ok (.getfield 34, 3) := by decide +kernel
theorem dX8_sortOf_4 : decode cX8_sortOf 4 = .ok (.iload_n 1, 1) := by decide +kernel
theorem dX8_sortOf_5 : decode cX8_sortOf 5 = .ok (.iaload, 1) := by decide +kernel
theorem dX8_sortOf_6 : decode cX8_sortOf 6 = .ok (.aload_n 0, 1) := by decide +kernel
theorem dX8_sortOf_7 : decode cX8_sortOf 7 = .ok (.getfield 34, 3) := by decide +kernel
theorem dX8_sortOf_10 : decode cX8_sortOf 10 = .ok (.iload_n 2, 1) := by decide +kernel
theorem dX8_sortOf_11 : decode cX8_sortOf 11 = .ok (.iaload, 1) := by decide +kernel
theorem dX8_sortOf_12 : decode cX8_sortOf 12 = .ok (.if_icmp .eq 7, 3) := by decide +kernel
theorem dX8_sortOf_15 : decode cX8_sortOf 15 = .ok (.iconst 2, 1) := by decide +kernel
theorem dX8_sortOf_16 : decode cX8_sortOf 16 = .ok (.goto 26, 3) := by decide +kernel
theorem dX8_sortOf_19 : decode cX8_sortOf 19 = .ok (.aload_n 0, 1) := by decide +kernel
theorem dX8_sortOf_20 : decode cX8_sortOf 20 = .ok (.iload_n 1, 1) := by decide +kernel
theorem dX8_sortOf_21 : decode cX8_sortOf 21 = .ok (.invokevirtual 154, 3) := by decide +kernel
theorem dX8_sortOf_24 : decode cX8_sortOf 24 = .ok (.iload_n 2, 1) := by decide +kernel
theorem dX8_sortOf_25 : decode cX8_sortOf 25 = .ok (.if_icmp .eq 12, 3) := by decide +kernel
theorem dX8_sortOf_28 : decode cX8_sortOf 28 = .ok (.aload_n 0, 1) := by decide +kernel
theorem dX8_sortOf_29 : decode cX8_sortOf 29 = .ok (.iload_n 2, 1) := by decide +kernel
theorem dX8_sortOf_30 : decode cX8_sortOf 30 = .ok (.invokevirtual 154, 3) := by decide +kernel
theorem dX8_sortOf_33 : decode cX8_sortOf 33 = .ok (.iload_n 1, 1) := by decide +kernel
theorem dX8_sortOf_34 : decode cX8_sortOf 34 = .ok (.if_icmp .ne 7, 3) := by decide +kernel
theorem dX8_sortOf_37 : decode cX8_sortOf 37 = .ok (.iconst 0, 1) := by decide +kernel
theorem dX8_sortOf_38 : decode cX8_sortOf 38 = .ok (.goto 4, 3) := by decide +kernel
theorem dX8_sortOf_41 : decode cX8_sortOf 41 = .ok (.iconst 1, 1) := by decide +kernel
theorem dX8_sortOf_42 : decode cX8_sortOf 42 = .ok (.ireturn, 1) := by decide +kernel
set_option maxRecDepth 20000 in
theorem ggX8_links_X8_sortOf : GoodIn wsX8_links wsX8_sortOf := goodIn_r _ [7, 8, 9, 10, 11, 6, 12, 1, 2, 13, 14, 15, 16, 17, 18, 19, 20, 21, 22, 23, 24, 25, 26, 27, 28, 29, 30, 31, 32, 33, 34, 35, 36, 37] (by decide +kernel) (by decide +kernel)
set_option maxRecDepth 20000 in
theorem gX8_links_X8_sortOf : GoodIn wsX8_links (wsV RX8 157 RX8 yX8_sortOf wsX8_sortOf) := goodIn_app (goodIn_of _ (by decide +kernel)) ggX8_links_X8_sortOf
theorem dX8_links_0 : decode cX8_links 0 = .ok (.iconst 0, 1) := by decide +kernel
theorem dX8_links_1 : decode cX8_links 1 = .ok (.istore_n 2, 1) := by decide +kernel
theorem dX8_links_2 : decode cX8_links 2 = .ok (.iconst 0, 1) := by decide +kernel
theorem dX8_links_3 : decode cX8_links 3 = .ok (.istore_n 3, 1) := by decide +kernel
theorem dX8_links_4 : decode cX8_links 4 = .ok (.iload_n 3, 1) := by decide +kernel
theorem dX8_links_5 : decode cX8_links 5 = .ok (.aload_n 0, 1) := by decide +kernel
theorem dX8_links_6 : decode cX8_links 6 = .ok (.getfield 57, 3) := by decide +kernel
theorem dX8_links_9 : decode cX8_links 9 = .ok (.if_icmp .ge 58, 3) := by decide +kernel
theorem dX8_links_12 : decode cX8_links 12 = .ok (.iconst 0, 1) := by decide +kernel
theorem dX8_links_13 : decode cX8_links 13 = .ok (.istore 4, 2) := by decide +kernel
theorem dX8_links_15 : decode cX8_links 15 = .ok (.iload 4, 2) := by decide +kernel
theorem dX8_links_17 : decode cX8_links 17 = .ok (.iload_n 3, 1) := by decide +kernel
theorem dX8_links_18 : decode cX8_links 18 = .ok (.if_icmp .ge 43, 3) := by decide +kernel
theorem dX8_links_21 : decode cX8_links 21 = .ok (.iload_n 2, 1) := by decide +kernel
theorem dX8_links_22 : decode cX8_links 22 = .ok (.aload_n 0, 1) := by decide +kernel
theorem dX8_links_23 : decode cX8_links 23 = .ok (.getfield 13, 3) := by decide +kernel
theorem dX8_links_26 : decode cX8_links 26 = .ok (.bipush 16, 2) := by decide +kernel
theorem dX8_links_28 : decode cX8_links 28 = .ok (.iload_n 3, 1) := by decide +kernel
theorem dX8_links_29 : decode cX8_links 29 = .ok (.imul, 1) := by decide +kernel
theorem dX8_links_30 : decode cX8_links 30 = .ok (.iload 4, 2) := by decide +kernel
theorem dX8_links_32 : decode cX8_links 32 = .ok (.iadd, 1) := by decide +kernel
theorem dX8_links_33 : decode cX8_links 33 = .ok (.iaload, 1) := by decide +kernel
theorem dX8_links_34 : decode cX8_links 34 = .ok (.ifCond .le 18, 3) := by decide +kernel
theorem dX8_links_37 : decode cX8_links 37 = .ok (.aload_n 0, 1) := by decide +kernel
theorem dX8_links_38 : decode cX8_links 38 = .ok (.iload_n 3, 1) := by decide +kernel
theorem dX8_links_39 : decode cX8_links 39 = .ok (.iload 4, 2) := by decide +kernel
theorem dX8_links_41 : decode cX8_links 41 = .ok (.invokevirtual 157, 3) := by decide +kernel
theorem dX8_links_44 : decode cX8_links 44 = .ok (.iload_n 1, 1) := by decide +kernel
theorem dX8_links_45 : decode cX8_links 45 = .ok (.if_icmp .ne 7, 3) := by decide +kernel
theorem dX8_links_48 : decode cX8_links 48 = .ok (.iconst 1, 1) := by decide +kernel
theorem dX8_links_49 : decode cX8_links 49 = .ok (.goto 4, 3) := by decide +kernel
theorem dX8_links_52 : decode cX8_links 52 = .ok (.iconst 0, 1) := by decide +kernel
theorem dX8_links_53 : decode cX8_links 53 = .ok (.iadd, 1) := by decide +kernel
theorem dX8_links_54 : decode cX8_links 54 = .ok (.istore_n 2, 1) := by decide +kernel
theorem dX8_links_55 : decode cX8_links 55 = .ok (.iinc 4 1, 3) := by decide +kernel
theorem dX8_links_58 : decode cX8_links 58 = .ok (.goto (-43), 3) := by decide +kernel
theorem dX8_links_61 : decode cX8_links 61 = .ok (.iinc 3 1, 3) := by decide +kernel
theorem dX8_links_64 : decode cX8_links 64 = .ok (.goto (-60), 3) := by decide +kernel
theorem dX8_links_67 : decode cX8_links 67 = .ok (.iload_n 2, 1) := by decide +kernel
theorem dX8_links_68 : decode cX8_links 68 = .ok (.ireturn, 1) := by decide +kernel
set_option maxRecDepth 20000 in
theorem ggX8_wide_X8_depth : GoodIn wsX8_wide wsX8_depth := goodIn_r _ [7, 8, 2, 9, 10, 11, 12, 13, 14, 15, 16, 17, 18, 19, 20, 21, 22, 23, 24, 25, 26, 27, 28] (by decide +kernel) (by decide +kernel)
set_option maxRecDepth 20000 in
theorem gX8_wide_X8_depth : GoodIn wsX8_wide (wsV RX8 151 RX8 yX8_depth wsX8_depth) := goodIn_app (goodIn_of _ (by decide +kernel)) ggX8_wide_X8_depth
theorem dX8_wide_0 : decode cX8_wide 0 = .ok (.iconst 0, 1) := by decide +kernel
theorem dX8_wide_1 : decode cX8_wide 1 = .ok (.istore_n 2, 1) := by decide +kernel
theorem dX8_wide_2 : decode cX8_wide 2 = .ok (.iconst 0, 1) := by decide +kernel
theorem dX8_wide_3 : decode cX8_wide 3 = .ok (.istore_n 3, 1) := by decide +kernel
theorem dX8_wide_4 : decode cX8_wide 4 = .ok (.iload_n 3, 1) := by decide +kernel
theorem dX8_wide_5 : decode cX8_wide 5 = .ok (.aload_n 0, 1) := by decide +kernel
theorem dX8_wide_6 : decode cX8_wide 6 = .ok (.getfield 57, 3) := by decide +kernel
theorem dX8_wide_9 : decode cX8_wide 9 = .ok (.if_icmp .ge 44, 3) := by decide +kernel
theorem dX8_wide_12 : decode cX8_wide 12 = .ok (.iload_n 1, 1) := by decide +kernel
theorem dX8_wide_13 : decode cX8_wide 13 = .ok (.bipush (-4), 2) := by decide +kernel
theorem dX8_wide_15 : decode cX8_wide 15 = .ok (.if_icmp .eq 13, 3) := by decide +kernel
theorem dX8_wide_18 : decode cX8_wide 18 = .ok (.aload_n 0, 1) := by decide +kernel
theorem dX8_wide_19 : decode cX8_wide 19 = .ok (.getfield 34, 3) := by decide +kernel
theorem dX8_wide_22 : decode cX8_wide 22 = .ok (.iload_n 3, 1) := by decide +kernel
theorem dX8_wide_23 : decode cX8_wide 23 = .ok (.iaload, 1) := by decide +kernel
theorem dX8_wide_24 : decode cX8_wide 24 = .ok (.iload_n 1, 1) := by decide +kernel
theorem dX8_wide_25 : decode cX8_wide 25 = .ok (.if_icmp .ne 20, 3) := by decide +kernel
theorem dX8_wide_28 : decode cX8_wide 28 = .ok (.aload_n 0, 1) := by decide +kernel
theorem dX8_wide_29 : decode cX8_wide 29 = .ok (.iload_n 3, 1) := by decide +kernel
theorem dX8_wide_30 : decode cX8_wide 30 = .ok (.invokevirtual 151, 3) := by decide +kernel
theorem dX8_wide_33 : decode cX8_wide 33 = .ok (.iload_n 2, 1) := by decide +kernel
theorem dX8_wide_34 : decode cX8_wide 34 = .ok (.if_icmp .le 11, 3) := by decide +kernel
theorem dX8_wide_37 : decode cX8_wide 37 = .ok (.aload_n 0, 1) := by decide +kernel
theorem dX8_wide_38 : decode cX8_wide 38 = .ok (.iload_n 3, 1) := by decide +kernel
theorem dX8_wide_39 : decode cX8_wide 39 = .ok (.invokevirtual 151, 3) := by decide +kernel
theorem dX8_wide_42 : decode cX8_wide 42 = .ok (.goto 4, 3) := by decide +kernel
theorem dX8_wide_45 : decode cX8_wide 45 = .ok (.iload_n 2, 1) := by decide +kernel
theorem dX8_wide_46 : decode cX8_wide 46 = .ok (.istore_n 2, 1) := by decide +kernel
theorem dX8_wide_47 : decode cX8_wide 47 = .ok (.iinc 3 1, 3) := by decide +kernel
theorem dX8_wide_50 : decode cX8_wide 50 = .ok (.goto (-46), 3) := by decide +kernel
theorem dX8_wide_53 : decode cX8_wide 53 = .ok (.iload_n 2, 1) := by decide +kernel
theorem dX8_wide_54 : decode cX8_wide 54 = .ok (.ireturn, 1) := by decide +kernel
theorem dX8_lastHour_0 : decode cX8_lastHour 0 = .ok (.iconst 0, 1) := by decide +kernel
theorem dX8_lastHour_1 : decode cX8_lastHour 1 = .ok (.istore_n 1, 1) := by decide +kernel
theorem dX8_lastHour_2 : decode cX8_lastHour 2 = .ok (.iconst 0, 1) := by decide +kernel
theorem dX8_lastHour_3 : decode cX8_lastHour 3 = .ok (.istore_n 2, 1) := by decide +kernel
theorem dX8_lastHour_4 : decode cX8_lastHour 4 = .ok (.iload_n 2, 1) := by decide +kernel
theorem dX8_lastHour_5 : decode cX8_lastHour 5 = .ok (.aload_n 0, 1) := by decide +kernel
theorem dX8_lastHour_6 : decode cX8_lastHour 6 = .ok (.getfield 57, 3) := by decide +kernel
theorem dX8_lastHour_9 : decode cX8_lastHour 9 = .ok (.if_icmp .ge 30, 3) := by decide +kernel
theorem dX8_lastHour_12 : decode cX8_lastHour 12 = .ok (.aload_n 0, 1) := by decide +kernel
theorem dX8_lastHour_13 : decode cX8_lastHour 13 = .ok (.getfield 37, 3) := by decide +kernel
theorem dX8_lastHour_16 : decode cX8_lastHour 16 = .ok (.iload_n 2, 1) := by decide +kernel
theorem dX8_lastHour_17 : decode cX8_lastHour 17 = .ok (.iaload, 1) := by decide +kernel
theorem dX8_lastHour_18 : decode cX8_lastHour 18 = .ok (.iload_n 1, 1) := by decide +kernel
theorem dX8_lastHour_19 : decode cX8_lastHour 19 = .ok (.if_icmp .le 12, 3) := by decide +kernel
theorem dX8_lastHour_22 : decode cX8_lastHour 22 = .ok (.aload_n 0, 1) := by decide +kernel
theorem dX8_lastHour_23 : decode cX8_lastHour 23 = .ok (.getfield 37, 3) := by decide +kernel
theorem dX8_lastHour_26 : decode cX8_lastHour 26 = .ok (.iload_n 2, 1) := by decide +kernel
theorem dX8_lastHour_27 : decode cX8_lastHour 27 = .ok (.iaload, 1) := by decide +kernel
theorem dX8_lastHour_28 : decode cX8_lastHour 28 = .ok (.goto 4, 3) := by decide +kernel
theorem dX8_lastHour_31 : decode cX8_lastHour 31 = .ok (.iload_n 1, 1) := by decide +kernel
theorem dX8_lastHour_32 : decode cX8_lastHour 32 = .ok (.istore_n 1, 1) := by decide +kernel
theorem dX8_lastHour_33 : decode cX8_lastHour 33 = .ok (.iinc 2 1, 3) := by decide +kernel
theorem dX8_lastHour_36 : decode cX8_lastHour 36 = .ok (.goto (-32), 3) := by decide +kernel
theorem dX8_lastHour_39 : decode cX8_lastHour 39 = .ok (.iload_n 1, 1) := by decide +kernel
theorem dX8_lastHour_40 : decode cX8_lastHour 40 = .ok (.ireturn, 1) := by decide +kernel
theorem dX8_keeps_0 : decode cX8_keeps 0 = .ok (.aload_n 0, 1) := by decide +kernel
theorem dX8_keeps_1 : decode cX8_keeps 1 = .ok (.getfield 66, 3) := by decide +kernel
theorem dX8_keeps_4 : decode cX8_keeps 4 = .ok (.iconst 4, 1) := by decide +kernel
theorem dX8_keeps_5 : decode cX8_keeps 5 = .ok (.if_icmp .ne 44, 3) := by decide +kernel
theorem dX8_keeps_8 : decode cX8_keeps 8 = .ok (.iconst 0, 1) := by decide +kernel
theorem dX8_keeps_9 : decode cX8_keeps 9 = .ok (.istore_n 1, 1) := by decide +kernel
theorem dX8_keeps_10 : decode cX8_keeps 10 = .ok (.iload_n 1, 1) := by decide +kernel
theorem dX8_keeps_11 : decode cX8_keeps 11 = .ok (.sipush 867, 3) := by decide +kernel
theorem dX8_keeps_14 : decode cX8_keeps 14 = .ok (.if_icmp .ge 25, 3) := by decide +kernel
theorem dX8_keeps_17 : decode cX8_keeps 17 = .ok (.aload_n 0, 1) := by decide +kernel
theorem dX8_keeps_18 : decode cX8_keeps 18 = .ok (.getfield 19, 3) := by decide +kernel
theorem dX8_keeps_21 : decode cX8_keeps 21 = .ok (.iload_n 1, 1) := by decide +kernel
theorem dX8_keeps_22 : decode cX8_keeps 22 = .ok (.aload_n 0, 1) := by decide +kernel
theorem dX8_keeps_23 : decode cX8_keeps 23 = .ok (.getfield 19, 3) := by decide +kernel
theorem dX8_keeps_26 : decode cX8_keeps 26 = .ok (.iload_n 1, 1) := by decide +kernel
theorem dX8_keeps_27 : decode cX8_keeps 27 = .ok (.sipush 289, 3) := by decide +kernel
theorem dX8_keeps_30 : decode cX8_keeps 30 = .ok (.iadd, 1) := by decide +kernel
theorem dX8_keeps_31 : decode cX8_keeps 31 = .ok (.iaload, 1) := by decide +kernel
theorem dX8_keeps_32 : decode cX8_keeps 32 = .ok (.iastore, 1) := by decide +kernel
theorem dX8_keeps_33 : decode cX8_keeps 33 = .ok (.iinc 1 1, 3) := by decide +kernel
theorem dX8_keeps_36 : decode cX8_keeps 36 = .ok (.goto (-26), 3) := by decide +kernel
theorem dX8_keeps_39 : decode cX8_keeps 39 = .ok (.aload_n 0, 1) := by decide +kernel
theorem dX8_keeps_40 : decode cX8_keeps 40 = .ok (.dup, 1) := by decide +kernel
theorem dX8_keeps_41 : decode cX8_keeps 41 = .ok (.getfield 66, 3) := by decide +kernel
theorem dX8_keeps_44 : decode cX8_keeps 44 = .ok (.iconst 1, 1) := by decide +kernel
theorem dX8_keeps_45 : decode cX8_keeps 45 = .ok (.isub, 1) := by decide +kernel
theorem dX8_keeps_46 : decode cX8_keeps 46 = .ok (.putfield 66, 3) := by decide +kernel
theorem dX8_keeps_49 : decode cX8_keeps 49 = .ok (.iconst 0, 1) := by decide +kernel
theorem dX8_keeps_50 : decode cX8_keeps 50 = .ok (.istore_n 1, 1) := by decide +kernel
theorem dX8_keeps_51 : decode cX8_keeps 51 = .ok (.iload_n 1, 1) := by decide +kernel
theorem dX8_keeps_52 : decode cX8_keeps 52 = .ok (.sipush 289, 3) := by decide +kernel
theorem dX8_keeps_55 : decode cX8_keeps 55 = .ok (.if_icmp .ge 30, 3) := by decide +kernel
theorem dX8_keeps_58 : decode cX8_keeps 58 = .ok (.aload_n 0, 1) := by decide +kernel
theorem dX8_keeps_59 : decode cX8_keeps 59 = .ok (.getfield 19, 3) := by decide +kernel
theorem dX8_keeps_62 : decode cX8_keeps 62 = .ok (.sipush 289, 3) := by decide +kernel
theorem dX8_keeps_65 : decode cX8_keeps 65 = .ok (.aload_n 0, 1) := by decide +kernel
theorem dX8_keeps_66 : decode cX8_keeps 66 = .ok (.getfield 66, 3) := by decide +kernel
theorem dX8_keeps_69 : decode cX8_keeps 69 = .ok (.imul, 1) := by decide +kernel
theorem dX8_keeps_70 : decode cX8_keeps 70 = .ok (.iload_n 1, 1) := by decide +kernel
theorem dX8_keeps_71 : decode cX8_keeps 71 = .ok (.iadd, 1) := by decide +kernel
theorem dX8_keeps_72 : decode cX8_keeps 72 = .ok (.aload_n 0, 1) := by decide +kernel
theorem dX8_keeps_73 : decode cX8_keeps 73 = .ok (.getfield 13, 3) := by decide +kernel
theorem dX8_keeps_76 : decode cX8_keeps 76 = .ok (.iload_n 1, 1) := by decide +kernel
theorem dX8_keeps_77 : decode cX8_keeps 77 = .ok (.iaload, 1) := by decide +kernel
theorem dX8_keeps_78 : decode cX8_keeps 78 = .ok (.iastore, 1) := by decide +kernel
theorem dX8_keeps_79 : decode cX8_keeps 79 = .ok (.iinc 1 1, 3) := by decide +kernel
theorem dX8_keeps_82 : decode cX8_keeps 82 = .ok (.goto (-31), 3) := by decide +kernel
theorem dX8_keeps_85 : decode cX8_keeps 85 = .ok (.aload_n 0, 1) := by decide +kernel
theorem dX8_keeps_86 : decode cX8_keeps 86 = .ok (.dup, 1) := by decide +kernel
theorem dX8_keeps_87 : decode cX8_keeps 87 = .ok (.getfield 66, 3) := by decide +kernel
theorem dX8_keeps_90 : decode cX8_keeps 90 = .ok (.iconst 1, 1) := by decide +kernel
theorem dX8_keeps_91 : decode cX8_keeps 91 = .ok (.iadd, 1) := by decide +kernel
theorem dX8_keeps_92 : decode cX8_keeps 92 = .ok (.putfield 66, 3) := by decide +kernel
theorem dX8_keeps_95 : decode cX8_keeps 95 = .ok (.return_, 1) := by decide +kernel
theorem dX8_undo_0 : decode cX8_undo 0 = .ok (.aload_n 0, 1) := by decide +kernel
theorem dX8_undo_1 : decode cX8_undo 1 = .ok (.getfield 66, 3) := by decide +kernel
theorem dX8_undo_4 : decode cX8_undo 4 = .ok (.ifCond .ne 6, 3) := by decide +kernel
theorem dX8_undo_7 : decode cX8_undo 7 = .ok (.bipush (-2), 2) := by decide +kernel
theorem dX8_undo_9 : decode cX8_undo 9 = .ok (.ireturn, 1) := by decide +kernel
theorem dX8_undo_10 : decode cX8_undo 10 = .ok (.aload_n 0, 1) := by decide +kernel
theorem dX8_undo_11 : decode cX8_undo 11 = .ok (.dup, 1) := by decide +kernel
theorem dX8_undo_12 : decode cX8_undo 12 = .ok (.getfield 66, 3) := by decide +kernel
theorem dX8_undo_15 : decode cX8_undo 15 = .ok (.iconst 1, 1) := by decide +kernel
theorem dX8_undo_16 : decode cX8_undo 16 = .ok (.isub, 1) := by decide +kernel
theorem dX8_undo_17 : decode cX8_undo 17 = .ok (.putfield 66, 3) := by decide +kernel
theorem dX8_undo_20 : decode cX8_undo 20 = .ok (.iconst 0, 1) := by decide +kernel
theorem dX8_undo_21 : decode cX8_undo 21 = .ok (.istore_n 1, 1) := by decide +kernel
theorem dX8_undo_22 : decode cX8_undo 22 = .ok (.iload_n 1, 1) := by decide +kernel
theorem dX8_undo_23 : decode cX8_undo 23 = .ok (.sipush 289, 3) := by decide +kernel
theorem dX8_undo_26 : decode cX8_undo 26 = .ok (.if_icmp .ge 30, 3) := by decide +kernel
theorem dX8_undo_29 : decode cX8_undo 29 = .ok (.aload_n 0, 1) := by decide +kernel
theorem dX8_undo_30 : decode cX8_undo 30 = .ok (.getfield 13, 3) := by decide +kernel
theorem dX8_undo_33 : decode cX8_undo 33 = .ok (.iload_n 1, 1) := by decide +kernel
theorem dX8_undo_34 : decode cX8_undo 34 = .ok (.aload_n 0, 1) := by decide +kernel
theorem dX8_undo_35 : decode cX8_undo 35 = .ok (.getfield 19, 3) := by decide +kernel
theorem dX8_undo_38 : decode cX8_undo 38 = .ok (.sipush 289, 3) := by decide +kernel
theorem dX8_undo_41 : decode cX8_undo 41 = .ok (.aload_n 0, 1) := by decide +kernel
theorem dX8_undo_42 : decode cX8_undo 42 = .ok (.getfield 66, 3) := by decide +kernel
theorem dX8_undo_45 : decode cX8_undo 45 = .ok (.imul, 1) := by decide +kernel
theorem dX8_undo_46 : decode cX8_undo 46 = .ok (.iload_n 1, 1) := by decide +kernel
theorem dX8_undo_47 : decode cX8_undo 47 = .ok (.iadd, 1) := by decide +kernel
theorem dX8_undo_48 : decode cX8_undo 48 = .ok (.iaload, 1) := by decide +kernel
theorem dX8_undo_49 : decode cX8_undo 49 = .ok (.iastore, 1) := by decide +kernel
theorem dX8_undo_50 : decode cX8_undo 50 = .ok (.iinc 1 1, 3) := by decide +kernel
theorem dX8_undo_53 : decode cX8_undo 53 = .ok (.goto (-31), 3) := by decide +kernel
theorem dX8_undo_56 : decode cX8_undo 56 = .ok (.aload_n 0, 1) := by decide +kernel
theorem dX8_undo_57 : decode cX8_undo 57 = .ok (.getfield 66, 3) := by decide +kernel
theorem dX8_undo_60 : decode cX8_undo 60 = .ok (.ireturn, 1) := by decide +kernel
set_option maxRecDepth 20000 in
theorem ggX8_isPlace_X8_isIn : GoodIn wsX8_isPlace wsX8_isIn := goodIn_r _ [5] (by decide +kernel) (by decide +kernel)
set_option maxRecDepth 20000 in
theorem gX8_isPlace_X8_isIn : GoodIn wsX8_isPlace (va_wsS RX8 82 yX8_isIn wsX8_isIn) := goodIn_app (goodIn_of _ (by decide +kernel)) ggX8_isPlace_X8_isIn
theorem dX8_isPlace_0 : decode cX8_isPlace 0 = .ok (.iload_n 1, 1) := by decide +kernel
theorem dX8_isPlace_1 : decode cX8_isPlace 1 = .ok (.iconst 0, 1) := by decide +kernel
theorem dX8_isPlace_2 : decode cX8_isPlace 2 = .ok (.aload_n 0, 1) := by decide +kernel
theorem dX8_isPlace_3 : decode cX8_isPlace 3 = .ok (.getfield 57, 3) := by decide +kernel
theorem dX8_isPlace_6 : decode cX8_isPlace 6 = .ok (.iconst 1, 1) := by decide +kernel
theorem dX8_isPlace_7 : decode cX8_isPlace 7 = .ok (.isub, 1) := by decide +kernel
theorem dX8_isPlace_8 : decode cX8_isPlace 8 = .ok (.invokestatic 82, 3) := by decide +kernel
theorem dX8_isPlace_11 : decode cX8_isPlace 11 = .ok (.ireturn, 1) := by decide +kernel
set_option maxRecDepth 20000 in
theorem ggX8_areTwo_X8_isPlace : GoodIn wsX8_areTwo wsX8_isPlace := goodIn_r _ [5, 6, 7, 8, 4, 9, 10, 11, 12, 13, 14, 15, 16, 17, 18, 19, 20, 21, 22, 23, 24, 25, 26, 27, 28, 29] (by decide +kernel) (by decide +kernel)
set_option maxRecDepth 20000 in
theorem gX8_areTwo_X8_isPlace : GoodIn wsX8_areTwo (wsV RX8 160 RX8 yX8_isPlace wsX8_isPlace) := goodIn_app (goodIn_of _ (by decide +kernel)) ggX8_areTwo_X8_isPlace
theorem dX8_areTwo_0 : decode cX8_areTwo 0 = .ok (.aload_n 0, 1) := by decide +kernel
theorem dX8_areTwo_1 : decode cX8_areTwo 1 = .ok (.iload_n 1, 1) := by decide +kernel
theorem dX8_areTwo_2 : decode cX8_areTwo 2 = .ok (.invokevirtual 160, 3) := by decide +kernel
theorem dX8_areTwo_5 : decode cX8_areTwo 5 = .ok (.ifCond .eq 20, 3) := by decide +kernel
theorem dX8_areTwo_8 : decode cX8_areTwo 8 = .ok (.aload_n 0, 1) := by decide +kernel
theorem dX8_areTwo_9 : decode cX8_areTwo 9 = .ok (.iload_n 2, 1) := by decide +kernel
theorem dX8_areTwo_10 : decode cX8_areTwo 10 = .ok (.invokevirtual 160, 3) := by decide +kernel
theorem dX8_areTwo_13 : decode cX8_areTwo 13 = .ok (.ifCond .eq 12, 3) := by decide +kernel
theorem dX8_areTwo_16 : decode cX8_areTwo 16 = .ok (.iload_n 1, 1) := by decide +kernel
theorem dX8_areTwo_17 : decode cX8_areTwo 17 = .ok (.iload_n 2, 1) := by decide +kernel
