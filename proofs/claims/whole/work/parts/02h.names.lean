theorem dX8_areTwo_18 : decode cX8_areTwo 18 = .ok (.if_icmp .eq 7, 3) := by decide +kernel
theorem dX8_areTwo_21 : decode cX8_areTwo 21 = .ok (.iconst 1, 1) := by decide +kernel
theorem dX8_areTwo_22 : decode cX8_areTwo 22 = .ok (.goto 4, 3) := by decide +kernel
theorem dX8_areTwo_25 : decode cX8_areTwo 25 = .ok (.iconst 0, 1) := by decide +kernel
theorem dX8_areTwo_26 : decode cX8_areTwo 26 = .ok (.ireturn, 1) := by decide +kernel
theorem dX8_puts_0 : decode cX8_puts 0 = .ok (.aload_n 0, 1) := by decide +kernel
theorem dX8_puts_1 : decode cX8_puts 1 = .ok (.getfield 13, 3) := by decide +kernel
theorem dX8_puts_4 : decode cX8_puts 4 = .ok (.bipush 16, 2) := by decide +kernel
theorem dX8_puts_6 : decode cX8_puts 6 = .ok (.iload_n 1, 1) := by decide +kernel
theorem dX8_puts_7 : decode cX8_puts 7 = .ok (.imul, 1) := by decide +kernel
theorem dX8_puts_8 : decode cX8_puts 8 = .ok (.iload_n 2, 1) := by decide +kernel
theorem dX8_puts_9 : decode cX8_puts 9 = .ok (.iadd, 1) := by decide +kernel
theorem dX8_puts_10 : decode cX8_puts 10 = .ok (.iload_n 3, 1) := by decide +kernel
theorem dX8_puts_11 : decode cX8_puts 11 = .ok (.iastore, 1) := by decide +kernel
theorem dX8_puts_12 : decode cX8_puts 12 = .ok (.aload_n 0, 1) := by decide +kernel
theorem dX8_puts_13 : decode cX8_puts 13 = .ok (.getfield 13, 3) := by decide +kernel
theorem dX8_puts_16 : decode cX8_puts 16 = .ok (.bipush 16, 2) := by decide +kernel
theorem dX8_puts_18 : decode cX8_puts 18 = .ok (.iload_n 2, 1) := by decide +kernel
theorem dX8_puts_19 : decode cX8_puts 19 = .ok (.imul, 1) := by decide +kernel
theorem dX8_puts_20 : decode cX8_puts 20 = .ok (.iload_n 1, 1) := by decide +kernel
theorem dX8_puts_21 : decode cX8_puts 21 = .ok (.iadd, 1) := by decide +kernel
theorem dX8_puts_22 : decode cX8_puts 22 = .ok (.iload_n 3, 1) := by decide +kernel
theorem dX8_puts_23 : decode cX8_puts 23 = .ok (.iastore, 1) := by decide +kernel
theorem dX8_puts_24 : decode cX8_puts 24 = .ok (.return_, 1) := by decide +kernel
set_option maxRecDepth 20000 in
theorem ggX8_link_X8_areTwo : GoodIn wsX8_link wsX8_areTwo := goodIn_r _ [6, 7, 8, 9, 5, 10, 11, 12, 13, 14, 28, 29, 30, 31, 32, 33, 34, 35, 36, 37, 38, 39, 40, 41, 42, 43, 44, 45, 46, 47] (by decide +kernel) (by decide +kernel)
set_option maxRecDepth 20000 in
theorem gX8_link_X8_areTwo : GoodIn wsX8_link (wsV RX8 163 RX8 yX8_areTwo wsX8_areTwo) := goodIn_app (goodIn_of _ (by decide +kernel)) ggX8_link_X8_areTwo
set_option maxRecDepth 20000 in
theorem ggX8_link_X8_isIn : GoodIn wsX8_link wsX8_isIn := goodIn_r _ [14] (by decide +kernel) (by decide +kernel)
set_option maxRecDepth 20000 in
theorem gX8_link_X8_isIn : GoodIn wsX8_link (va_wsS RX8 82 yX8_isIn wsX8_isIn) := goodIn_app (goodIn_of _ (by decide +kernel)) ggX8_link_X8_isIn
set_option maxRecDepth 20000 in
theorem ggX8_link_X8_linksOf : GoodIn wsX8_link wsX8_linksOf := goodIn_r _ [17] (by decide +kernel) (by decide +kernel)
set_option maxRecDepth 20000 in
theorem gX8_link_X8_linksOf : GoodIn wsX8_link (va_wsS RX8 92 yX8_linksOf wsX8_linksOf) := goodIn_app (goodIn_of _ (by decide +kernel)) ggX8_link_X8_linksOf
set_option maxRecDepth 20000 in
theorem ggX8_link_X8_keeps : GoodIn wsX8_link wsX8_keeps := goodIn_r _ [21, 22, 23, 1, 28, 29, 30, 31, 32, 33, 34, 35, 36, 37, 38, 39, 40, 41, 42, 43, 44, 45, 46, 47] (by decide +kernel) (by decide +kernel)
set_option maxRecDepth 20000 in
theorem gX8_link_X8_keeps : GoodIn wsX8_link (wsV RX8 166 RX8 yX8_keeps wsX8_keeps) := goodIn_app (goodIn_of _ (by decide +kernel)) ggX8_link_X8_keeps
set_option maxRecDepth 20000 in
theorem ggX8_link_X8_puts : GoodIn wsX8_link wsX8_puts := goodIn_r _ [27, 1, 28, 29, 30, 31, 32, 33, 34, 35, 36, 37, 38, 39, 40, 41, 42, 43, 44, 45, 46, 47] (by decide +kernel) (by decide +kernel)
set_option maxRecDepth 20000 in
theorem gX8_link_X8_puts : GoodIn wsX8_link (wsV RX8 169 RX8 yX8_puts wsX8_puts) := goodIn_app (goodIn_of _ (by decide +kernel)) ggX8_link_X8_puts
theorem dX8_link_0 : decode cX8_link 0 = .ok (.aload_n 0, 1) := by decide +kernel
theorem dX8_link_1 : decode cX8_link 1 = .ok (.iload_n 1, 1) := by decide +kernel
theorem dX8_link_2 : decode cX8_link 2 = .ok (.iload_n 2, 1) := by decide +kernel
theorem dX8_link_3 : decode cX8_link 3 = .ok (.invokevirtual 163, 3) := by decide +kernel
theorem dX8_link_6 : decode cX8_link 6 = .ok (.ifCond .eq 13, 3) := by decide +kernel
theorem dX8_link_9 : decode cX8_link 9 = .ok (.iload_n 3, 1) := by decide +kernel
theorem dX8_link_10 : decode cX8_link 10 = .ok (.iconst 1, 1) := by decide +kernel
theorem dX8_link_11 : decode cX8_link 11 = .ok (.bipush 9, 2) := by decide +kernel
theorem dX8_link_13 : decode cX8_link 13 = .ok (.invokestatic 82, 3) := by decide +kernel
theorem dX8_link_16 : decode cX8_link 16 = .ok (.ifCond .ne 5, 3) := by decide +kernel
theorem dX8_link_19 : decode cX8_link 19 = .ok (.iconst (-1), 1) := by decide +kernel
theorem dX8_link_20 : decode cX8_link 20 = .ok (.ireturn, 1) := by decide +kernel
theorem dX8_link_21 : decode cX8_link 21 = .ok (.aload_n 0, 1) := by decide +kernel
theorem dX8_link_22 : decode cX8_link 22 = .ok (.getfield 13, 3) := by decide +kernel
theorem dX8_link_25 : decode cX8_link 25 = .ok (.bipush 16, 2) := by decide +kernel
theorem dX8_link_27 : decode cX8_link 27 = .ok (.iload_n 1, 1) := by decide +kernel
theorem dX8_link_28 : decode cX8_link 28 = .ok (.imul, 1) := by decide +kernel
theorem dX8_link_29 : decode cX8_link 29 = .ok (.iload_n 2, 1) := by decide +kernel
theorem dX8_link_30 : decode cX8_link 30 = .ok (.iadd, 1) := by decide +kernel
theorem dX8_link_31 : decode cX8_link 31 = .ok (.iaload, 1) := by decide +kernel
theorem dX8_link_32 : decode cX8_link 32 = .ok (.istore 4, 2) := by decide +kernel
theorem dX8_link_34 : decode cX8_link 34 = .ok (.iload 4, 2) := by decide +kernel
theorem dX8_link_36 : decode cX8_link 36 = .ok (.iload_n 3, 1) := by decide +kernel
theorem dX8_link_37 : decode cX8_link 37 = .ok (.if_icmp .ne 6, 3) := by decide +kernel
theorem dX8_link_40 : decode cX8_link 40 = .ok (.bipush (-2), 2) := by decide +kernel
theorem dX8_link_42 : decode cX8_link 42 = .ok (.ireturn, 1) := by decide +kernel
theorem dX8_link_43 : decode cX8_link 43 = .ok (.iload 4, 2) := by decide +kernel
theorem dX8_link_45 : decode cX8_link 45 = .ok (.ifCond .ne 18, 3) := by decide +kernel
theorem dX8_link_48 : decode cX8_link 48 = .ok (.aload_n 0, 1) := by decide +kernel
theorem dX8_link_49 : decode cX8_link 49 = .ok (.getfield 13, 3) := by decide +kernel
theorem dX8_link_52 : decode cX8_link 52 = .ok (.invokestatic 92, 3) := by decide +kernel
theorem dX8_link_55 : decode cX8_link 55 = .ok (.bipush 40, 2) := by decide +kernel
theorem dX8_link_57 : decode cX8_link 57 = .ok (.if_icmp .ne 6, 3) := by decide +kernel
theorem dX8_link_60 : decode cX8_link 60 = .ok (.bipush (-3), 2) := by decide +kernel
theorem dX8_link_62 : decode cX8_link 62 = .ok (.ireturn, 1) := by decide +kernel
theorem dX8_link_63 : decode cX8_link 63 = .ok (.aload_n 0, 1) := by decide +kernel
theorem dX8_link_64 : decode cX8_link 64 = .ok (.invokevirtual 166, 3) := by decide +kernel
theorem dX8_link_67 : decode cX8_link 67 = .ok (.aload_n 0, 1) := by decide +kernel
theorem dX8_link_68 : decode cX8_link 68 = .ok (.iload_n 1, 1) := by decide +kernel
theorem dX8_link_69 : decode cX8_link 69 = .ok (.iload_n 2, 1) := by decide +kernel
theorem dX8_link_70 : decode cX8_link 70 = .ok (.iload_n 3, 1) := by decide +kernel
theorem dX8_link_71 : decode cX8_link 71 = .ok (.invokevirtual 169, 3) := by decide +kernel
theorem dX8_link_74 : decode cX8_link 74 = .ok (.aload_n 0, 1) := by decide +kernel
theorem dX8_link_75 : decode cX8_link 75 = .ok (.getfield 13, 3) := by decide +kernel
theorem dX8_link_78 : decode cX8_link 78 = .ok (.invokestatic 92, 3) := by decide +kernel
theorem dX8_link_81 : decode cX8_link 81 = .ok (.ireturn, 1) := by decide +kernel
set_option maxRecDepth 20000 in
theorem ggX8_unlink_X8_areTwo : GoodIn wsX8_unlink wsX8_areTwo := goodIn_r _ [6, 7, 8, 9, 5, 10, 11, 12, 13, 14, 25, 26, 27, 28, 29, 30, 31, 32, 33, 34, 35, 36, 37, 38, 39, 40, 41, 42, 43, 44] (by decide +kernel) (by decide +kernel)
set_option maxRecDepth 20000 in
theorem gX8_unlink_X8_areTwo : GoodIn wsX8_unlink (wsV RX8 163 RX8 yX8_areTwo wsX8_areTwo) := goodIn_app (goodIn_of _ (by decide +kernel)) ggX8_unlink_X8_areTwo
set_option maxRecDepth 20000 in
theorem ggX8_unlink_X8_keeps : GoodIn wsX8_unlink wsX8_keeps := goodIn_r _ [18, 19, 20, 1, 25, 26, 27, 28, 29, 30, 31, 32, 33, 34, 35, 36, 37, 38, 39, 40, 41, 42, 43, 44] (by decide +kernel) (by decide +kernel)
set_option maxRecDepth 20000 in
theorem gX8_unlink_X8_keeps : GoodIn wsX8_unlink (wsV RX8 166 RX8 yX8_keeps wsX8_keeps) := goodIn_app (goodIn_of _ (by decide +kernel)) ggX8_unlink_X8_keeps
set_option maxRecDepth 20000 in
theorem ggX8_unlink_X8_puts : GoodIn wsX8_unlink wsX8_puts := goodIn_r _ [24, 1, 25, 26, 27, 28, 29, 30, 31, 32, 33, 34, 35, 36, 37, 38, 39, 40, 41, 42, 43, 44] (by decide +kernel) (by decide +kernel)
set_option maxRecDepth 20000 in
theorem gX8_unlink_X8_puts : GoodIn wsX8_unlink (wsV RX8 169 RX8 yX8_puts wsX8_puts) := goodIn_app (goodIn_of _ (by decide +kernel)) ggX8_unlink_X8_puts
theorem dX8_unlink_0 : decode cX8_unlink 0 = .ok (.aload_n 0, 1) := by decide +kernel
theorem dX8_unlink_1 : decode cX8_unlink 1 = .ok (.iload_n 1, 1) := by decide +kernel
theorem dX8_unlink_2 : decode cX8_unlink 2 = .ok (.iload_n 2, 1) := by decide +kernel
theorem dX8_unlink_3 : decode cX8_unlink 3 = .ok (.invokevirtual 163, 3) := by decide +kernel
theorem dX8_unlink_6 : decode cX8_unlink 6 = .ok (.ifCond .ne 5, 3) := by decide +kernel
theorem dX8_unlink_9 : decode cX8_unlink 9 = .ok (.iconst (-1), 1) := by decide +kernel
theorem dX8_unlink_10 : decode cX8_unlink 10 = .ok (.ireturn, 1) := by decide +kernel
theorem dX8_unlink_11 : decode cX8_unlink 11 = .ok (.aload_n 0, 1) := by decide +kernel
theorem dX8_unlink_12 : decode cX8_unlink 12 = .ok (.getfield 13, 3) := by decide +kernel
theorem dX8_unlink_15 : decode cX8_unlink 15 = .ok (.bipush 16, 2) := by decide +kernel
theorem dX8_unlink_17 : decode cX8_unlink 17 = .ok (.iload_n 1, 1) := by decide +kernel
theorem dX8_unlink_18 : decode cX8_unlink 18 = .ok (.imul, 1) := by decide +kernel
theorem dX8_unlink_19 : decode cX8_unlink 19 = .ok (.iload_n 2, 1) := by decide +kernel
theorem dX8_unlink_20 : decode cX8_unlink 20 = .ok (.iadd, 1) := by decide +kernel
theorem dX8_unlink_21 : decode cX8_unlink 21 = .ok (.iaload, 1) := by decide +kernel
theorem dX8_unlink_22 : decode cX8_unlink 22 = .ok (.istore_n 3, 1) := by decide +kernel
theorem dX8_unlink_23 : decode cX8_unlink 23 = .ok (.iload_n 3, 1) := by decide +kernel
theorem dX8_unlink_24 : decode cX8_unlink 24 = .ok (.ifCond .ne 6, 3) := by decide +kernel
theorem dX8_unlink_27 : decode cX8_unlink 27 = .ok (.bipush (-2), 2) := by decide +kernel
theorem dX8_unlink_29 : decode cX8_unlink 29 = .ok (.ireturn, 1) := by decide +kernel
theorem dX8_unlink_30 : decode cX8_unlink 30 = .ok (.aload_n 0, 1) := by decide +kernel
theorem dX8_unlink_31 : decode cX8_unlink 31 = .ok (.invokevirtual 166, 3) := by decide +kernel
theorem dX8_unlink_34 : decode cX8_unlink 34 = .ok (.aload_n 0, 1) := by decide +kernel
theorem dX8_unlink_35 : decode cX8_unlink 35 = .ok (.iload_n 1, 1) := by decide +kernel
theorem dX8_unlink_36 : decode cX8_unlink 36 = .ok (.iload_n 2, 1) := by decide +kernel
theorem dX8_unlink_37 : decode cX8_unlink 37 = .ok (.iconst 0, 1) := by decide +kernel
theorem dX8_unlink_38 : decode cX8_unlink 38 = .ok (.invokevirtual 169, 3) := by decide +kernel
theorem dX8_unlink_41 : decode cX8_unlink 41 = .ok (.iload_n 3, 1) := by decide +kernel
theorem dX8_unlink_42 : decode cX8_unlink 42 = .ok (.ireturn, 1) := by decide +kernel
set_option maxRecDepth 20000 in
theorem ggX8_delay_X8_isPlace : GoodIn wsX8_delay wsX8_isPlace := goodIn_r _ [7, 8, 9, 10, 6, 11, 62, 63, 64, 65, 66, 67, 68, 69, 70, 71, 72, 73, 74, 75, 76, 77, 78, 79, 80, 81] (by decide +kernel) (by decide +kernel)
set_option maxRecDepth 20000 in
theorem gX8_delay_X8_isPlace : GoodIn wsX8_delay (wsV RX8 160 RX8 yX8_isPlace wsX8_isPlace) := goodIn_app (goodIn_of _ (by decide +kernel)) ggX8_delay_X8_isPlace
set_option maxRecDepth 20000 in
theorem ggX8_delay_X8_isIn : GoodIn wsX8_delay wsX8_isIn := goodIn_r _ [11] (by decide +kernel) (by decide +kernel)
set_option maxRecDepth 20000 in
theorem gX8_delay_X8_isIn : GoodIn wsX8_delay (va_wsS RX8 82 yX8_isIn wsX8_isIn) := goodIn_app (goodIn_of _ (by decide +kernel)) ggX8_delay_X8_isIn
set_option maxRecDepth 20000 in
theorem ggX8_delay_X8_settle : GoodIn wsX8_delay wsX8_settle := goodIn_r _ [15, 2, 16, 17, 18, 6, 19, 8, 1, 20, 21, 22, 23, 24, 25, 26, 27, 28, 29, 30, 31, 32, 33, 34, 35, 36, 37, 38, 39, 40, 41, 42, 43, 44, 45, 46, 47, 48, 49, 50, 51, 52, 53, 54, 55, 62, 63, 64, 65, 66, 67, 68, 69, 70, 71, 72, 73, 74, 75, 76, 77, 78, 79, 80, 81] (by decide +kernel) (by decide +kernel)
set_option maxRecDepth 20000 in
theorem gX8_delay_X8_settle : GoodIn wsX8_delay (wsV RX8 172 RX8 yX8_settle wsX8_settle) := goodIn_app (goodIn_of _ (by decide +kernel)) ggX8_delay_X8_settle
set_option maxRecDepth 20000 in
theorem ggX8_delay_X8_keeps : GoodIn wsX8_delay wsX8_keeps := goodIn_r _ [59, 60, 61, 2, 62, 63, 64, 65, 66, 67, 68, 69, 70, 71, 72, 73, 74, 75, 76, 77, 78, 79, 80, 81] (by decide +kernel) (by decide +kernel)
set_option maxRecDepth 20000 in
theorem gX8_delay_X8_keeps : GoodIn wsX8_delay (wsV RX8 166 RX8 yX8_keeps wsX8_keeps) := goodIn_app (goodIn_of _ (by decide +kernel)) ggX8_delay_X8_keeps
theorem dX8_delay_0 : decode cX8_delay 0 = .ok (.aload_n 0, 1) := by decide +kernel
theorem dX8_delay_1 : decode cX8_delay 1 = .ok (.iload_n 1, 1) := by decide +kernel
theorem dX8_delay_2 : decode cX8_delay 2 = .ok (.invokevirtual 160, 3) := by decide +kernel
theorem dX8_delay_5 : decode cX8_delay 5 = .ok (.ifCond .eq 24, 3) := by decide +kernel
theorem dX8_delay_8 : decode cX8_delay 8 = .ok (.iload_n 2, 1) := by decide +kernel
theorem dX8_delay_9 : decode cX8_delay 9 = .ok (.iconst 0, 1) := by decide +kernel
theorem dX8_delay_10 : decode cX8_delay 10 = .ok (.bipush 30, 2) := by decide +kernel
theorem dX8_delay_12 : decode cX8_delay 12 = .ok (.invokestatic 82, 3) := by decide +kernel
theorem dX8_delay_15 : decode cX8_delay 15 = .ok (.ifCond .eq 14, 3) := by decide +kernel
theorem dX8_delay_18 : decode cX8_delay 18 = .ok (.iload_n 3, 1) := by decide +kernel
theorem dX8_delay_19 : decode cX8_delay 19 = .ok (.iconst 0, 1) := by decide +kernel
theorem dX8_delay_20 : decode cX8_delay 20 = .ok (.sipush 999, 3) := by decide +kernel
theorem dX8_delay_23 : decode cX8_delay 23 = .ok (.invokestatic 82, 3) := by decide +kernel
theorem dX8_delay_26 : decode cX8_delay 26 = .ok (.ifCond .ne 5, 3) := by decide +kernel
theorem dX8_delay_29 : decode cX8_delay 29 = .ok (.iconst (-1), 1) := by decide +kernel
theorem dX8_delay_30 : decode cX8_delay 30 = .ok (.ireturn, 1) := by decide +kernel
theorem dX8_delay_31 : decode cX8_delay 31 = .ok (.aload_n 0, 1) := by decide +kernel
theorem dX8_delay_32 : decode cX8_delay 32 = .ok (.invokevirtual 172, 3) := by decide +kernel
theorem dX8_delay_35 : decode cX8_delay 35 = .ok (.aload_n 0, 1) := by decide +kernel
theorem dX8_delay_36 : decode cX8_delay 36 = .ok (.getfield 28, 3) := by decide +kernel
theorem dX8_delay_39 : decode cX8_delay 39 = .ok (.iload_n 1, 1) := by decide +kernel
theorem dX8_delay_40 : decode cX8_delay 40 = .ok (.iaload, 1) := by decide +kernel
theorem dX8_delay_41 : decode cX8_delay 41 = .ok (.istore 4, 2) := by decide +kernel
theorem dX8_delay_43 : decode cX8_delay 43 = .ok (.aload_n 0, 1) := by decide +kernel
theorem dX8_delay_44 : decode cX8_delay 44 = .ok (.invokevirtual 166, 3) := by decide +kernel
theorem dX8_delay_47 : decode cX8_delay 47 = .ok (.aload_n 0, 1) := by decide +kernel
theorem dX8_delay_48 : decode cX8_delay 48 = .ok (.getfield 13, 3) := by decide +kernel
theorem dX8_delay_51 : decode cX8_delay 51 = .ok (.sipush 256, 3) := by decide +kernel
theorem dX8_delay_54 : decode cX8_delay 54 = .ok (.iload_n 1, 1) := by decide +kernel
theorem dX8_delay_55 : decode cX8_delay 55 = .ok (.iadd, 1) := by decide +kernel
theorem dX8_delay_56 : decode cX8_delay 56 = .ok (.iload_n 2, 1) := by decide +kernel
theorem dX8_delay_57 : decode cX8_delay 57 = .ok (.iconst 1, 1) := by decide +kernel
theorem dX8_delay_58 : decode cX8_delay 58 = .ok (.iadd, 1) := by decide +kernel
theorem dX8_delay_59 : decode cX8_delay 59 = .ok (.iastore, 1) := by decide +kernel
theorem dX8_delay_60 : decode cX8_delay 60 = .ok (.aload_n 0, 1) := by decide +kernel
theorem dX8_delay_61 : decode cX8_delay 61 = .ok (.getfield 13, 3) := by decide +kernel
theorem dX8_delay_64 : decode cX8_delay 64 = .ok (.sipush 272, 3) := by decide +kernel
theorem dX8_delay_67 : decode cX8_delay 67 = .ok (.iload_n 1, 1) := by decide +kernel
theorem dX8_delay_68 : decode cX8_delay 68 = .ok (.iadd, 1) := by decide +kernel
theorem dX8_delay_69 : decode cX8_delay 69 = .ok (.iload_n 3, 1) := by decide +kernel
theorem dX8_delay_70 : decode cX8_delay 70 = .ok (.iastore, 1) := by decide +kernel
theorem dX8_delay_71 : decode cX8_delay 71 = .ok (.iload 4, 2) := by decide +kernel
theorem dX8_delay_73 : decode cX8_delay 73 = .ok (.ireturn, 1) := by decide +kernel
set_option maxRecDepth 20000 in
theorem ggX8_drawn_X8_isPlace : GoodIn wsX8_drawn wsX8_isPlace := goodIn_r _ [6, 7, 8, 9, 5, 10, 30, 31, 32, 33, 34, 35, 36, 37, 38, 39, 40, 41, 42, 43, 44, 45, 46, 47, 48, 49] (by decide +kernel) (by decide +kernel)
set_option maxRecDepth 20000 in
theorem gX8_drawn_X8_isPlace : GoodIn wsX8_drawn (wsV RX8 160 RX8 yX8_isPlace wsX8_isPlace) := goodIn_app (goodIn_of _ (by decide +kernel)) ggX8_drawn_X8_isPlace
set_option maxRecDepth 20000 in
theorem ggX8_drawn_X8_keeps : GoodIn wsX8_drawn wsX8_keeps := goodIn_r _ [14, 15, 16, 1, 30, 31, 32, 33, 34, 35, 36, 37, 38, 39, 40, 41, 42, 43, 44, 45, 46, 47, 48, 49] (by decide +kernel) (by decide +kernel)
set_option maxRecDepth 20000 in
theorem gX8_drawn_X8_keeps : GoodIn wsX8_drawn (wsV RX8 166 RX8 yX8_keeps wsX8_keeps) := goodIn_app (goodIn_of _ (by decide +kernel)) ggX8_drawn_X8_keeps
set_option maxRecDepth 20000 in
theorem ggX8_drawn_X8_drawnDelay : GoodIn wsX8_drawn wsX8_drawnDelay := goodIn_r _ [20, 21, 22, 23, 24, 5, 25, 26, 27, 28, 29, 30, 31, 32, 33, 34, 35, 36, 37, 38, 39, 40, 41, 42, 43, 44, 45, 46, 47, 48, 49] (by decide +kernel) (by decide +kernel)
set_option maxRecDepth 20000 in
theorem gX8_drawn_X8_drawnDelay : GoodIn wsX8_drawn (wsV RX8 140 RX8 yX8_drawnDelay wsX8_drawnDelay) := goodIn_app (goodIn_of _ (by decide +kernel)) ggX8_drawn_X8_drawnDelay
theorem dX8_drawn_0 : decode cX8_drawn 0 = .ok (.aload_n 0, 1) := by decide +kernel
theorem dX8_drawn_1 : decode cX8_drawn 1 = .ok (.iload_n 1, 1) := by decide +kernel
theorem dX8_drawn_2 : decode cX8_drawn 2 = .ok (.invokevirtual 160, 3) := by decide +kernel
theorem dX8_drawn_5 : decode cX8_drawn 5 = .ok (.ifCond .ne 5, 3) := by decide +kernel
theorem dX8_drawn_8 : decode cX8_drawn 8 = .ok (.iconst (-1), 1) := by decide +kernel
theorem dX8_drawn_9 : decode cX8_drawn 9 = .ok (.ireturn, 1) := by decide +kernel
theorem dX8_drawn_10 : decode cX8_drawn 10 = .ok (.aload_n 0, 1) := by decide +kernel
theorem dX8_drawn_11 : decode cX8_drawn 11 = .ok (.getfield 13, 3) := by decide +kernel
theorem dX8_drawn_14 : decode cX8_drawn 14 = .ok (.sipush 256, 3) := by decide +kernel
theorem dX8_drawn_17 : decode cX8_drawn 17 = .ok (.iload_n 1, 1) := by decide +kernel
theorem dX8_drawn_18 : decode cX8_drawn 18 = .ok (.iadd, 1) := by decide +kernel
theorem dX8_drawn_19 : decode cX8_drawn 19 = .ok (.iaload, 1) := by decide +kernel
theorem dX8_drawn_20 : decode cX8_drawn 20 = .ok (.ifCond .ne 6, 3) := by decide +kernel
theorem dX8_drawn_23 : decode cX8_drawn 23 = .ok (.bipush (-2), 2) := by decide +kernel
theorem dX8_drawn_25 : decode cX8_drawn 25 = .ok (.ireturn, 1) := by decide +kernel
theorem dX8_drawn_26 : decode cX8_drawn 26 = .ok (.aload_n 0, 1) := by decide +kernel
theorem dX8_drawn_27 : decode cX8_drawn 27 = .ok (.invokevirtual 166, 3) := by decide +kernel
theorem dX8_drawn_30 : decode cX8_drawn 30 = .ok (.aload_n 0, 1) := by decide +kernel
theorem dX8_drawn_31 : decode cX8_drawn 31 = .ok (.getfield 13, 3) := by decide +kernel
theorem dX8_drawn_34 : decode cX8_drawn 34 = .ok (.sipush 256, 3) := by decide +kernel
theorem dX8_drawn_37 : decode cX8_drawn 37 = .ok (.iload_n 1, 1) := by decide +kernel
theorem dX8_drawn_38 : decode cX8_drawn 38 = .ok (.iadd, 1) := by decide +kernel
theorem dX8_drawn_39 : decode cX8_drawn 39 = .ok (.iconst 0, 1) := by decide +kernel
theorem dX8_drawn_40 : decode cX8_drawn 40 = .ok (.iastore, 1) := by decide +kernel
theorem dX8_drawn_41 : decode cX8_drawn 41 = .ok (.aload_n 0, 1) := by decide +kernel
theorem dX8_drawn_42 : decode cX8_drawn 42 = .ok (.aload_n 0, 1) := by decide +kernel
theorem dX8_drawn_43 : decode cX8_drawn 43 = .ok (.getfield 13, 3) := by decide +kernel
theorem dX8_drawn_46 : decode cX8_drawn 46 = .ok (.sipush 288, 3) := by decide +kernel
theorem dX8_drawn_49 : decode cX8_drawn 49 = .ok (.iaload, 1) := by decide +kernel
theorem dX8_drawn_50 : decode cX8_drawn 50 = .ok (.iload_n 1, 1) := by decide +kernel
theorem dX8_drawn_51 : decode cX8_drawn 51 = .ok (.invokevirtual 140, 3) := by decide +kernel
theorem dX8_drawn_54 : decode cX8_drawn 54 = .ok (.ireturn, 1) := by decide +kernel
set_option maxRecDepth 20000 in
theorem ggX8_draws_X8_isIn : GoodIn wsX8_draws wsX8_isIn := goodIn_r _ [5] (by decide +kernel) (by decide +kernel)
set_option maxRecDepth 20000 in
theorem gX8_draws_X8_isIn : GoodIn wsX8_draws (va_wsS RX8 82 yX8_isIn wsX8_isIn) := goodIn_app (goodIn_of _ (by decide +kernel)) ggX8_draws_X8_isIn
set_option maxRecDepth 20000 in
theorem ggX8_draws_X8_keeps : GoodIn wsX8_draws wsX8_keeps := goodIn_r _ [9, 10, 11, 1, 12, 13, 14, 15, 16, 17, 18, 19, 20, 21, 22, 23, 24, 25, 26, 27, 28, 29, 30, 31] (by decide +kernel) (by decide +kernel)
set_option maxRecDepth 20000 in
theorem gX8_draws_X8_keeps : GoodIn wsX8_draws (wsV RX8 166 RX8 yX8_keeps wsX8_keeps) := goodIn_app (goodIn_of _ (by decide +kernel)) ggX8_draws_X8_keeps
theorem dX8_draws_0 : decode cX8_draws 0 = .ok (.iload_n 1, 1) := by decide +kernel
theorem dX8_draws_1 : decode cX8_draws 1 = .ok (.iconst 0, 1) := by decide +kernel
theorem dX8_draws_2 : decode cX8_draws 2 = .ok (.sipush 9999, 3) := by decide +kernel
theorem dX8_draws_5 : decode cX8_draws 5 = .ok (.invokestatic 82, 3) := by decide +kernel
theorem dX8_draws_8 : decode cX8_draws 8 = .ok (.ifCond .ne 5, 3) := by decide +kernel
theorem dX8_draws_11 : decode cX8_draws 11 = .ok (.iconst (-1), 1) := by decide +kernel
theorem dX8_draws_12 : decode cX8_draws 12 = .ok (.ireturn, 1) := by decide +kernel
theorem dX8_draws_13 : decode cX8_draws 13 = .ok (.aload_n 0, 1) := by decide +kernel
theorem dX8_draws_14 : decode cX8_draws 14 = .ok (.getfield 13, 3) := by decide +kernel
theorem dX8_draws_17 : decode cX8_draws 17 = .ok (.sipush 288, 3) := by decide +kernel
theorem dX8_draws_20 : decode cX8_draws 20 = .ok (.iaload, 1) := by decide +kernel
theorem dX8_draws_21 : decode cX8_draws 21 = .ok (.istore_n 2, 1) := by decide +kernel
theorem dX8_draws_22 : decode cX8_draws 22 = .ok (.iload_n 2, 1) := by decide +kernel
theorem dX8_draws_23 : decode cX8_draws 23 = .ok (.iload_n 1, 1) := by decide +kernel
theorem dX8_draws_24 : decode cX8_draws 24 = .ok (.if_icmp .ne 6, 3) := by decide +kernel
theorem dX8_draws_27 : decode cX8_draws 27 = .ok (.bipush (-2), 2) := by decide +kernel
theorem dX8_draws_29 : decode cX8_draws 29 = .ok (.ireturn, 1) := by decide +kernel
theorem dX8_draws_30 : decode cX8_draws 30 = .ok (.aload_n 0, 1) := by decide +kernel
theorem dX8_draws_31 : decode cX8_draws 31 = .ok (.invokevirtual 166, 3) := by decide +kernel
theorem dX8_draws_34 : decode cX8_draws 34 = .ok (.aload_n 0, 1) := by decide +kernel
theorem dX8_draws_35 : decode cX8_draws 35 = .ok (.getfield 13, 3) := by decide +kernel
theorem dX8_draws_38 : decode cX8_draws 38 = .ok (.sipush 288, 3) := by decide +kernel
theorem dX8_draws_41 : decode cX8_draws 41 = .ok (.iload_n 1, 1) := by decide +kernel
theorem dX8_draws_42 : decode cX8_draws 42 = .ok (.iastore, 1) := by decide +kernel
theorem dX8_draws_43 : decode cX8_draws 43 = .ok (.iload_n 2, 1) := by decide +kernel
theorem dX8_draws_44 : decode cX8_draws 44 = .ok (.ireturn, 1) := by decide +kernel
set_option maxRecDepth 20000 in
theorem ggX8_place_X8_isPlace : GoodIn wsX8_place wsX8_isPlace := goodIn_r _ [12, 7, 13, 14, 11, 15, 64, 65, 66, 67, 68, 69, 70, 71, 72, 73, 74, 75, 76, 77, 78, 79, 80, 81, 82, 83] (by decide +kernel) (by decide +kernel)
set_option maxRecDepth 20000 in
theorem gX8_place_X8_isPlace : GoodIn wsX8_place (wsV RX8 160 RX8 yX8_isPlace wsX8_isPlace) := goodIn_app (goodIn_of _ (by decide +kernel)) ggX8_place_X8_isPlace
set_option maxRecDepth 20000 in
theorem ggX8_place_X8_isIn : GoodIn wsX8_place wsX8_isIn := goodIn_r _ [15] (by decide +kernel) (by decide +kernel)
set_option maxRecDepth 20000 in
theorem gX8_place_X8_isIn : GoodIn wsX8_place (va_wsS RX8 82 yX8_isIn wsX8_isIn) := goodIn_app (goodIn_of _ (by decide +kernel)) ggX8_place_X8_isIn
set_option maxRecDepth 20000 in
theorem ggX8_place_X8_settle : GoodIn wsX8_place wsX8_settle := goodIn_r _ [19, 3, 20, 21, 22, 11, 23, 7, 1, 2, 24, 25, 26, 27, 28, 29, 30, 31, 32, 33, 34, 35, 36, 37, 38, 39, 40, 41, 42, 43, 44, 45, 46, 47, 4, 6, 5, 48, 49, 50, 51, 52, 53, 54, 55, 64, 65, 66, 67, 68, 69, 70, 71, 72, 73, 74, 75, 76, 77, 78, 79, 80, 81, 82, 83] (by decide +kernel) (by decide +kernel)
set_option maxRecDepth 20000 in
theorem gX8_place_X8_settle : GoodIn wsX8_place (wsV RX8 172 RX8 yX8_settle wsX8_settle) := goodIn_app (goodIn_of _ (by decide +kernel)) ggX8_place_X8_settle
set_option maxRecDepth 20000 in
theorem ggX8_place_X8_greatest : GoodIn wsX8_place wsX8_greatest := goodIn_r _ [51, 7, 1, 64, 65, 66, 67, 68, 69, 70, 71, 72, 73, 74, 75, 76, 77, 78, 79, 80, 81, 82, 83] (by decide +kernel) (by decide +kernel)
set_option maxRecDepth 20000 in
theorem gX8_place_X8_greatest : GoodIn wsX8_place (wsV RX8 127 RX8 yX8_greatest wsX8_greatest) := goodIn_app (goodIn_of _ (by decide +kernel)) ggX8_place_X8_greatest
set_option maxRecDepth 20000 in
theorem ggX8_place_X8_depth : GoodIn wsX8_place wsX8_depth := goodIn_r _ [59, 28, 4, 64, 65, 66, 67, 68, 69, 70, 71, 72, 73, 74, 75, 76, 77, 78, 79, 80, 81, 82, 83] (by decide +kernel) (by decide +kernel)
set_option maxRecDepth 20000 in
theorem gX8_place_X8_depth : GoodIn wsX8_place (wsV RX8 151 RX8 yX8_depth wsX8_depth) := goodIn_app (goodIn_of _ (by decide +kernel)) ggX8_place_X8_depth
set_option maxRecDepth 20000 in
theorem ggX8_place_X8_upOf : GoodIn wsX8_place wsX8_upOf := goodIn_r _ [63, 7, 4, 3, 56, 57, 58, 11, 59, 28, 64, 65, 66, 67, 68, 69, 70, 71, 72, 73, 74, 75, 76, 77, 78, 79, 80, 81, 82, 83] (by decide +kernel) (by decide +kernel)
set_option maxRecDepth 20000 in
theorem gX8_place_X8_upOf : GoodIn wsX8_place (wsV RX8 154 RX8 yX8_upOf wsX8_upOf) := goodIn_app (goodIn_of _ (by decide +kernel)) ggX8_place_X8_upOf
theorem dX8_place_0 : decode cX8_place 0 = .ok (.aload_n 0, 1) := by decide +kernel
theorem dX8_place_1 : decode cX8_place 1 = .ok (.iload_n 1, 1) := by decide +kernel
theorem dX8_place_2 : decode cX8_place 2 = .ok (.invokevirtual 160, 3) := by decide +kernel
theorem dX8_place_5 : decode cX8_place 5 = .ok (.ifCond .eq 13, 3) := by decide +kernel
theorem dX8_place_8 : decode cX8_place 8 = .ok (.iload_n 2, 1) := by decide +kernel
theorem dX8_place_9 : decode cX8_place 9 = .ok (.iconst 0, 1) := by decide +kernel
theorem dX8_place_10 : decode cX8_place 10 = .ok (.bipush 9, 2) := by decide +kernel
theorem dX8_place_12 : decode cX8_place 12 = .ok (.invokestatic 82, 3) := by decide +kernel
theorem dX8_place_15 : decode cX8_place 15 = .ok (.ifCond .ne 5, 3) := by decide +kernel
theorem dX8_place_18 : decode cX8_place 18 = .ok (.iconst (-1), 1) := by decide +kernel
theorem dX8_place_19 : decode cX8_place 19 = .ok (.ireturn, 1) := by decide +kernel
theorem dX8_place_20 : decode cX8_place 20 = .ok (.aload_n 0, 1) := by decide +kernel
theorem dX8_place_21 : decode cX8_place 21 = .ok (.invokevirtual 172, 3) := by decide +kernel
theorem dX8_place_24 : decode cX8_place 24 = .ok (.iload_n 2, 1) := by decide +kernel
theorem dX8_place_25 : decode cX8_place 25 = .ok (.tableswitch 134 0 8 #[51, 58, 65, 84, 96, 103, 115, 121, 128], 51) := by decide +kernel
theorem dX8_place_76 : decode cX8_place 76 = .ok (.aload_n 0, 1) := by decide +kernel
theorem dX8_place_77 : decode cX8_place 77 = .ok (.getfield 28, 3) := by decide +kernel
theorem dX8_place_80 : decode cX8_place 80 = .ok (.iload_n 1, 1) := by decide +kernel
theorem dX8_place_81 : decode cX8_place 81 = .ok (.iaload, 1) := by decide +kernel
theorem dX8_place_82 : decode cX8_place 82 = .ok (.ireturn, 1) := by decide +kernel
theorem dX8_place_83 : decode cX8_place 83 = .ok (.aload_n 0, 1) := by decide +kernel
theorem dX8_place_84 : decode cX8_place 84 = .ok (.getfield 31, 3) := by decide +kernel
theorem dX8_place_87 : decode cX8_place 87 = .ok (.iload_n 1, 1) := by decide +kernel
theorem dX8_place_88 : decode cX8_place 88 = .ok (.iaload, 1) := by decide +kernel
theorem dX8_place_89 : decode cX8_place 89 = .ok (.ireturn, 1) := by decide +kernel
theorem dX8_place_90 : decode cX8_place 90 = .ok (.aload_n 0, 1) := by decide +kernel
theorem dX8_place_91 : decode cX8_place 91 = .ok (.getfield 13, 3) := by decide +kernel
theorem dX8_place_94 : decode cX8_place 94 = .ok (.sipush 256, 3) := by decide +kernel
theorem dX8_place_97 : decode cX8_place 97 = .ok (.iload_n 1, 1) := by decide +kernel
theorem dX8_place_98 : decode cX8_place 98 = .ok (.iadd, 1) := by decide +kernel
theorem dX8_place_99 : decode cX8_place 99 = .ok (.iaload, 1) := by decide +kernel
theorem dX8_place_100 : decode cX8_place 100 = .ok (.ifCond .le 7, 3) := by decide +kernel
theorem dX8_place_103 : decode cX8_place 103 = .ok (.iconst 1, 1) := by decide +kernel
theorem dX8_place_104 : decode cX8_place 104 = .ok (.goto 4, 3) := by decide +kernel
theorem dX8_place_107 : decode cX8_place 107 = .ok (.iconst 0, 1) := by decide +kernel
theorem dX8_place_108 : decode cX8_place 108 = .ok (.ireturn, 1) := by decide +kernel
theorem dX8_place_109 : decode cX8_place 109 = .ok (.aload_n 0, 1) := by decide +kernel
theorem dX8_place_110 : decode cX8_place 110 = .ok (.invokevirtual 127, 3) := by decide +kernel
theorem dX8_place_113 : decode cX8_place 113 = .ok (.aload_n 0, 1) := by decide +kernel
theorem dX8_place_114 : decode cX8_place 114 = .ok (.getfield 28, 3) := by decide +kernel
theorem dX8_place_117 : decode cX8_place 117 = .ok (.iload_n 1, 1) := by decide +kernel
theorem dX8_place_118 : decode cX8_place 118 = .ok (.iaload, 1) := by decide +kernel
theorem dX8_place_119 : decode cX8_place 119 = .ok (.isub, 1) := by decide +kernel
theorem dX8_place_120 : decode cX8_place 120 = .ok (.ireturn, 1) := by decide +kernel
theorem dX8_place_121 : decode cX8_place 121 = .ok (.aload_n 0, 1) := by decide +kernel
theorem dX8_place_122 : decode cX8_place 122 = .ok (.getfield 34, 3) := by decide +kernel
theorem dX8_place_125 : decode cX8_place 125 = .ok (.iload_n 1, 1) := by decide +kernel
theorem dX8_place_126 : decode cX8_place 126 = .ok (.iaload, 1) := by decide +kernel
theorem dX8_place_127 : decode cX8_place 127 = .ok (.ireturn, 1) := by decide +kernel
theorem dX8_place_128 : decode cX8_place 128 = .ok (.aload_n 0, 1) := by decide +kernel
theorem dX8_place_129 : decode cX8_place 129 = .ok (.getfield 40, 3) := by decide +kernel
theorem dX8_place_132 : decode cX8_place 132 = .ok (.aload_n 0, 1) := by decide +kernel
theorem dX8_place_133 : decode cX8_place 133 = .ok (.getfield 34, 3) := by decide +kernel
theorem dX8_place_136 : decode cX8_place 136 = .ok (.iload_n 1, 1) := by decide +kernel
theorem dX8_place_137 : decode cX8_place 137 = .ok (.iaload, 1) := by decide +kernel
theorem dX8_place_138 : decode cX8_place 138 = .ok (.iaload, 1) := by decide +kernel
theorem dX8_place_139 : decode cX8_place 139 = .ok (.ireturn, 1) := by decide +kernel
theorem dX8_place_140 : decode cX8_place 140 = .ok (.aload_n 0, 1) := by decide +kernel
theorem dX8_place_141 : decode cX8_place 141 = .ok (.iload_n 1, 1) := by decide +kernel
theorem dX8_place_142 : decode cX8_place 142 = .ok (.invokevirtual 151, 3) := by decide +kernel
theorem dX8_place_145 : decode cX8_place 145 = .ok (.ireturn, 1) := by decide +kernel
theorem dX8_place_146 : decode cX8_place 146 = .ok (.aload_n 0, 1) := by decide +kernel
theorem dX8_place_147 : decode cX8_place 147 = .ok (.getfield 37, 3) := by decide +kernel
theorem dX8_place_150 : decode cX8_place 150 = .ok (.iload_n 1, 1) := by decide +kernel
theorem dX8_place_151 : decode cX8_place 151 = .ok (.iaload, 1) := by decide +kernel
theorem dX8_place_152 : decode cX8_place 152 = .ok (.ireturn, 1) := by decide +kernel
theorem dX8_place_153 : decode cX8_place 153 = .ok (.aload_n 0, 1) := by decide +kernel
theorem dX8_place_154 : decode cX8_place 154 = .ok (.iload_n 1, 1) := by decide +kernel
theorem dX8_place_155 : decode cX8_place 155 = .ok (.invokevirtual 154, 3) := by decide +kernel
theorem dX8_place_158 : decode cX8_place 158 = .ok (.ireturn, 1) := by decide +kernel
theorem dX8_place_159 : decode cX8_place 159 = .ok (.iconst 0, 1) := by decide +kernel
theorem dX8_place_160 : decode cX8_place 160 = .ok (.istore_n 3, 1) := by decide +kernel
theorem dX8_place_161 : decode cX8_place 161 = .ok (.iconst 0, 1) := by decide +kernel
theorem dX8_place_162 : decode cX8_place 162 = .ok (.istore 4, 2) := by decide +kernel
theorem dX8_place_164 : decode cX8_place 164 = .ok (.iload 4, 2) := by decide +kernel
theorem dX8_place_166 : decode cX8_place 166 = .ok (.aload_n 0, 1) := by decide +kernel
theorem dX8_place_167 : decode cX8_place 167 = .ok (.getfield 57, 3) := by decide +kernel
theorem dX8_place_170 : decode cX8_place 170 = .ok (.if_icmp .ge 32, 3) := by decide +kernel
theorem dX8_place_173 : decode cX8_place 173 = .ok (.iload_n 3, 1) := by decide +kernel
theorem dX8_place_174 : decode cX8_place 174 = .ok (.aload_n 0, 1) := by decide +kernel
theorem dX8_place_175 : decode cX8_place 175 = .ok (.getfield 13, 3) := by decide +kernel
theorem dX8_place_178 : decode cX8_place 178 = .ok (.bipush 16, 2) := by decide +kernel
theorem dX8_place_180 : decode cX8_place 180 = .ok (.iload_n 1, 1) := by decide +kernel
theorem dX8_place_181 : decode cX8_place 181 = .ok (.imul, 1) := by decide +kernel
theorem dX8_place_182 : decode cX8_place 182 = .ok (.iload 4, 2) := by decide +kernel
theorem dX8_place_184 : decode cX8_place 184 = .ok (.iadd, 1) := by decide +kernel
theorem dX8_place_185 : decode cX8_place 185 = .ok (.iaload, 1) := by decide +kernel
theorem dX8_place_186 : decode cX8_place 186 = .ok (.ifCond .le 7, 3) := by decide +kernel
theorem dX8_place_189 : decode cX8_place 189 = .ok (.iconst 1, 1) := by decide +kernel
theorem dX8_place_190 : decode cX8_place 190 = .ok (.goto 4, 3) := by decide +kernel
theorem dX8_place_193 : decode cX8_place 193 = .ok (.iconst 0, 1) := by decide +kernel
theorem dX8_place_194 : decode cX8_place 194 = .ok (.iadd, 1) := by decide +kernel
theorem dX8_place_195 : decode cX8_place 195 = .ok (.istore_n 3, 1) := by decide +kernel
theorem dX8_place_196 : decode cX8_place 196 = .ok (.iinc 4 1, 3) := by decide +kernel
theorem dX8_place_199 : decode cX8_place 199 = .ok (.goto (-35), 3) := by decide +kernel
theorem dX8_place_202 : decode cX8_place 202 = .ok (.iload_n 3, 1) := by decide +kernel
theorem dX8_place_203 : decode cX8_place 203 = .ok (.ireturn, 1) := by decide +kernel
set_option maxRecDepth 20000 in
theorem ggX8_far_X8_isPlace : GoodIn wsX8_far wsX8_isPlace := goodIn_r _ [7, 8, 9, 10, 6, 11, 17, 18, 19, 20, 21, 22, 23, 24, 25, 26, 27, 28, 29, 30, 31, 32, 33, 34, 35, 36] (by decide +kernel) (by decide +kernel)
set_option maxRecDepth 20000 in
theorem gX8_far_X8_isPlace : GoodIn wsX8_far (wsV RX8 160 RX8 yX8_isPlace wsX8_isPlace) := goodIn_app (goodIn_of _ (by decide +kernel)) ggX8_far_X8_isPlace
set_option maxRecDepth 20000 in
theorem ggX8_far_X8_ways : GoodIn wsX8_far wsX8_ways := goodIn_r _ [15, 8, 16, 1, 2, 17, 18, 19, 20, 21, 22, 23, 24, 25, 26, 27, 28, 29, 30, 31, 32, 33, 34, 35, 36] (by decide +kernel) (by decide +kernel)
set_option maxRecDepth 20000 in
theorem gX8_far_X8_ways : GoodIn wsX8_far (wsV RX8 137 RX8 yX8_ways wsX8_ways) := goodIn_app (goodIn_of _ (by decide +kernel)) ggX8_far_X8_ways
theorem dX8_far_0 : decode cX8_far 0 = .ok (.aload_n 0, 1) := by decide +kernel
theorem dX8_far_1 : decode cX8_far 1 = .ok (.iload_n 1, 1) := by decide +kernel
theorem dX8_far_2 : decode cX8_far 2 = .ok (.invokevirtual 160, 3) := by decide +kernel
theorem dX8_far_5 : decode cX8_far 5 = .ok (.ifCond .eq 11, 3) := by decide +kernel
theorem dX8_far_8 : decode cX8_far 8 = .ok (.aload_n 0, 1) := by decide +kernel
theorem dX8_far_9 : decode cX8_far 9 = .ok (.iload_n 2, 1) := by decide +kernel
theorem dX8_far_10 : decode cX8_far 10 = .ok (.invokevirtual 160, 3) := by decide +kernel
theorem dX8_far_13 : decode cX8_far 13 = .ok (.ifCond .ne 5, 3) := by decide +kernel
theorem dX8_far_16 : decode cX8_far 16 = .ok (.iconst (-1), 1) := by decide +kernel
theorem dX8_far_17 : decode cX8_far 17 = .ok (.ireturn, 1) := by decide +kernel
theorem dX8_far_18 : decode cX8_far 18 = .ok (.aload_n 0, 1) := by decide +kernel
theorem dX8_far_19 : decode cX8_far 19 = .ok (.invokevirtual 137, 3) := by decide +kernel
theorem dX8_far_22 : decode cX8_far 22 = .ok (.aload_n 0, 1) := by decide +kernel
theorem dX8_far_23 : decode cX8_far 23 = .ok (.getfield 25, 3) := by decide +kernel
theorem dX8_far_26 : decode cX8_far 26 = .ok (.bipush 16, 2) := by decide +kernel
theorem dX8_far_28 : decode cX8_far 28 = .ok (.iload_n 1, 1) := by decide +kernel
theorem dX8_far_29 : decode cX8_far 29 = .ok (.imul, 1) := by decide +kernel
theorem dX8_far_30 : decode cX8_far 30 = .ok (.iload_n 2, 1) := by decide +kernel
theorem dX8_far_31 : decode cX8_far 31 = .ok (.iadd, 1) := by decide +kernel
theorem dX8_far_32 : decode cX8_far 32 = .ok (.iaload, 1) := by decide +kernel
theorem dX8_far_33 : decode cX8_far 33 = .ok (.ldc 126, 2) := by decide +kernel
theorem dX8_far_35 : decode cX8_far 35 = .ok (.if_icmp .ge 17, 3) := by decide +kernel
theorem dX8_far_38 : decode cX8_far 38 = .ok (.aload_n 0, 1) := by decide +kernel
theorem dX8_far_39 : decode cX8_far 39 = .ok (.getfield 25, 3) := by decide +kernel
theorem dX8_far_42 : decode cX8_far 42 = .ok (.bipush 16, 2) := by decide +kernel
theorem dX8_far_44 : decode cX8_far 44 = .ok (.iload_n 1, 1) := by decide +kernel
theorem dX8_far_45 : decode cX8_far 45 = .ok (.imul, 1) := by decide +kernel
theorem dX8_far_46 : decode cX8_far 46 = .ok (.iload_n 2, 1) := by decide +kernel
theorem dX8_far_47 : decode cX8_far 47 = .ok (.iadd, 1) := by decide +kernel
theorem dX8_far_48 : decode cX8_far 48 = .ok (.iaload, 1) := by decide +kernel
theorem dX8_far_49 : decode cX8_far 49 = .ok (.goto 5, 3) := by decide +kernel
theorem dX8_far_52 : decode cX8_far 52 = .ok (.bipush (-4), 2) := by decide +kernel
theorem dX8_far_54 : decode cX8_far 54 = .ok (.ireturn, 1) := by decide +kernel
set_option maxRecDepth 20000 in
theorem ggX8_front_X8_isIn : GoodIn wsX8_front wsX8_isIn := goodIn_r _ [6] (by decide +kernel) (by decide +kernel)
set_option maxRecDepth 20000 in
theorem gX8_front_X8_isIn : GoodIn wsX8_front (va_wsS RX8 82 yX8_isIn wsX8_isIn) := goodIn_app (goodIn_of _ (by decide +kernel)) ggX8_front_X8_isIn
set_option maxRecDepth 20000 in
theorem ggX8_front_X8_settle : GoodIn wsX8_front wsX8_settle := goodIn_r _ [10, 11, 12, 13, 14, 5, 15, 1, 16, 17, 18, 19, 20, 21, 22, 23, 24, 25, 26, 27, 28, 29, 30, 31, 32, 33, 34, 35, 36, 37, 38, 39, 40, 41, 42, 2, 43, 44, 45, 46, 47, 48, 49, 50, 51, 52, 53, 54, 55, 56, 57, 58, 59, 60, 61, 62, 63, 64, 65, 66, 67, 68, 69, 70, 71] (by decide +kernel) (by decide +kernel)
set_option maxRecDepth 20000 in
theorem gX8_front_X8_settle : GoodIn wsX8_front (wsV RX8 172 RX8 yX8_settle wsX8_settle) := goodIn_app (goodIn_of _ (by decide +kernel)) ggX8_front_X8_settle
theorem dX8_front_0 : decode cX8_front 0 = .ok (.iload_n 1, 1) := by decide +kernel
theorem dX8_front_1 : decode cX8_front 1 = .ok (.iconst 0, 1) := by decide +kernel
theorem dX8_front_2 : decode cX8_front 2 = .ok (.sipush 200, 3) := by decide +kernel
theorem dX8_front_5 : decode cX8_front 5 = .ok (.invokestatic 82, 3) := by decide +kernel
theorem dX8_front_8 : decode cX8_front 8 = .ok (.ifCond .eq 8, 3) := by decide +kernel
theorem dX8_front_11 : decode cX8_front 11 = .ok (.iload_n 2, 1) := by decide +kernel
theorem dX8_front_12 : decode cX8_front 12 = .ok (.iconst (-1), 1) := by decide +kernel
theorem dX8_front_13 : decode cX8_front 13 = .ok (.if_icmp .ge 5, 3) := by decide +kernel
theorem dX8_front_16 : decode cX8_front 16 = .ok (.iconst (-1), 1) := by decide +kernel
theorem dX8_front_17 : decode cX8_front 17 = .ok (.ireturn, 1) := by decide +kernel
theorem dX8_front_18 : decode cX8_front 18 = .ok (.aload_n 0, 1) := by decide +kernel
theorem dX8_front_19 : decode cX8_front 19 = .ok (.invokevirtual 172, 3) := by decide +kernel
theorem dX8_front_22 : decode cX8_front 22 = .ok (.iconst 0, 1) := by decide +kernel
theorem dX8_front_23 : decode cX8_front 23 = .ok (.istore_n 3, 1) := by decide +kernel
theorem dX8_front_24 : decode cX8_front 24 = .ok (.iconst 0, 1) := by decide +kernel
theorem dX8_front_25 : decode cX8_front 25 = .ok (.istore 4, 2) := by decide +kernel
theorem dX8_front_27 : decode cX8_front 27 = .ok (.iload 4, 2) := by decide +kernel
theorem dX8_front_29 : decode cX8_front 29 = .ok (.aload_n 0, 1) := by decide +kernel
theorem dX8_front_30 : decode cX8_front 30 = .ok (.getfield 57, 3) := by decide +kernel
theorem dX8_front_33 : decode cX8_front 33 = .ok (.if_icmp .ge 31, 3) := by decide +kernel
theorem dX8_front_36 : decode cX8_front 36 = .ok (.aload_n 0, 1) := by decide +kernel
theorem dX8_front_37 : decode cX8_front 37 = .ok (.getfield 37, 3) := by decide +kernel
theorem dX8_front_40 : decode cX8_front 40 = .ok (.iload 4, 2) := by decide +kernel
theorem dX8_front_42 : decode cX8_front 42 = .ok (.iaload, 1) := by decide +kernel
theorem dX8_front_43 : decode cX8_front 43 = .ok (.iload_n 1, 1) := by decide +kernel
theorem dX8_front_44 : decode cX8_front 44 = .ok (.if_icmp .ne 14, 3) := by decide +kernel
theorem dX8_front_47 : decode cX8_front 47 = .ok (.iload_n 3, 1) := by decide +kernel
theorem dX8_front_48 : decode cX8_front 48 = .ok (.iload_n 2, 1) := by decide +kernel
theorem dX8_front_49 : decode cX8_front 49 = .ok (.if_icmp .ne 6, 3) := by decide +kernel
theorem dX8_front_52 : decode cX8_front 52 = .ok (.iload 4, 2) := by decide +kernel
theorem dX8_front_54 : decode cX8_front 54 = .ok (.ireturn, 1) := by decide +kernel
theorem dX8_front_55 : decode cX8_front 55 = .ok (.iinc 3 1, 3) := by decide +kernel
theorem dX8_front_58 : decode cX8_front 58 = .ok (.iinc 4 1, 3) := by decide +kernel
theorem dX8_front_61 : decode cX8_front 61 = .ok (.goto (-34), 3) := by decide +kernel
theorem dX8_front_64 : decode cX8_front 64 = .ok (.iload_n 2, 1) := by decide +kernel
theorem dX8_front_65 : decode cX8_front 65 = .ok (.iconst (-1), 1) := by decide +kernel
theorem dX8_front_66 : decode cX8_front 66 = .ok (.if_icmp .ne 7, 3) := by decide +kernel
theorem dX8_front_69 : decode cX8_front 69 = .ok (.iload_n 3, 1) := by decide +kernel
theorem dX8_front_70 : decode cX8_front 70 = .ok (.goto 5, 3) := by decide +kernel
theorem dX8_front_73 : decode cX8_front 73 = .ok (.bipush (-4), 2) := by decide +kernel
theorem dX8_front_75 : decode cX8_front 75 = .ok (.ireturn, 1) := by decide +kernel
set_option maxRecDepth 20000 in
theorem ggX8_linkOf_X8_areTwo : GoodIn wsX8_linkOf wsX8_areTwo := goodIn_r _ [6, 7, 8, 9, 5, 10, 11, 12, 13, 14, 72, 73, 74, 75, 76, 77, 78, 79, 80, 81, 82, 83, 84, 85, 86, 87, 88, 89, 90, 91] (by decide +kernel) (by decide +kernel)
set_option maxRecDepth 20000 in
theorem gX8_linkOf_X8_areTwo : GoodIn wsX8_linkOf (wsV RX8 163 RX8 yX8_areTwo wsX8_areTwo) := goodIn_app (goodIn_of _ (by decide +kernel)) ggX8_linkOf_X8_areTwo
set_option maxRecDepth 20000 in
theorem ggX8_linkOf_X8_isIn : GoodIn wsX8_linkOf wsX8_isIn := goodIn_r _ [14] (by decide +kernel) (by decide +kernel)
set_option maxRecDepth 20000 in
theorem gX8_linkOf_X8_isIn : GoodIn wsX8_linkOf (va_wsS RX8 82 yX8_isIn wsX8_isIn) := goodIn_app (goodIn_of _ (by decide +kernel)) ggX8_linkOf_X8_isIn
set_option maxRecDepth 20000 in
theorem ggX8_linkOf_X8_settle : GoodIn wsX8_linkOf wsX8_settle := goodIn_r _ [18, 1, 19, 20, 21, 5, 22, 11, 23, 24, 25, 26, 27, 28, 29, 30, 31, 32, 33, 34, 35, 36, 37, 38, 39, 40, 41, 42, 43, 44, 45, 46, 47, 48, 49, 50, 51, 52, 53, 54, 55, 56, 57, 58, 59, 72, 73, 74, 75, 76, 77, 78, 79, 80, 81, 82, 83, 84, 85, 86, 87, 88, 89, 90, 91] (by decide +kernel) (by decide +kernel)
set_option maxRecDepth 20000 in
theorem gX8_linkOf_X8_settle : GoodIn wsX8_linkOf (wsV RX8 172 RX8 yX8_settle wsX8_settle) := goodIn_app (goodIn_of _ (by decide +kernel)) ggX8_linkOf_X8_settle
set_option maxRecDepth 20000 in
theorem ggX8_linkOf_X8_sortOf : GoodIn wsX8_linkOf wsX8_sortOf := goodIn_r _ [63, 49, 64, 65, 66, 5, 67, 11, 1, 68, 69, 70, 71, 29, 72, 73, 74, 75, 76, 77, 78, 79, 80, 81, 82, 83, 84, 85, 86, 87, 88, 89, 90, 91] (by decide +kernel) (by decide +kernel)
set_option maxRecDepth 20000 in
theorem gX8_linkOf_X8_sortOf : GoodIn wsX8_linkOf (wsV RX8 157 RX8 yX8_sortOf wsX8_sortOf) := goodIn_app (goodIn_of _ (by decide +kernel)) ggX8_linkOf_X8_sortOf
theorem dX8_linkOf_0 : decode cX8_linkOf 0 = .ok (.aload_n 0, 1) := by decide +kernel
theorem dX8_linkOf_1 : decode cX8_linkOf 1 = .ok (.iload_n 1, 1) := by decide +kernel
theorem dX8_linkOf_2 : decode cX8_linkOf 2 = .ok (.iload_n 2, 1) := by decide +kernel
theorem dX8_linkOf_3 : decode cX8_linkOf 3 = .ok (.invokevirtual 163, 3) := by decide +kernel
theorem dX8_linkOf_6 : decode cX8_linkOf 6 = .ok (.ifCond .eq 12, 3) := by decide +kernel
theorem dX8_linkOf_9 : decode cX8_linkOf 9 = .ok (.iload_n 3, 1) := by decide +kernel
theorem dX8_linkOf_10 : decode cX8_linkOf 10 = .ok (.iconst 0, 1) := by decide +kernel
theorem dX8_linkOf_11 : decode cX8_linkOf 11 = .ok (.iconst 1, 1) := by decide +kernel
theorem dX8_linkOf_12 : decode cX8_linkOf 12 = .ok (.invokestatic 82, 3) := by decide +kernel
theorem dX8_linkOf_15 : decode cX8_linkOf 15 = .ok (.ifCond .ne 5, 3) := by decide +kernel
theorem dX8_linkOf_18 : decode cX8_linkOf 18 = .ok (.iconst (-1), 1) := by decide +kernel
theorem dX8_linkOf_19 : decode cX8_linkOf 19 = .ok (.ireturn, 1) := by decide +kernel
theorem dX8_linkOf_20 : decode cX8_linkOf 20 = .ok (.aload_n 0, 1) := by decide +kernel
theorem dX8_linkOf_21 : decode cX8_linkOf 21 = .ok (.getfield 13, 3) := by decide +kernel
theorem dX8_linkOf_24 : decode cX8_linkOf 24 = .ok (.bipush 16, 2) := by decide +kernel
theorem dX8_linkOf_26 : decode cX8_linkOf 26 = .ok (.iload_n 1, 1) := by decide +kernel
theorem dX8_linkOf_27 : decode cX8_linkOf 27 = .ok (.imul, 1) := by decide +kernel
theorem dX8_linkOf_28 : decode cX8_linkOf 28 = .ok (.iload_n 2, 1) := by decide +kernel
theorem dX8_linkOf_29 : decode cX8_linkOf 29 = .ok (.iadd, 1) := by decide +kernel
theorem dX8_linkOf_30 : decode cX8_linkOf 30 = .ok (.iaload, 1) := by decide +kernel
theorem dX8_linkOf_31 : decode cX8_linkOf 31 = .ok (.ifCond .ne 6, 3) := by decide +kernel
theorem dX8_linkOf_34 : decode cX8_linkOf 34 = .ok (.bipush (-4), 2) := by decide +kernel
theorem dX8_linkOf_36 : decode cX8_linkOf 36 = .ok (.ireturn, 1) := by decide +kernel
theorem dX8_linkOf_37 : decode cX8_linkOf 37 = .ok (.aload_n 0, 1) := by decide +kernel
theorem dX8_linkOf_38 : decode cX8_linkOf 38 = .ok (.invokevirtual 172, 3) := by decide +kernel
theorem dX8_linkOf_41 : decode cX8_linkOf 41 = .ok (.iload_n 3, 1) := by decide +kernel
theorem dX8_linkOf_42 : decode cX8_linkOf 42 = .ok (.ifCond .ne 17, 3) := by decide +kernel
theorem dX8_linkOf_45 : decode cX8_linkOf 45 = .ok (.aload_n 0, 1) := by decide +kernel
theorem dX8_linkOf_46 : decode cX8_linkOf 46 = .ok (.getfield 13, 3) := by decide +kernel
theorem dX8_linkOf_49 : decode cX8_linkOf 49 = .ok (.bipush 16, 2) := by decide +kernel
theorem dX8_linkOf_51 : decode cX8_linkOf 51 = .ok (.iload_n 1, 1) := by decide +kernel
theorem dX8_linkOf_52 : decode cX8_linkOf 52 = .ok (.imul, 1) := by decide +kernel
theorem dX8_linkOf_53 : decode cX8_linkOf 53 = .ok (.iload_n 2, 1) := by decide +kernel
theorem dX8_linkOf_54 : decode cX8_linkOf 54 = .ok (.iadd, 1) := by decide +kernel
theorem dX8_linkOf_55 : decode cX8_linkOf 55 = .ok (.iaload, 1) := by decide +kernel
theorem dX8_linkOf_56 : decode cX8_linkOf 56 = .ok (.goto 9, 3) := by decide +kernel
theorem dX8_linkOf_59 : decode cX8_linkOf 59 = .ok (.aload_n 0, 1) := by decide +kernel
theorem dX8_linkOf_60 : decode cX8_linkOf 60 = .ok (.iload_n 1, 1) := by decide +kernel
theorem dX8_linkOf_61 : decode cX8_linkOf 61 = .ok (.iload_n 2, 1) := by decide +kernel
theorem dX8_linkOf_62 : decode cX8_linkOf 62 = .ok (.invokevirtual 157, 3) := by decide +kernel
theorem dX8_linkOf_65 : decode cX8_linkOf 65 = .ok (.ireturn, 1) := by decide +kernel
theorem dX8_headOf_0 : decode cX8_headOf 0 = .ok (.iconst 0, 1) := by decide +kernel
theorem dX8_headOf_1 : decode cX8_headOf 1 = .ok (.istore_n 2, 1) := by decide +kernel
theorem dX8_headOf_2 : decode cX8_headOf 2 = .ok (.aload_n 0, 1) := by decide +kernel
theorem dX8_headOf_3 : decode cX8_headOf 3 = .ok (.getfield 40, 3) := by decide +kernel
theorem dX8_headOf_6 : decode cX8_headOf 6 = .ok (.iload_n 2, 1) := by decide +kernel
theorem dX8_headOf_7 : decode cX8_headOf 7 = .ok (.iaload, 1) := by decide +kernel
theorem dX8_headOf_8 : decode cX8_headOf 8 = .ok (.iload_n 1, 1) := by decide +kernel
theorem dX8_headOf_9 : decode cX8_headOf 9 = .ok (.if_icmp .eq 9, 3) := by decide +kernel
theorem dX8_headOf_12 : decode cX8_headOf 12 = .ok (.iinc 2 1, 3) := by decide +kernel
theorem dX8_headOf_15 : decode cX8_headOf 15 = .ok (.goto (-13), 3) := by decide +kernel
theorem dX8_headOf_18 : decode cX8_headOf 18 = .ok (.iload_n 2, 1) := by decide +kernel
theorem dX8_headOf_19 : decode cX8_headOf 19 = .ok (.ireturn, 1) := by decide +kernel
theorem dX8_between_0 : decode cX8_between 0 = .ok (.iconst 0, 1) := by decide +kernel
theorem dX8_between_1 : decode cX8_between 1 = .ok (.istore 4, 2) := by decide +kernel
theorem dX8_between_3 : decode cX8_between 3 = .ok (.bipush (-4), 2) := by decide +kernel
theorem dX8_between_5 : decode cX8_between 5 = .ok (.istore 5, 2) := by decide +kernel
theorem dX8_between_7 : decode cX8_between 7 = .ok (.iconst 0, 1) := by decide +kernel
theorem dX8_between_8 : decode cX8_between 8 = .ok (.istore 6, 2) := by decide +kernel
theorem dX8_between_10 : decode cX8_between 10 = .ok (.iload 6, 2) := by decide +kernel
theorem dX8_between_12 : decode cX8_between 12 = .ok (.aload_n 0, 1) := by decide +kernel
theorem dX8_between_13 : decode cX8_between 13 = .ok (.getfield 57, 3) := by decide +kernel
theorem dX8_between_16 : decode cX8_between 16 = .ok (.if_icmp .ge 121, 3) := by decide +kernel
theorem dX8_between_19 : decode cX8_between 19 = .ok (.iconst 0, 1) := by decide +kernel
theorem dX8_between_20 : decode cX8_between 20 = .ok (.istore 7, 2) := by decide +kernel
theorem dX8_between_22 : decode cX8_between 22 = .ok (.iload 7, 2) := by decide +kernel
theorem dX8_between_24 : decode cX8_between 24 = .ok (.aload_n 0, 1) := by decide +kernel
theorem dX8_between_25 : decode cX8_between 25 = .ok (.getfield 57, 3) := by decide +kernel
theorem dX8_between_28 : decode cX8_between 28 = .ok (.if_icmp .ge 103, 3) := by decide +kernel
theorem dX8_between_31 : decode cX8_between 31 = .ok (.aload_n 0, 1) := by decide +kernel
theorem dX8_between_32 : decode cX8_between 32 = .ok (.getfield 13, 3) := by decide +kernel
theorem dX8_between_35 : decode cX8_between 35 = .ok (.bipush 16, 2) := by decide +kernel
theorem dX8_between_37 : decode cX8_between 37 = .ok (.iload 6, 2) := by decide +kernel
theorem dX8_between_39 : decode cX8_between 39 = .ok (.imul, 1) := by decide +kernel
theorem dX8_between_40 : decode cX8_between 40 = .ok (.iload 7, 2) := by decide +kernel
theorem dX8_between_42 : decode cX8_between 42 = .ok (.iadd, 1) := by decide +kernel
theorem dX8_between_43 : decode cX8_between 43 = .ok (.iaload, 1) := by decide +kernel
theorem dX8_between_44 : decode cX8_between 44 = .ok (.istore 8, 2) := by decide +kernel
theorem dX8_between_46 : decode cX8_between 46 = .ok (.aload_n 0, 1) := by decide +kernel
theorem dX8_between_47 : decode cX8_between 47 = .ok (.getfield 40, 3) := by decide +kernel
theorem dX8_between_50 : decode cX8_between 50 = .ok (.aload_n 0, 1) := by decide +kernel
theorem dX8_between_51 : decode cX8_between 51 = .ok (.getfield 34, 3) := by decide +kernel
theorem dX8_between_54 : decode cX8_between 54 = .ok (.iload 7, 2) := by decide +kernel
theorem dX8_between_56 : decode cX8_between 56 = .ok (.iaload, 1) := by decide +kernel
theorem dX8_between_57 : decode cX8_between 57 = .ok (.iaload, 1) := by decide +kernel
theorem dX8_between_58 : decode cX8_between 58 = .ok (.istore 9, 2) := by decide +kernel
theorem dX8_between_60 : decode cX8_between 60 = .ok (.iload 8, 2) := by decide +kernel
theorem dX8_between_62 : decode cX8_between 62 = .ok (.ifCond .le 63, 3) := by decide +kernel
theorem dX8_between_65 : decode cX8_between 65 = .ok (.aload_n 0, 1) := by decide +kernel
theorem dX8_between_66 : decode cX8_between 66 = .ok (.getfield 40, 3) := by decide +kernel
theorem dX8_between_69 : decode cX8_between 69 = .ok (.aload_n 0, 1) := by decide +kernel
theorem dX8_between_70 : decode cX8_between 70 = .ok (.getfield 34, 3) := by decide +kernel
theorem dX8_between_73 : decode cX8_between 73 = .ok (.iload 6, 2) := by decide +kernel
theorem dX8_between_75 : decode cX8_between 75 = .ok (.iaload, 1) := by decide +kernel
theorem dX8_between_76 : decode cX8_between 76 = .ok (.iaload, 1) := by decide +kernel
theorem dX8_between_77 : decode cX8_between 77 = .ok (.iload_n 1, 1) := by decide +kernel
theorem dX8_between_78 : decode cX8_between 78 = .ok (.if_icmp .ne 47, 3) := by decide +kernel
theorem dX8_between_81 : decode cX8_between 81 = .ok (.iload 9, 2) := by decide +kernel
theorem dX8_between_83 : decode cX8_between 83 = .ok (.iload_n 1, 1) := by decide +kernel
theorem dX8_between_84 : decode cX8_between 84 = .ok (.if_icmp .eq 41, 3) := by decide +kernel
theorem dX8_between_87 : decode cX8_between 87 = .ok (.iload_n 2, 1) := by decide +kernel
theorem dX8_between_88 : decode cX8_between 88 = .ok (.bipush (-4), 2) := by decide +kernel
theorem dX8_between_90 : decode cX8_between 90 = .ok (.if_icmp .eq 9, 3) := by decide +kernel
theorem dX8_between_93 : decode cX8_between 93 = .ok (.iload 9, 2) := by decide +kernel
theorem dX8_between_95 : decode cX8_between 95 = .ok (.iload_n 2, 1) := by decide +kernel
theorem dX8_between_96 : decode cX8_between 96 = .ok (.if_icmp .ne 29, 3) := by decide +kernel
theorem dX8_between_99 : decode cX8_between 99 = .ok (.iinc 4 1, 3) := by decide +kernel
theorem dX8_between_102 : decode cX8_between 102 = .ok (.iload 5, 2) := by decide +kernel
theorem dX8_between_104 : decode cX8_between 104 = .ok (.bipush (-4), 2) := by decide +kernel
theorem dX8_between_106 : decode cX8_between 106 = .ok (.if_icmp .eq 10, 3) := by decide +kernel
theorem dX8_between_109 : decode cX8_between 109 = .ok (.iload 8, 2) := by decide +kernel
theorem dX8_between_111 : decode cX8_between 111 = .ok (.iload 5, 2) := by decide +kernel
theorem dX8_between_113 : decode cX8_between 113 = .ok (.if_icmp .ge 8, 3) := by decide +kernel
theorem dX8_between_116 : decode cX8_between 116 = .ok (.iload 8, 2) := by decide +kernel
theorem dX8_between_118 : decode cX8_between 118 = .ok (.goto 5, 3) := by decide +kernel
theorem dX8_between_121 : decode cX8_between 121 = .ok (.iload 5, 2) := by decide +kernel
theorem dX8_between_123 : decode cX8_between 123 = .ok (.istore 5, 2) := by decide +kernel
theorem dX8_between_125 : decode cX8_between 125 = .ok (.iinc 7 1, 3) := by decide +kernel
theorem dX8_between_128 : decode cX8_between 128 = .ok (.goto (-106), 3) := by decide +kernel
theorem dX8_between_131 : decode cX8_between 131 = .ok (.iinc 6 1, 3) := by decide +kernel
theorem dX8_between_134 : decode cX8_between 134 = .ok (.goto (-124), 3) := by decide +kernel
theorem dX8_between_137 : decode cX8_between 137 = .ok (.iload_n 3, 1) := by decide +kernel
theorem dX8_between_138 : decode cX8_between 138 = .ok (.ifCond .eq 8, 3) := by decide +kernel
theorem dX8_between_141 : decode cX8_between 141 = .ok (.iload 5, 2) := by decide +kernel
theorem dX8_between_143 : decode cX8_between 143 = .ok (.goto 5, 3) := by decide +kernel
theorem dX8_between_146 : decode cX8_between 146 = .ok (.iload 4, 2) := by decide +kernel
theorem dX8_between_148 : decode cX8_between 148 = .ok (.ireturn, 1) := by decide +kernel
set_option maxRecDepth 20000 in
theorem ggX8_cluster_X8_settle : GoodIn wsX8_cluster wsX8_settle := goodIn_r _ [8, 9, 10, 11, 12, 7, 13, 2, 14, 15, 16, 17, 18, 19, 20, 21, 22, 23, 24, 25, 26, 27, 28, 29, 30, 31, 32, 33, 34, 35, 36, 37, 38, 1, 3, 39, 40, 41, 42, 43, 44, 45, 46, 47, 48, 68, 69, 70, 71, 72, 73, 74, 75, 76, 77, 78, 79, 80, 81, 82, 83, 84, 85, 86, 87] (by decide +kernel) (by decide +kernel)
set_option maxRecDepth 20000 in
theorem gX8_cluster_X8_settle : GoodIn wsX8_cluster (wsV RX8 172 RX8 yX8_settle wsX8_settle) := goodIn_app (goodIn_of _ (by decide +kernel)) ggX8_cluster_X8_settle
set_option maxRecDepth 20000 in
theorem ggX8_cluster_X8_isIn : GoodIn wsX8_cluster wsX8_isIn := goodIn_r _ [51] (by decide +kernel) (by decide +kernel)
set_option maxRecDepth 20000 in
theorem gX8_cluster_X8_isIn : GoodIn wsX8_cluster (va_wsS RX8 82 yX8_isIn wsX8_isIn) := goodIn_app (goodIn_of _ (by decide +kernel)) ggX8_cluster_X8_isIn
set_option maxRecDepth 20000 in
theorem ggX8_cluster_X8_headOf : GoodIn wsX8_cluster wsX8_headOf := goodIn_r _ [55, 40, 68, 69, 70, 71, 72, 73, 74, 75, 76, 77, 78, 79, 80, 81, 82, 83, 84, 85, 86, 87] (by decide +kernel) (by decide +kernel)
set_option maxRecDepth 20000 in
theorem gX8_cluster_X8_headOf : GoodIn wsX8_cluster (wsV RX8 175 RX8 yX8_headOf wsX8_headOf) := goodIn_app (goodIn_of _ (by decide +kernel)) ggX8_cluster_X8_headOf
set_option maxRecDepth 20000 in
theorem ggX8_cluster_X8_wide : GoodIn wsX8_cluster wsX8_wide := goodIn_r _ [59, 2, 3, 60, 61, 62, 7, 63, 20, 68, 69, 70, 71, 72, 73, 74, 75, 76, 77, 78, 79, 80, 81, 82, 83, 84, 85, 86, 87] (by decide +kernel) (by decide +kernel)
set_option maxRecDepth 20000 in
theorem gX8_cluster_X8_wide : GoodIn wsX8_cluster (wsV RX8 178 RX8 yX8_wide wsX8_wide) := goodIn_app (goodIn_of _ (by decide +kernel)) ggX8_cluster_X8_wide
set_option maxRecDepth 20000 in
theorem ggX8_cluster_X8_between : GoodIn wsX8_cluster wsX8_between := goodIn_r _ [67, 2, 9, 40, 3, 68, 69, 70, 71, 72, 73, 74, 75, 76, 77, 78, 79, 80, 81, 82, 83, 84, 85, 86, 87] (by decide +kernel) (by decide +kernel)
set_option maxRecDepth 20000 in
theorem gX8_cluster_X8_between : GoodIn wsX8_cluster (wsV RX8 181 RX8 yX8_between wsX8_between) := goodIn_app (goodIn_of _ (by decide +kernel)) ggX8_cluster_X8_between
theorem dX8_cluster_0 : decode cX8_cluster 0 = .ok (.aload_n 0, 1) := by decide +kernel
theorem dX8_cluster_1 : decode cX8_cluster 1 = .ok (.invokevirtual 172, 3) := by decide +kernel
theorem dX8_cluster_4 : decode cX8_cluster 4 = .ok (.iload_n 1, 1) := by decide +kernel
theorem dX8_cluster_5 : decode cX8_cluster 5 = .ok (.iconst 0, 1) := by decide +kernel
theorem dX8_cluster_6 : decode cX8_cluster 6 = .ok (.aload_n 0, 1) := by decide +kernel
theorem dX8_cluster_7 : decode cX8_cluster 7 = .ok (.getfield 130, 3) := by decide +kernel
theorem dX8_cluster_10 : decode cX8_cluster 10 = .ok (.iconst 1, 1) := by decide +kernel
theorem dX8_cluster_11 : decode cX8_cluster 11 = .ok (.isub, 1) := by decide +kernel
theorem dX8_cluster_12 : decode cX8_cluster 12 = .ok (.invokestatic 82, 3) := by decide +kernel
theorem dX8_cluster_15 : decode cX8_cluster 15 = .ok (.ifCond .eq 12, 3) := by decide +kernel
theorem dX8_cluster_18 : decode cX8_cluster 18 = .ok (.iload_n 2, 1) := by decide +kernel
theorem dX8_cluster_19 : decode cX8_cluster 19 = .ok (.iconst 0, 1) := by decide +kernel
theorem dX8_cluster_20 : decode cX8_cluster 20 = .ok (.iconst 5, 1) := by decide +kernel
theorem dX8_cluster_21 : decode cX8_cluster 21 = .ok (.invokestatic 82, 3) := by decide +kernel
theorem dX8_cluster_24 : decode cX8_cluster 24 = .ok (.ifCond .ne 5, 3) := by decide +kernel
theorem dX8_cluster_27 : decode cX8_cluster 27 = .ok (.iconst (-1), 1) := by decide +kernel
theorem dX8_cluster_28 : decode cX8_cluster 28 = .ok (.ireturn, 1) := by decide +kernel
theorem dX8_cluster_29 : decode cX8_cluster 29 = .ok (.aload_n 0, 1) := by decide +kernel
theorem dX8_cluster_30 : decode cX8_cluster 30 = .ok (.iload_n 1, 1) := by decide +kernel
theorem dX8_cluster_31 : decode cX8_cluster 31 = .ok (.invokevirtual 175, 3) := by decide +kernel
theorem dX8_cluster_34 : decode cX8_cluster 34 = .ok (.istore_n 3, 1) := by decide +kernel
theorem dX8_cluster_35 : decode cX8_cluster 35 = .ok (.iconst 0, 1) := by decide +kernel
theorem dX8_cluster_36 : decode cX8_cluster 36 = .ok (.istore 4, 2) := by decide +kernel
theorem dX8_cluster_38 : decode cX8_cluster 38 = .ok (.iconst 0, 1) := by decide +kernel
theorem dX8_cluster_39 : decode cX8_cluster 39 = .ok (.istore 5, 2) := by decide +kernel
theorem dX8_cluster_41 : decode cX8_cluster 41 = .ok (.iconst 0, 1) := by decide +kernel
theorem dX8_cluster_42 : decode cX8_cluster 42 = .ok (.istore 6, 2) := by decide +kernel
theorem dX8_cluster_44 : decode cX8_cluster 44 = .ok (.iload 6, 2) := by decide +kernel
theorem dX8_cluster_46 : decode cX8_cluster 46 = .ok (.aload_n 0, 1) := by decide +kernel
theorem dX8_cluster_47 : decode cX8_cluster 47 = .ok (.getfield 57, 3) := by decide +kernel
theorem dX8_cluster_50 : decode cX8_cluster 50 = .ok (.if_icmp .ge 54, 3) := by decide +kernel
theorem dX8_cluster_53 : decode cX8_cluster 53 = .ok (.iload 4, 2) := by decide +kernel
theorem dX8_cluster_55 : decode cX8_cluster 55 = .ok (.aload_n 0, 1) := by decide +kernel
theorem dX8_cluster_56 : decode cX8_cluster 56 = .ok (.getfield 34, 3) := by decide +kernel
theorem dX8_cluster_59 : decode cX8_cluster 59 = .ok (.iload 6, 2) := by decide +kernel
theorem dX8_cluster_61 : decode cX8_cluster 61 = .ok (.iaload, 1) := by decide +kernel
theorem dX8_cluster_62 : decode cX8_cluster 62 = .ok (.iload_n 3, 1) := by decide +kernel
theorem dX8_cluster_63 : decode cX8_cluster 63 = .ok (.if_icmp .ne 10, 3) := by decide +kernel
theorem dX8_cluster_66 : decode cX8_cluster 66 = .ok (.iconst 1, 1) := by decide +kernel
theorem dX8_cluster_67 : decode cX8_cluster 67 = .ok (.iload 6, 2) := by decide +kernel
theorem dX8_cluster_69 : decode cX8_cluster 69 = .ok (.ishl, 1) := by decide +kernel
theorem dX8_cluster_70 : decode cX8_cluster 70 = .ok (.goto 4, 3) := by decide +kernel
theorem dX8_cluster_73 : decode cX8_cluster 73 = .ok (.iconst 0, 1) := by decide +kernel
theorem dX8_cluster_74 : decode cX8_cluster 74 = .ok (.ior, 1) := by decide +kernel
theorem dX8_cluster_75 : decode cX8_cluster 75 = .ok (.istore 4, 2) := by decide +kernel
theorem dX8_cluster_77 : decode cX8_cluster 77 = .ok (.iload 5, 2) := by decide +kernel
theorem dX8_cluster_79 : decode cX8_cluster 79 = .ok (.aload_n 0, 1) := by decide +kernel
theorem dX8_cluster_80 : decode cX8_cluster 80 = .ok (.getfield 34, 3) := by decide +kernel
theorem dX8_cluster_83 : decode cX8_cluster 83 = .ok (.iload 6, 2) := by decide +kernel
theorem dX8_cluster_85 : decode cX8_cluster 85 = .ok (.iaload, 1) := by decide +kernel
theorem dX8_cluster_86 : decode cX8_cluster 86 = .ok (.iload_n 3, 1) := by decide +kernel
theorem dX8_cluster_87 : decode cX8_cluster 87 = .ok (.if_icmp .ne 7, 3) := by decide +kernel
theorem dX8_cluster_90 : decode cX8_cluster 90 = .ok (.iconst 1, 1) := by decide +kernel
theorem dX8_cluster_91 : decode cX8_cluster 91 = .ok (.goto 4, 3) := by decide +kernel
theorem dX8_cluster_94 : decode cX8_cluster 94 = .ok (.iconst 0, 1) := by decide +kernel
theorem dX8_cluster_95 : decode cX8_cluster 95 = .ok (.iadd, 1) := by decide +kernel
theorem dX8_cluster_96 : decode cX8_cluster 96 = .ok (.istore 5, 2) := by decide +kernel
theorem dX8_cluster_98 : decode cX8_cluster 98 = .ok (.iinc 6 1, 3) := by decide +kernel
theorem dX8_cluster_101 : decode cX8_cluster 101 = .ok (.goto (-57), 3) := by decide +kernel
theorem dX8_cluster_104 : decode cX8_cluster 104 = .ok (.iload_n 2, 1) := by decide +kernel
theorem dX8_cluster_105 : decode cX8_cluster 105 = .ok (.tableswitch 106 0 4 #[35, 37, 40, 46, 55], 35) := by decide +kernel
theorem dX8_cluster_140 : decode cX8_cluster 140 = .ok (.iload_n 3, 1) := by decide +kernel
theorem dX8_cluster_141 : decode cX8_cluster 141 = .ok (.ireturn, 1) := by decide +kernel
theorem dX8_cluster_142 : decode cX8_cluster 142 = .ok (.iload 5, 2) := by decide +kernel
theorem dX8_cluster_144 : decode cX8_cluster 144 = .ok (.ireturn, 1) := by decide +kernel
theorem dX8_cluster_145 : decode cX8_cluster 145 = .ok (.aload_n 0, 1) := by decide +kernel
theorem dX8_cluster_146 : decode cX8_cluster 146 = .ok (.iload_n 3, 1) := by decide +kernel
theorem dX8_cluster_147 : decode cX8_cluster 147 = .ok (.invokevirtual 178, 3) := by decide +kernel
theorem dX8_cluster_150 : decode cX8_cluster 150 = .ok (.ireturn, 1) := by decide +kernel
theorem dX8_cluster_151 : decode cX8_cluster 151 = .ok (.aload_n 0, 1) := by decide +kernel
theorem dX8_cluster_152 : decode cX8_cluster 152 = .ok (.iload_n 1, 1) := by decide +kernel
theorem dX8_cluster_153 : decode cX8_cluster 153 = .ok (.bipush (-4), 2) := by decide +kernel
theorem dX8_cluster_155 : decode cX8_cluster 155 = .ok (.iconst 0, 1) := by decide +kernel
theorem dX8_cluster_156 : decode cX8_cluster 156 = .ok (.invokevirtual 181, 3) := by decide +kernel
theorem dX8_cluster_159 : decode cX8_cluster 159 = .ok (.ireturn, 1) := by decide +kernel
theorem dX8_cluster_160 : decode cX8_cluster 160 = .ok (.iconst 0, 1) := by decide +kernel
theorem dX8_cluster_161 : decode cX8_cluster 161 = .ok (.istore 6, 2) := by decide +kernel
theorem dX8_cluster_163 : decode cX8_cluster 163 = .ok (.iconst 0, 1) := by decide +kernel
theorem dX8_cluster_164 : decode cX8_cluster 164 = .ok (.istore 7, 2) := by decide +kernel
theorem dX8_cluster_166 : decode cX8_cluster 166 = .ok (.iload 7, 2) := by decide +kernel
theorem dX8_cluster_168 : decode cX8_cluster 168 = .ok (.aload_n 0, 1) := by decide +kernel
theorem dX8_cluster_169 : decode cX8_cluster 169 = .ok (.getfield 130, 3) := by decide +kernel
theorem dX8_cluster_172 : decode cX8_cluster 172 = .ok (.if_icmp .ge 36, 3) := by decide +kernel
theorem dX8_cluster_175 : decode cX8_cluster 175 = .ok (.iload 6, 2) := by decide +kernel
theorem dX8_cluster_177 : decode cX8_cluster 177 = .ok (.iload 7, 2) := by decide +kernel
theorem dX8_cluster_179 : decode cX8_cluster 179 = .ok (.iload_n 1, 1) := by decide +kernel
theorem dX8_cluster_180 : decode cX8_cluster 180 = .ok (.if_icmp .eq 18, 3) := by decide +kernel
theorem dX8_cluster_183 : decode cX8_cluster 183 = .ok (.aload_n 0, 1) := by decide +kernel
theorem dX8_cluster_184 : decode cX8_cluster 184 = .ok (.iload_n 1, 1) := by decide +kernel
theorem dX8_cluster_185 : decode cX8_cluster 185 = .ok (.iload 7, 2) := by decide +kernel
theorem dX8_cluster_187 : decode cX8_cluster 187 = .ok (.iconst 0, 1) := by decide +kernel
theorem dX8_cluster_188 : decode cX8_cluster 188 = .ok (.invokevirtual 181, 3) := by decide +kernel
theorem dX8_cluster_191 : decode cX8_cluster 191 = .ok (.ifCond .le 7, 3) := by decide +kernel
theorem dX8_cluster_194 : decode cX8_cluster 194 = .ok (.iconst 1, 1) := by decide +kernel
theorem dX8_cluster_195 : decode cX8_cluster 195 = .ok (.goto 4, 3) := by decide +kernel
theorem dX8_cluster_198 : decode cX8_cluster 198 = .ok (.iconst 0, 1) := by decide +kernel
theorem dX8_cluster_199 : decode cX8_cluster 199 = .ok (.iadd, 1) := by decide +kernel
theorem dX8_cluster_200 : decode cX8_cluster 200 = .ok (.istore 6, 2) := by decide +kernel
theorem dX8_cluster_202 : decode cX8_cluster 202 = .ok (.iinc 7 1, 3) := by decide +kernel
theorem dX8_cluster_205 : decode cX8_cluster 205 = .ok (.goto (-39), 3) := by decide +kernel
theorem dX8_cluster_208 : decode cX8_cluster 208 = .ok (.iload 6, 2) := by decide +kernel
theorem dX8_cluster_210 : decode cX8_cluster 210 = .ok (.ireturn, 1) := by decide +kernel
theorem dX8_cluster_211 : decode cX8_cluster 211 = .ok (.iload 4, 2) := by decide +kernel
theorem dX8_cluster_213 : decode cX8_cluster 213 = .ok (.ireturn, 1) := by decide +kernel
set_option maxRecDepth 20000 in
theorem ggX8_beside_X8_settle : GoodIn wsX8_beside wsX8_settle := goodIn_r _ [6, 7, 8, 9, 10, 5, 11, 12, 13, 14, 15, 16, 17, 18, 19, 20, 21, 22, 23, 24, 25, 26, 27, 28, 29, 30, 31, 32, 33, 34, 35, 36, 37, 1, 38, 39, 40, 41, 42, 43, 44, 45, 46, 47, 48, 56, 57, 58, 59, 60, 61, 62, 63, 64, 65, 66, 67, 68, 69, 70, 71, 72, 73, 74, 75] (by decide +kernel) (by decide +kernel)
set_option maxRecDepth 20000 in
theorem gX8_beside_X8_settle : GoodIn wsX8_beside (wsV RX8 172 RX8 yX8_settle wsX8_settle) := goodIn_app (goodIn_of _ (by decide +kernel)) ggX8_beside_X8_settle
set_option maxRecDepth 20000 in
theorem ggX8_beside_X8_isIn : GoodIn wsX8_beside wsX8_isIn := goodIn_r _ [51] (by decide +kernel) (by decide +kernel)
set_option maxRecDepth 20000 in
theorem gX8_beside_X8_isIn : GoodIn wsX8_beside (va_wsS RX8 82 yX8_isIn wsX8_isIn) := goodIn_app (goodIn_of _ (by decide +kernel)) ggX8_beside_X8_isIn
set_option maxRecDepth 20000 in
theorem ggX8_beside_X8_between : GoodIn wsX8_beside wsX8_between := goodIn_r _ [55, 12, 7, 40, 38, 56, 57, 58, 59, 60, 61, 62, 63, 64, 65, 66, 67, 68, 69, 70, 71, 72, 73, 74, 75] (by decide +kernel) (by decide +kernel)
set_option maxRecDepth 20000 in
theorem gX8_beside_X8_between : GoodIn wsX8_beside (wsV RX8 181 RX8 yX8_between wsX8_between) := goodIn_app (goodIn_of _ (by decide +kernel)) ggX8_beside_X8_between
theorem dX8_beside_0 : decode cX8_beside 0 = .ok (.aload_n 0, 1) := by decide +kernel
theorem dX8_beside_1 : decode cX8_beside 1 = .ok (.invokevirtual 172, 3) := by decide +kernel
theorem dX8_beside_4 : decode cX8_beside 4 = .ok (.iload_n 1, 1) := by decide +kernel
theorem dX8_beside_5 : decode cX8_beside 5 = .ok (.iconst 0, 1) := by decide +kernel
theorem dX8_beside_6 : decode cX8_beside 6 = .ok (.aload_n 0, 1) := by decide +kernel
theorem dX8_beside_7 : decode cX8_beside 7 = .ok (.getfield 130, 3) := by decide +kernel
theorem dX8_beside_10 : decode cX8_beside 10 = .ok (.iconst 1, 1) := by decide +kernel
theorem dX8_beside_11 : decode cX8_beside 11 = .ok (.isub, 1) := by decide +kernel
theorem dX8_beside_12 : decode cX8_beside 12 = .ok (.invokestatic 82, 3) := by decide +kernel
theorem dX8_beside_15 : decode cX8_beside 15 = .ok (.ifCond .eq 31, 3) := by decide +kernel
theorem dX8_beside_18 : decode cX8_beside 18 = .ok (.iload_n 2, 1) := by decide +kernel
theorem dX8_beside_19 : decode cX8_beside 19 = .ok (.iconst 0, 1) := by decide +kernel
theorem dX8_beside_20 : decode cX8_beside 20 = .ok (.aload_n 0, 1) := by decide +kernel
theorem dX8_beside_21 : decode cX8_beside 21 = .ok (.getfield 130, 3) := by decide +kernel
theorem dX8_beside_24 : decode cX8_beside 24 = .ok (.iconst 1, 1) := by decide +kernel
theorem dX8_beside_25 : decode cX8_beside 25 = .ok (.isub, 1) := by decide +kernel
theorem dX8_beside_26 : decode cX8_beside 26 = .ok (.invokestatic 82, 3) := by decide +kernel
theorem dX8_beside_29 : decode cX8_beside 29 = .ok (.ifCond .eq 17, 3) := by decide +kernel
theorem dX8_beside_32 : decode cX8_beside 32 = .ok (.iload_n 1, 1) := by decide +kernel
theorem dX8_beside_33 : decode cX8_beside 33 = .ok (.iload_n 2, 1) := by decide +kernel
theorem dX8_beside_34 : decode cX8_beside 34 = .ok (.if_icmp .eq 12, 3) := by decide +kernel
theorem dX8_beside_37 : decode cX8_beside 37 = .ok (.iload_n 3, 1) := by decide +kernel
theorem dX8_beside_38 : decode cX8_beside 38 = .ok (.iconst 0, 1) := by decide +kernel
theorem dX8_beside_39 : decode cX8_beside 39 = .ok (.iconst 1, 1) := by decide +kernel
theorem dX8_beside_40 : decode cX8_beside 40 = .ok (.invokestatic 82, 3) := by decide +kernel
theorem dX8_beside_43 : decode cX8_beside 43 = .ok (.ifCond .ne 5, 3) := by decide +kernel
theorem dX8_beside_46 : decode cX8_beside 46 = .ok (.iconst (-1), 1) := by decide +kernel
theorem dX8_beside_47 : decode cX8_beside 47 = .ok (.ireturn, 1) := by decide +kernel
theorem dX8_beside_48 : decode cX8_beside 48 = .ok (.aload_n 0, 1) := by decide +kernel
theorem dX8_beside_49 : decode cX8_beside 49 = .ok (.iload_n 1, 1) := by decide +kernel
theorem dX8_beside_50 : decode cX8_beside 50 = .ok (.iload_n 2, 1) := by decide +kernel
theorem dX8_beside_51 : decode cX8_beside 51 = .ok (.iload_n 3, 1) := by decide +kernel
theorem dX8_beside_52 : decode cX8_beside 52 = .ok (.iconst 1, 1) := by decide +kernel
theorem dX8_beside_53 : decode cX8_beside 53 = .ok (.if_icmp .ne 7, 3) := by decide +kernel
theorem dX8_beside_56 : decode cX8_beside 56 = .ok (.iconst 1, 1) := by decide +kernel
theorem dX8_beside_57 : decode cX8_beside 57 = .ok (.goto 4, 3) := by decide +kernel
theorem dX8_beside_60 : decode cX8_beside 60 = .ok (.iconst 0, 1) := by decide +kernel
theorem dX8_beside_61 : decode cX8_beside 61 = .ok (.invokevirtual 181, 3) := by decide +kernel
theorem dX8_beside_64 : decode cX8_beside 64 = .ok (.ireturn, 1) := by decide +kernel
set_option maxRecDepth 20000 in
theorem ggX8_tried_X8_isIn : GoodIn wsX8_tried wsX8_isIn := goodIn_r _ [5] (by decide +kernel) (by decide +kernel)
set_option maxRecDepth 20000 in
theorem gX8_tried_X8_isIn : GoodIn wsX8_tried (va_wsS RX8 82 yX8_isIn wsX8_isIn) := goodIn_app (goodIn_of _ (by decide +kernel)) ggX8_tried_X8_isIn
set_option maxRecDepth 20000 in
theorem ggX8_tried_X8_settles : GoodIn wsX8_tried wsX8_settles := goodIn_r _ [9, 10, 11, 12, 13, 14, 15, 16, 4, 17, 18, 19, 20, 21, 22, 23, 24, 25, 26, 27, 28, 29, 30, 31, 32, 33, 34, 35, 36, 1, 37, 38, 39, 40, 41, 42, 43, 44, 45, 46, 47, 72, 73, 74, 75, 76, 77, 78, 79, 80, 81, 82, 83, 84, 85, 86, 87, 88, 89, 90, 91] (by decide +kernel) (by decide +kernel)
set_option maxRecDepth 20000 in
theorem gX8_tried_X8_settles : GoodIn wsX8_tried (wsV RX8 147 RX8 yX8_settles wsX8_settles) := goodIn_app (goodIn_of _ (by decide +kernel)) ggX8_tried_X8_settles
set_option maxRecDepth 20000 in
theorem ggX8_tried_X8_links : GoodIn wsX8_tried wsX8_links := goodIn_r _ [51, 10, 11, 52, 53, 54, 4, 55, 37, 56, 57, 58, 59, 60, 61, 62, 63, 18, 72, 73, 74, 75, 76, 77, 78, 79, 80, 81, 82, 83, 84, 85, 86, 87, 88, 89, 90, 91] (by decide +kernel) (by decide +kernel)
set_option maxRecDepth 20000 in
theorem gX8_tried_X8_links : GoodIn wsX8_tried (wsV RX8 185 RX8 yX8_links wsX8_links) := goodIn_app (goodIn_of _ (by decide +kernel)) ggX8_tried_X8_links
set_option maxRecDepth 20000 in
theorem ggX8_tried_X8_wide : GoodIn wsX8_tried wsX8_wide := goodIn_r _ [67, 10, 37, 60, 61, 62, 4, 63, 18, 72, 73, 74, 75, 76, 77, 78, 79, 80, 81, 82, 83, 84, 85, 86, 87, 88, 89, 90, 91] (by decide +kernel) (by decide +kernel)
set_option maxRecDepth 20000 in
theorem gX8_tried_X8_wide : GoodIn wsX8_tried (wsV RX8 178 RX8 yX8_wide wsX8_wide) := goodIn_app (goodIn_of _ (by decide +kernel)) ggX8_tried_X8_wide
set_option maxRecDepth 20000 in
theorem ggX8_tried_X8_lastHour : GoodIn wsX8_tried wsX8_lastHour := goodIn_r _ [71, 10, 38, 72, 73, 74, 75, 76, 77, 78, 79, 80, 81, 82, 83, 84, 85, 86, 87, 88, 89, 90, 91] (by decide +kernel) (by decide +kernel)
set_option maxRecDepth 20000 in
theorem gX8_tried_X8_lastHour : GoodIn wsX8_tried (wsV RX8 188 RX8 yX8_lastHour wsX8_lastHour) := goodIn_app (goodIn_of _ (by decide +kernel)) ggX8_tried_X8_lastHour
theorem dX8_tried_0 : decode cX8_tried 0 = .ok (.iload_n 1, 1) := by decide +kernel
theorem dX8_tried_1 : decode cX8_tried 1 = .ok (.iconst 0, 1) := by decide +kernel
theorem dX8_tried_2 : decode cX8_tried 2 = .ok (.sipush 9999, 3) := by decide +kernel
theorem dX8_tried_5 : decode cX8_tried 5 = .ok (.invokestatic 82, 3) := by decide +kernel
theorem dX8_tried_8 : decode cX8_tried 8 = .ok (.ifCond .eq 12, 3) := by decide +kernel
theorem dX8_tried_11 : decode cX8_tried 11 = .ok (.iload_n 2, 1) := by decide +kernel
theorem dX8_tried_12 : decode cX8_tried 12 = .ok (.iconst 0, 1) := by decide +kernel
theorem dX8_tried_13 : decode cX8_tried 13 = .ok (.iconst 3, 1) := by decide +kernel
theorem dX8_tried_14 : decode cX8_tried 14 = .ok (.invokestatic 82, 3) := by decide +kernel
theorem dX8_tried_17 : decode cX8_tried 17 = .ok (.ifCond .ne 5, 3) := by decide +kernel
theorem dX8_tried_20 : decode cX8_tried 20 = .ok (.iconst (-1), 1) := by decide +kernel
theorem dX8_tried_21 : decode cX8_tried 21 = .ok (.ireturn, 1) := by decide +kernel
theorem dX8_tried_22 : decode cX8_tried 22 = .ok (.aload_n 0, 1) := by decide +kernel
theorem dX8_tried_23 : decode cX8_tried 23 = .ok (.iload_n 1, 1) := by decide +kernel
theorem dX8_tried_24 : decode cX8_tried 24 = .ok (.invokevirtual 147, 3) := by decide +kernel
theorem dX8_tried_27 : decode cX8_tried 27 = .ok (.iload_n 2, 1) := by decide +kernel
theorem dX8_tried_28 : decode cX8_tried 28 = .ok (.ifCond .ne 10, 3) := by decide +kernel
theorem dX8_tried_31 : decode cX8_tried 31 = .ok (.aload_n 0, 1) := by decide +kernel
theorem dX8_tried_32 : decode cX8_tried 32 = .ok (.getfield 130, 3) := by decide +kernel
theorem dX8_tried_35 : decode cX8_tried 35 = .ok (.goto 34, 3) := by decide +kernel
theorem dX8_tried_38 : decode cX8_tried 38 = .ok (.iload_n 2, 1) := by decide +kernel
theorem dX8_tried_39 : decode cX8_tried 39 = .ok (.iconst 1, 1) := by decide +kernel
theorem dX8_tried_40 : decode cX8_tried 40 = .ok (.if_icmp .ne 11, 3) := by decide +kernel
theorem dX8_tried_43 : decode cX8_tried 43 = .ok (.aload_n 0, 1) := by decide +kernel
theorem dX8_tried_44 : decode cX8_tried 44 = .ok (.iconst 2, 1) := by decide +kernel
theorem dX8_tried_45 : decode cX8_tried 45 = .ok (.invokevirtual 185, 3) := by decide +kernel
theorem dX8_tried_48 : decode cX8_tried 48 = .ok (.goto 21, 3) := by decide +kernel
theorem dX8_tried_51 : decode cX8_tried 51 = .ok (.iload_n 2, 1) := by decide +kernel
theorem dX8_tried_52 : decode cX8_tried 52 = .ok (.iconst 2, 1) := by decide +kernel
theorem dX8_tried_53 : decode cX8_tried 53 = .ok (.if_icmp .ne 12, 3) := by decide +kernel
theorem dX8_tried_56 : decode cX8_tried 56 = .ok (.aload_n 0, 1) := by decide +kernel
theorem dX8_tried_57 : decode cX8_tried 57 = .ok (.bipush (-4), 2) := by decide +kernel
theorem dX8_tried_59 : decode cX8_tried 59 = .ok (.invokevirtual 178, 3) := by decide +kernel
theorem dX8_tried_62 : decode cX8_tried 62 = .ok (.goto 7, 3) := by decide +kernel
theorem dX8_tried_65 : decode cX8_tried 65 = .ok (.aload_n 0, 1) := by decide +kernel
theorem dX8_tried_66 : decode cX8_tried 66 = .ok (.invokevirtual 188, 3) := by decide +kernel
theorem dX8_tried_69 : decode cX8_tried 69 = .ok (.ireturn, 1) := by decide +kernel
set_option maxRecDepth 20000 in
theorem ggX8_best_X8_isIn : GoodIn wsX8_best wsX8_isIn := goodIn_r _ [4] (by decide +kernel) (by decide +kernel)
set_option maxRecDepth 20000 in
theorem gX8_best_X8_isIn : GoodIn wsX8_best (va_wsS RX8 82 yX8_isIn wsX8_isIn) := goodIn_app (goodIn_of _ (by decide +kernel)) ggX8_best_X8_isIn
set_option maxRecDepth 20000 in
theorem ggX8_best_X8_settles : GoodIn wsX8_best wsX8_settles := goodIn_r _ [8, 9, 10, 11, 12, 13, 14, 15, 3, 16, 17, 18, 19, 20, 21, 22, 23, 24, 25, 26, 27, 28, 29, 30, 31, 32, 33, 34, 35, 36, 37, 38, 39, 40, 41, 42, 43, 44, 45, 46, 47, 68, 69, 70, 71, 72, 73, 74, 75, 76, 77, 78, 79, 80, 81, 82, 83, 84, 85, 86, 87] (by decide +kernel) (by decide +kernel)
set_option maxRecDepth 20000 in
theorem gX8_best_X8_settles : GoodIn wsX8_best (wsV RX8 147 RX8 yX8_settles wsX8_settles) := goodIn_app (goodIn_of _ (by decide +kernel)) ggX8_best_X8_settles
set_option maxRecDepth 20000 in
theorem ggX8_best_X8_links : GoodIn wsX8_best wsX8_links := goodIn_r _ [51, 9, 10, 52, 53, 54, 3, 55, 37, 56, 57, 58, 59, 60, 61, 62, 63, 17, 68, 69, 70, 71, 72, 73, 74, 75, 76, 77, 78, 79, 80, 81, 82, 83, 84, 85, 86, 87] (by decide +kernel) (by decide +kernel)
set_option maxRecDepth 20000 in
theorem gX8_best_X8_links : GoodIn wsX8_best (wsV RX8 185 RX8 yX8_links wsX8_links) := goodIn_app (goodIn_of _ (by decide +kernel)) ggX8_best_X8_links
set_option maxRecDepth 20000 in
theorem ggX8_best_X8_wide : GoodIn wsX8_best wsX8_wide := goodIn_r _ [67, 9, 37, 60, 61, 62, 3, 63, 17, 68, 69, 70, 71, 72, 73, 74, 75, 76, 77, 78, 79, 80, 81, 82, 83, 84, 85, 86, 87] (by decide +kernel) (by decide +kernel)
set_option maxRecDepth 20000 in
theorem gX8_best_X8_wide : GoodIn wsX8_best (wsV RX8 178 RX8 yX8_wide wsX8_wide) := goodIn_app (goodIn_of _ (by decide +kernel)) ggX8_best_X8_wide
theorem dX8_best_0 : decode cX8_best 0 = .ok (.iload_n 1, 1) := by decide +kernel
theorem dX8_best_1 : decode cX8_best 1 = .ok (.iconst 1, 1) := by decide +kernel
theorem dX8_best_2 : decode cX8_best 2 = .ok (.bipush 60, 2) := by decide +kernel
theorem dX8_best_4 : decode cX8_best 4 = .ok (.invokestatic 82, 3) := by decide +kernel
theorem dX8_best_7 : decode cX8_best 7 = .ok (.ifCond .eq 23, 3) := by decide +kernel
theorem dX8_best_10 : decode cX8_best 10 = .ok (.iload_n 2, 1) := by decide +kernel
theorem dX8_best_11 : decode cX8_best 11 = .ok (.iconst 0, 1) := by decide +kernel
theorem dX8_best_12 : decode cX8_best 12 = .ok (.sipush 200, 3) := by decide +kernel
theorem dX8_best_15 : decode cX8_best 15 = .ok (.invokestatic 82, 3) := by decide +kernel
theorem dX8_best_18 : decode cX8_best 18 = .ok (.ifCond .eq 12, 3) := by decide +kernel
theorem dX8_best_21 : decode cX8_best 21 = .ok (.iload_n 3, 1) := by decide +kernel
theorem dX8_best_22 : decode cX8_best 22 = .ok (.iconst 0, 1) := by decide +kernel
theorem dX8_best_23 : decode cX8_best 23 = .ok (.iconst 1, 1) := by decide +kernel
theorem dX8_best_24 : decode cX8_best 24 = .ok (.invokestatic 82, 3) := by decide +kernel
theorem dX8_best_27 : decode cX8_best 27 = .ok (.ifCond .ne 5, 3) := by decide +kernel
theorem dX8_best_30 : decode cX8_best 30 = .ok (.iconst (-1), 1) := by decide +kernel
theorem dX8_best_31 : decode cX8_best 31 = .ok (.ireturn, 1) := by decide +kernel
theorem dX8_best_32 : decode cX8_best 32 = .ok (.bipush (-4), 2) := by decide +kernel
theorem dX8_best_34 : decode cX8_best 34 = .ok (.istore 4, 2) := by decide +kernel
theorem dX8_best_36 : decode cX8_best 36 = .ok (.iconst 0, 1) := by decide +kernel
theorem dX8_best_37 : decode cX8_best 37 = .ok (.istore 5, 2) := by decide +kernel
theorem dX8_best_39 : decode cX8_best 39 = .ok (.iconst 0, 1) := by decide +kernel
theorem dX8_best_40 : decode cX8_best 40 = .ok (.istore 6, 2) := by decide +kernel
theorem dX8_best_42 : decode cX8_best 42 = .ok (.iload 6, 2) := by decide +kernel
theorem dX8_best_44 : decode cX8_best 44 = .ok (.iload_n 1, 1) := by decide +kernel
theorem dX8_best_45 : decode cX8_best 45 = .ok (.if_icmp .ge 54, 3) := by decide +kernel
theorem dX8_best_48 : decode cX8_best 48 = .ok (.aload_n 0, 1) := by decide +kernel
theorem dX8_best_49 : decode cX8_best 49 = .ok (.iload 6, 2) := by decide +kernel
theorem dX8_best_51 : decode cX8_best 51 = .ok (.invokevirtual 147, 3) := by decide +kernel
theorem dX8_best_54 : decode cX8_best 54 = .ok (.aload_n 0, 1) := by decide +kernel
theorem dX8_best_55 : decode cX8_best 55 = .ok (.iconst 2, 1) := by decide +kernel
theorem dX8_best_56 : decode cX8_best 56 = .ok (.invokevirtual 185, 3) := by decide +kernel
theorem dX8_best_59 : decode cX8_best 59 = .ok (.istore 7, 2) := by decide +kernel
theorem dX8_best_61 : decode cX8_best 61 = .ok (.aload_n 0, 1) := by decide +kernel
theorem dX8_best_62 : decode cX8_best 62 = .ok (.bipush (-4), 2) := by decide +kernel
theorem dX8_best_64 : decode cX8_best 64 = .ok (.invokevirtual 178, 3) := by decide +kernel
theorem dX8_best_67 : decode cX8_best 67 = .ok (.iload_n 2, 1) := by decide +kernel
theorem dX8_best_68 : decode cX8_best 68 = .ok (.if_icmp .gt 25, 3) := by decide +kernel
theorem dX8_best_71 : decode cX8_best 71 = .ok (.iload 4, 2) := by decide +kernel
theorem dX8_best_73 : decode cX8_best 73 = .ok (.bipush (-4), 2) := by decide +kernel
theorem dX8_best_75 : decode cX8_best 75 = .ok (.if_icmp .eq 10, 3) := by decide +kernel
theorem dX8_best_78 : decode cX8_best 78 = .ok (.iload 7, 2) := by decide +kernel
theorem dX8_best_80 : decode cX8_best 80 = .ok (.iload 5, 2) := by decide +kernel
theorem dX8_best_82 : decode cX8_best 82 = .ok (.if_icmp .ge 11, 3) := by decide +kernel
theorem dX8_best_85 : decode cX8_best 85 = .ok (.iload 6, 2) := by decide +kernel
theorem dX8_best_87 : decode cX8_best 87 = .ok (.istore 4, 2) := by decide +kernel
theorem dX8_best_89 : decode cX8_best 89 = .ok (.iload 7, 2) := by decide +kernel
theorem dX8_best_91 : decode cX8_best 91 = .ok (.istore 5, 2) := by decide +kernel
theorem dX8_best_93 : decode cX8_best 93 = .ok (.iinc 6 1, 3) := by decide +kernel
theorem dX8_best_96 : decode cX8_best 96 = .ok (.goto (-54), 3) := by decide +kernel
theorem dX8_best_99 : decode cX8_best 99 = .ok (.iload 4, 2) := by decide +kernel
theorem dX8_best_101 : decode cX8_best 101 = .ok (.bipush (-4), 2) := by decide +kernel
theorem dX8_best_103 : decode cX8_best 103 = .ok (.if_icmp .eq 7, 3) := by decide +kernel
theorem dX8_best_106 : decode cX8_best 106 = .ok (.iload_n 3, 1) := by decide +kernel
theorem dX8_best_107 : decode cX8_best 107 = .ok (.ifCond .ne 8, 3) := by decide +kernel
theorem dX8_best_110 : decode cX8_best 110 = .ok (.iload 4, 2) := by decide +kernel
theorem dX8_best_112 : decode cX8_best 112 = .ok (.goto 5, 3) := by decide +kernel
theorem dX8_best_115 : decode cX8_best 115 = .ok (.iload 5, 2) := by decide +kernel
theorem dX8_best_117 : decode cX8_best 117 = .ok (.ireturn, 1) := by decide +kernel
set_option maxRecDepth 20000 in
theorem ggX8_chance_X8_areTwo : GoodIn wsX8_chance wsX8_areTwo := goodIn_r _ [7, 8, 9, 10, 6, 11, 12, 13, 14, 15, 56, 57, 58, 59, 60, 61, 62, 63, 64, 65, 66, 67, 68, 69, 70, 71, 72, 73, 74, 75] (by decide +kernel) (by decide +kernel)
set_option maxRecDepth 20000 in
theorem gX8_chance_X8_areTwo : GoodIn wsX8_chance (wsV RX8 163 RX8 yX8_areTwo wsX8_areTwo) := goodIn_app (goodIn_of _ (by decide +kernel)) ggX8_chance_X8_areTwo
set_option maxRecDepth 20000 in
theorem ggX8_chance_X8_isIn : GoodIn wsX8_chance wsX8_isIn := goodIn_r _ [15] (by decide +kernel) (by decide +kernel)
set_option maxRecDepth 20000 in
theorem gX8_chance_X8_isIn : GoodIn wsX8_chance (va_wsS RX8 82 yX8_isIn wsX8_isIn) := goodIn_app (goodIn_of _ (by decide +kernel)) ggX8_chance_X8_isIn
set_option maxRecDepth 20000 in
theorem ggX8_chance_X8_settles : GoodIn wsX8_chance wsX8_settles := goodIn_r _ [19, 12, 1, 20, 21, 22, 23, 24, 6, 25, 26, 27, 28, 29, 30, 31, 32, 33, 34, 35, 36, 37, 38, 39, 40, 41, 42, 43, 44, 45, 2, 46, 47, 48, 49, 50, 51, 52, 53, 54, 55, 56, 57, 58, 59, 60, 61, 62, 63, 64, 65, 66, 67, 68, 69, 70, 71, 72, 73, 74, 75] (by decide +kernel) (by decide +kernel)
set_option maxRecDepth 20000 in
theorem gX8_chance_X8_settles : GoodIn wsX8_chance (wsV RX8 147 RX8 yX8_settles wsX8_settles) := goodIn_app (goodIn_of _ (by decide +kernel)) ggX8_chance_X8_settles
theorem dX8_chance_0 : decode cX8_chance 0 = .ok (.aload_n 0, 1) := by decide +kernel
theorem dX8_chance_1 : decode cX8_chance 1 = .ok (.iload_n 1, 1) := by decide +kernel
theorem dX8_chance_2 : decode cX8_chance 2 = .ok (.iload_n 2, 1) := by decide +kernel
theorem dX8_chance_3 : decode cX8_chance 3 = .ok (.invokevirtual 163, 3) := by decide +kernel
theorem dX8_chance_6 : decode cX8_chance 6 = .ok (.ifCond .eq 23, 3) := by decide +kernel
theorem dX8_chance_9 : decode cX8_chance 9 = .ok (.iload_n 3, 1) := by decide +kernel
theorem dX8_chance_10 : decode cX8_chance 10 = .ok (.iconst 1, 1) := by decide +kernel
theorem dX8_chance_11 : decode cX8_chance 11 = .ok (.bipush 60, 2) := by decide +kernel
theorem dX8_chance_13 : decode cX8_chance 13 = .ok (.invokestatic 82, 3) := by decide +kernel
theorem dX8_chance_16 : decode cX8_chance 16 = .ok (.ifCond .eq 13, 3) := by decide +kernel
theorem dX8_chance_19 : decode cX8_chance 19 = .ok (.iload 4, 2) := by decide +kernel
theorem dX8_chance_21 : decode cX8_chance 21 = .ok (.iconst 0, 1) := by decide +kernel
theorem dX8_chance_22 : decode cX8_chance 22 = .ok (.iconst 1, 1) := by decide +kernel
theorem dX8_chance_23 : decode cX8_chance 23 = .ok (.invokestatic 82, 3) := by decide +kernel
theorem dX8_chance_26 : decode cX8_chance 26 = .ok (.ifCond .ne 5, 3) := by decide +kernel
theorem dX8_chance_29 : decode cX8_chance 29 = .ok (.iconst (-1), 1) := by decide +kernel
theorem dX8_chance_30 : decode cX8_chance 30 = .ok (.ireturn, 1) := by decide +kernel
theorem dX8_chance_31 : decode cX8_chance 31 = .ok (.aload_n 0, 1) := by decide +kernel
theorem dX8_chance_32 : decode cX8_chance 32 = .ok (.getfield 13, 3) := by decide +kernel
theorem dX8_chance_35 : decode cX8_chance 35 = .ok (.bipush 16, 2) := by decide +kernel
theorem dX8_chance_37 : decode cX8_chance 37 = .ok (.iload_n 1, 1) := by decide +kernel
theorem dX8_chance_38 : decode cX8_chance 38 = .ok (.imul, 1) := by decide +kernel
theorem dX8_chance_39 : decode cX8_chance 39 = .ok (.iload_n 2, 1) := by decide +kernel
theorem dX8_chance_40 : decode cX8_chance 40 = .ok (.iadd, 1) := by decide +kernel
theorem dX8_chance_41 : decode cX8_chance 41 = .ok (.iaload, 1) := by decide +kernel
theorem dX8_chance_42 : decode cX8_chance 42 = .ok (.ifCond .ne 6, 3) := by decide +kernel
theorem dX8_chance_45 : decode cX8_chance 45 = .ok (.bipush (-2), 2) := by decide +kernel
theorem dX8_chance_47 : decode cX8_chance 47 = .ok (.ireturn, 1) := by decide +kernel
theorem dX8_chance_48 : decode cX8_chance 48 = .ok (.iconst 0, 1) := by decide +kernel
theorem dX8_chance_49 : decode cX8_chance 49 = .ok (.istore 5, 2) := by decide +kernel
theorem dX8_chance_51 : decode cX8_chance 51 = .ok (.iconst 0, 1) := by decide +kernel
theorem dX8_chance_52 : decode cX8_chance 52 = .ok (.istore 6, 2) := by decide +kernel
theorem dX8_chance_54 : decode cX8_chance 54 = .ok (.iload 6, 2) := by decide +kernel
theorem dX8_chance_56 : decode cX8_chance 56 = .ok (.iload_n 3, 1) := by decide +kernel
theorem dX8_chance_57 : decode cX8_chance 57 = .ok (.if_icmp .ge 40, 3) := by decide +kernel
theorem dX8_chance_60 : decode cX8_chance 60 = .ok (.aload_n 0, 1) := by decide +kernel
theorem dX8_chance_61 : decode cX8_chance 61 = .ok (.iload 6, 2) := by decide +kernel
theorem dX8_chance_63 : decode cX8_chance 63 = .ok (.invokevirtual 147, 3) := by decide +kernel
theorem dX8_chance_66 : decode cX8_chance 66 = .ok (.iload 5, 2) := by decide +kernel
theorem dX8_chance_68 : decode cX8_chance 68 = .ok (.aload_n 0, 1) := by decide +kernel
theorem dX8_chance_69 : decode cX8_chance 69 = .ok (.getfield 34, 3) := by decide +kernel
theorem dX8_chance_72 : decode cX8_chance 72 = .ok (.iload_n 1, 1) := by decide +kernel
theorem dX8_chance_73 : decode cX8_chance 73 = .ok (.iaload, 1) := by decide +kernel
theorem dX8_chance_74 : decode cX8_chance 74 = .ok (.aload_n 0, 1) := by decide +kernel
theorem dX8_chance_75 : decode cX8_chance 75 = .ok (.getfield 34, 3) := by decide +kernel
theorem dX8_chance_78 : decode cX8_chance 78 = .ok (.iload_n 2, 1) := by decide +kernel
theorem dX8_chance_79 : decode cX8_chance 79 = .ok (.iaload, 1) := by decide +kernel
theorem dX8_chance_80 : decode cX8_chance 80 = .ok (.if_icmp .eq 7, 3) := by decide +kernel
theorem dX8_chance_83 : decode cX8_chance 83 = .ok (.iconst 1, 1) := by decide +kernel
theorem dX8_chance_84 : decode cX8_chance 84 = .ok (.goto 4, 3) := by decide +kernel
theorem dX8_chance_87 : decode cX8_chance 87 = .ok (.iconst 0, 1) := by decide +kernel
theorem dX8_chance_88 : decode cX8_chance 88 = .ok (.iadd, 1) := by decide +kernel
theorem dX8_chance_89 : decode cX8_chance 89 = .ok (.istore 5, 2) := by decide +kernel
theorem dX8_chance_91 : decode cX8_chance 91 = .ok (.iinc 6 1, 3) := by decide +kernel
theorem dX8_chance_94 : decode cX8_chance 94 = .ok (.goto (-40), 3) := by decide +kernel
theorem dX8_chance_97 : decode cX8_chance 97 = .ok (.iload_n 3, 1) := by decide +kernel
theorem dX8_chance_98 : decode cX8_chance 98 = .ok (.istore 6, 2) := by decide +kernel
theorem dX8_chance_100 : decode cX8_chance 100 = .ok (.iload 5, 2) := by decide +kernel
theorem dX8_chance_102 : decode cX8_chance 102 = .ok (.istore 7, 2) := by decide +kernel
theorem dX8_chance_104 : decode cX8_chance 104 = .ok (.iload 7, 2) := by decide +kernel
theorem dX8_chance_106 : decode cX8_chance 106 = .ok (.ifCond .eq 21, 3) := by decide +kernel
