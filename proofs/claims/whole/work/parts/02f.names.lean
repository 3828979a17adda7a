theorem dX7_best_24 : decode cX7_best 24 = .ok (.invokestatic 78, 3) := by decide +kernel
theorem dX7_best_27 : decode cX7_best 27 = .ok (.ifCond .ne 5, 3) := by decide +kernel
theorem dX7_best_30 : decode cX7_best 30 = .ok (.iconst (-1), 1) := by decide +kernel
theorem dX7_best_31 : decode cX7_best 31 = .ok (.ireturn, 1) := by decide +kernel
theorem dX7_best_32 : decode cX7_best 32 = .ok (.bipush (-4), 2) := by decide +kernel
theorem dX7_best_34 : decode cX7_best 34 = .ok (.istore 4, 2) := by decide +kernel
theorem dX7_best_36 : decode cX7_best 36 = .ok (.bipush (-4), 2) := by decide +kernel
theorem dX7_best_38 : decode cX7_best 38 = .ok (.istore 5, 2) := by decide +kernel
theorem dX7_best_40 : decode cX7_best 40 = .ok (.iconst 0, 1) := by decide +kernel
theorem dX7_best_41 : decode cX7_best 41 = .ok (.istore 6, 2) := by decide +kernel
theorem dX7_best_43 : decode cX7_best 43 = .ok (.iload 6, 2) := by decide +kernel
theorem dX7_best_45 : decode cX7_best 45 = .ok (.iload_n 1, 1) := by decide +kernel
theorem dX7_best_46 : decode cX7_best 46 = .ok (.if_icmp .ge 60, 3) := by decide +kernel
theorem dX7_best_49 : decode cX7_best 49 = .ok (.aload_n 0, 1) := by decide +kernel
theorem dX7_best_50 : decode cX7_best 50 = .ok (.getfield 46, 3) := by decide +kernel
theorem dX7_best_53 : decode cX7_best 53 = .ok (.iload 6, 2) := by decide +kernel
theorem dX7_best_55 : decode cX7_best 55 = .ok (.invokevirtual 126, 3) := by decide +kernel
theorem dX7_best_58 : decode cX7_best 58 = .ok (.aload_n 0, 1) := by decide +kernel
theorem dX7_best_59 : decode cX7_best 59 = .ok (.getfield 46, 3) := by decide +kernel
theorem dX7_best_62 : decode cX7_best 62 = .ok (.invokevirtual 222, 3) := by decide +kernel
theorem dX7_best_65 : decode cX7_best 65 = .ok (.iload_n 2, 1) := by decide +kernel
theorem dX7_best_66 : decode cX7_best 66 = .ok (.if_icmp .gt 34, 3) := by decide +kernel
theorem dX7_best_69 : decode cX7_best 69 = .ok (.aload_n 0, 1) := by decide +kernel
theorem dX7_best_70 : decode cX7_best 70 = .ok (.getfield 46, 3) := by decide +kernel
theorem dX7_best_73 : decode cX7_best 73 = .ok (.invokevirtual 219, 3) := by decide +kernel
theorem dX7_best_76 : decode cX7_best 76 = .ok (.istore 7, 2) := by decide +kernel
theorem dX7_best_78 : decode cX7_best 78 = .ok (.iload 4, 2) := by decide +kernel
theorem dX7_best_80 : decode cX7_best 80 = .ok (.bipush (-4), 2) := by decide +kernel
theorem dX7_best_82 : decode cX7_best 82 = .ok (.if_icmp .eq 10, 3) := by decide +kernel
theorem dX7_best_85 : decode cX7_best 85 = .ok (.iload 7, 2) := by decide +kernel
theorem dX7_best_87 : decode cX7_best 87 = .ok (.iload 5, 2) := by decide +kernel
theorem dX7_best_89 : decode cX7_best 89 = .ok (.if_icmp .ge 11, 3) := by decide +kernel
theorem dX7_best_92 : decode cX7_best 92 = .ok (.iload 6, 2) := by decide +kernel
theorem dX7_best_94 : decode cX7_best 94 = .ok (.istore 4, 2) := by decide +kernel
theorem dX7_best_96 : decode cX7_best 96 = .ok (.iload 7, 2) := by decide +kernel
theorem dX7_best_98 : decode cX7_best 98 = .ok (.istore 5, 2) := by decide +kernel
theorem dX7_best_100 : decode cX7_best 100 = .ok (.iinc 6 1, 3) := by decide +kernel
theorem dX7_best_103 : decode cX7_best 103 = .ok (.goto (-60), 3) := by decide +kernel
theorem dX7_best_106 : decode cX7_best 106 = .ok (.iload_n 3, 1) := by decide +kernel
theorem dX7_best_107 : decode cX7_best 107 = .ok (.ifCond .ne 8, 3) := by decide +kernel
theorem dX7_best_110 : decode cX7_best 110 = .ok (.iload 4, 2) := by decide +kernel
theorem dX7_best_112 : decode cX7_best 112 = .ok (.goto 5, 3) := by decide +kernel
theorem dX7_best_115 : decode cX7_best 115 = .ok (.iload 5, 2) := by decide +kernel
theorem dX7_best_117 : decode cX7_best 117 = .ok (.ireturn, 1) := by decide +kernel
set_option maxRecDepth 20000 in
theorem ggX7_chance_X5_isPair : GoodIn wsX7_chance wsX5_isPair := goodIn_r _ [7, 8, 9, 10, 6, 11, 12, 101, 102, 103, 104, 105, 106, 107, 108, 109] (by decide +kernel) (by decide +kernel)
set_option maxRecDepth 20000 in
theorem gX7_chance_X5_isPair : GoodIn wsX7_chance (wsV RX7 93 RX5 yX5_isPair wsX5_isPair) := goodIn_app (goodIn_of _ (by decide +kernel)) ggX7_chance_X5_isPair
set_option maxRecDepth 20000 in
theorem ggX7_chance_X7_isWithin : GoodIn wsX7_chance wsX7_isWithin := goodIn_r _ [16] (by decide +kernel) (by decide +kernel)
set_option maxRecDepth 20000 in
theorem gX7_chance_X7_isWithin : GoodIn wsX7_chance (va_wsS RX7 78 yX7_isWithin wsX7_isWithin) := goodIn_app (goodIn_of _ (by decide +kernel)) ggX7_chance_X7_isWithin
set_option maxRecDepth 20000 in
theorem ggX7_chance_X5_lengthOf : GoodIn wsX7_chance wsX5_lengthOf := goodIn_r _ [20, 21, 101, 102, 103, 104, 105, 106, 107, 108, 109] (by decide +kernel) (by decide +kernel)
set_option maxRecDepth 20000 in
theorem gX7_chance_X5_lengthOf : GoodIn wsX7_chance (wsV RX7 97 RX5 yX5_lengthOf wsX5_lengthOf) := goodIn_app (goodIn_of _ (by decide +kernel)) ggX7_chance_X5_lengthOf
set_option maxRecDepth 20000 in
theorem ggX7_chance_X1_settleBy : GoodIn wsX7_chance wsX1_settleBy := goodIn_r _ [26, 27, 28, 29, 30, 31, 32, 33, 6, 34, 12, 35, 36, 37, 38, 39, 40, 41, 42, 43, 44, 45, 46, 47, 48, 49, 50, 51, 52, 53, 54, 55, 56, 57, 58, 59, 60, 61, 25, 62, 63, 64, 65, 66, 67, 68, 69, 70, 71, 72, 73, 74, 75, 76, 77, 78, 79, 80, 81, 82, 83, 84, 85, 86, 110, 111, 112, 113, 114, 115, 101, 102, 103, 104, 105, 106, 107, 108, 109, 116] (by decide +kernel) (by decide +kernel)
set_option maxRecDepth 20000 in
theorem gX7_chance_X1_settleBy : GoodIn wsX7_chance (wsV RX7 126 RX1 yX1_settleBy wsX1_settleBy) := goodIn_app (goodIn_of _ (by decide +kernel)) ggX7_chance_X1_settleBy
set_option maxRecDepth 20000 in
theorem ggX7_chance_X1_isCut : GoodIn wsX7_chance wsX1_isCut := goodIn_r _ [90, 30, 110, 111, 112, 113, 114, 115] (by decide +kernel) (by decide +kernel)
set_option maxRecDepth 20000 in
theorem gX7_chance_X1_isCut : GoodIn wsX7_chance (wsV RX7 228 RX1 yX1_isCut wsX1_isCut) := goodIn_app (goodIn_of _ (by decide +kernel)) ggX7_chance_X1_isCut
set_option maxRecDepth 20000 in
theorem ggX7_chance_X7_inLowestTerms : GoodIn wsX7_chance wsX7_inLowestTerms := goodIn_r _ [93] (by decide +kernel) (by decide +kernel)
set_option maxRecDepth 20000 in
theorem gX7_chance_X7_inLowestTerms : GoodIn wsX7_chance (va_wsS RX7 231 yX7_inLowestTerms wsX7_inLowestTerms) := goodIn_app (goodIn_of _ (by decide +kernel)) ggX7_chance_X7_inLowestTerms
theorem dX7_chance_0 : decode cX7_chance 0 = .ok (.aload_n 0, 1) := by decide +kernel
theorem dX7_chance_1 : decode cX7_chance 1 = .ok (.getfield 26, 3) := by decide +kernel
theorem dX7_chance_4 : decode cX7_chance 4 = .ok (.iload_n 1, 1) := by decide +kernel
theorem dX7_chance_5 : decode cX7_chance 5 = .ok (.iload_n 2, 1) := by decide +kernel
theorem dX7_chance_6 : decode cX7_chance 6 = .ok (.invokevirtual 93, 3) := by decide +kernel
theorem dX7_chance_9 : decode cX7_chance 9 = .ok (.ifCond .eq 23, 3) := by decide +kernel
theorem dX7_chance_12 : decode cX7_chance 12 = .ok (.iload_n 3, 1) := by decide +kernel
theorem dX7_chance_13 : decode cX7_chance 13 = .ok (.iconst 1, 1) := by decide +kernel
theorem dX7_chance_14 : decode cX7_chance 14 = .ok (.bipush 60, 2) := by decide +kernel
theorem dX7_chance_16 : decode cX7_chance 16 = .ok (.invokestatic 78, 3) := by decide +kernel
theorem dX7_chance_19 : decode cX7_chance 19 = .ok (.ifCond .eq 13, 3) := by decide +kernel
theorem dX7_chance_22 : decode cX7_chance 22 = .ok (.iload 4, 2) := by decide +kernel
theorem dX7_chance_24 : decode cX7_chance 24 = .ok (.iconst 0, 1) := by decide +kernel
theorem dX7_chance_25 : decode cX7_chance 25 = .ok (.iconst 1, 1) := by decide +kernel
theorem dX7_chance_26 : decode cX7_chance 26 = .ok (.invokestatic 78, 3) := by decide +kernel
theorem dX7_chance_29 : decode cX7_chance 29 = .ok (.ifCond .ne 5, 3) := by decide +kernel
theorem dX7_chance_32 : decode cX7_chance 32 = .ok (.iconst (-1), 1) := by decide +kernel
theorem dX7_chance_33 : decode cX7_chance 33 = .ok (.ireturn, 1) := by decide +kernel
theorem dX7_chance_34 : decode cX7_chance 34 = .ok (.aload_n 0, 1) := by decide +kernel
theorem dX7_chance_35 : decode cX7_chance 35 = .ok (.getfield 26, 3) := by decide +kernel
theorem dX7_chance_38 : decode cX7_chance 38 = .ok (.iload_n 1, 1) := by decide +kernel
theorem dX7_chance_39 : decode cX7_chance 39 = .ok (.iload_n 2, 1) := by decide +kernel
theorem dX7_chance_40 : decode cX7_chance 40 = .ok (.invokevirtual 97, 3) := by decide +kernel
theorem dX7_chance_43 : decode cX7_chance 43 = .ok (.ifCond .ne 6, 3) := by decide +kernel
theorem dX7_chance_46 : decode cX7_chance 46 = .ok (.bipush (-2), 2) := by decide +kernel
theorem dX7_chance_48 : decode cX7_chance 48 = .ok (.ireturn, 1) := by decide +kernel
theorem dX7_chance_49 : decode cX7_chance 49 = .ok (.iconst 0, 1) := by decide +kernel
theorem dX7_chance_50 : decode cX7_chance 50 = .ok (.istore 5, 2) := by decide +kernel
theorem dX7_chance_52 : decode cX7_chance 52 = .ok (.iconst 0, 1) := by decide +kernel
theorem dX7_chance_53 : decode cX7_chance 53 = .ok (.istore 6, 2) := by decide +kernel
theorem dX7_chance_55 : decode cX7_chance 55 = .ok (.iload 6, 2) := by decide +kernel
theorem dX7_chance_57 : decode cX7_chance 57 = .ok (.iload_n 3, 1) := by decide +kernel
theorem dX7_chance_58 : decode cX7_chance 58 = .ok (.if_icmp .ge 33, 3) := by decide +kernel
theorem dX7_chance_61 : decode cX7_chance 61 = .ok (.aload_n 0, 1) := by decide +kernel
theorem dX7_chance_62 : decode cX7_chance 62 = .ok (.getfield 46, 3) := by decide +kernel
theorem dX7_chance_65 : decode cX7_chance 65 = .ok (.iload 6, 2) := by decide +kernel
theorem dX7_chance_67 : decode cX7_chance 67 = .ok (.invokevirtual 126, 3) := by decide +kernel
theorem dX7_chance_70 : decode cX7_chance 70 = .ok (.aload_n 0, 1) := by decide +kernel
theorem dX7_chance_71 : decode cX7_chance 71 = .ok (.getfield 46, 3) := by decide +kernel
theorem dX7_chance_74 : decode cX7_chance 74 = .ok (.iload_n 1, 1) := by decide +kernel
theorem dX7_chance_75 : decode cX7_chance 75 = .ok (.iload_n 2, 1) := by decide +kernel
theorem dX7_chance_76 : decode cX7_chance 76 = .ok (.invokevirtual 228, 3) := by decide +kernel
theorem dX7_chance_79 : decode cX7_chance 79 = .ok (.ifCond .eq 6, 3) := by decide +kernel
theorem dX7_chance_82 : decode cX7_chance 82 = .ok (.iinc 5 1, 3) := by decide +kernel
theorem dX7_chance_85 : decode cX7_chance 85 = .ok (.iinc 6 1, 3) := by decide +kernel
theorem dX7_chance_88 : decode cX7_chance 88 = .ok (.goto (-33), 3) := by decide +kernel
theorem dX7_chance_91 : decode cX7_chance 91 = .ok (.iload 4, 2) := by decide +kernel
theorem dX7_chance_93 : decode cX7_chance 93 = .ok (.ifCond .ne 8, 3) := by decide +kernel
theorem dX7_chance_96 : decode cX7_chance 96 = .ok (.iload 5, 2) := by decide +kernel
theorem dX7_chance_98 : decode cX7_chance 98 = .ok (.goto 4, 3) := by decide +kernel
theorem dX7_chance_101 : decode cX7_chance 101 = .ok (.iload_n 3, 1) := by decide +kernel
theorem dX7_chance_102 : decode cX7_chance 102 = .ok (.iload 5, 2) := by decide +kernel
theorem dX7_chance_104 : decode cX7_chance 104 = .ok (.iload_n 3, 1) := by decide +kernel
theorem dX7_chance_105 : decode cX7_chance 105 = .ok (.invokestatic 231, 3) := by decide +kernel
theorem dX7_chance_108 : decode cX7_chance 108 = .ok (.ireturn, 1) := by decide +kernel
set_option maxRecDepth 20000 in
theorem ggX7_rise_X5_isPlace : GoodIn wsX7_rise wsX5_isPlace := goodIn_r _ [7, 8, 91, 92, 93, 94, 95, 96, 97, 98, 99] (by decide +kernel) (by decide +kernel)
set_option maxRecDepth 20000 in
theorem gX7_rise_X5_isPlace : GoodIn wsX7_rise (wsV RX7 108 RX5 yX5_isPlace wsX5_isPlace) := goodIn_app (goodIn_of _ (by decide +kernel)) ggX7_rise_X5_isPlace
set_option maxRecDepth 20000 in
theorem ggX7_rise_X5_z : GoodIn wsX7_rise wsX5_z := goodIn_r _ [12, 13, 91, 92, 93, 94, 95, 96, 97, 98, 99] (by decide +kernel) (by decide +kernel)
set_option maxRecDepth 20000 in
theorem gX7_rise_X5_z : GoodIn wsX7_rise (wsV RX7 123 RX5 yX5_z wsX5_z) := goodIn_app (goodIn_of _ (by decide +kernel)) ggX7_rise_X5_z
set_option maxRecDepth 20000 in
theorem ggX7_rise_X1_settleBy : GoodIn wsX7_rise wsX1_settleBy := goodIn_r _ [18, 19, 20, 21, 22, 23, 24, 25, 6, 26, 8, 27, 28, 29, 30, 31, 32, 33, 34, 35, 36, 37, 38, 39, 40, 41, 42, 43, 44, 45, 46, 47, 48, 49, 50, 51, 52, 53, 17, 54, 55, 56, 57, 58, 59, 60, 61, 62, 63, 64, 65, 66, 67, 68, 69, 70, 71, 72, 73, 74, 75, 76, 77, 78, 100, 101, 102, 103, 104, 105, 91, 92, 93, 94, 95, 96, 97, 98, 99, 106] (by decide +kernel) (by decide +kernel)
set_option maxRecDepth 20000 in
theorem gX7_rise_X1_settleBy : GoodIn wsX7_rise (wsV RX7 126 RX1 yX1_settleBy wsX1_settleBy) := goodIn_app (goodIn_of _ (by decide +kernel)) ggX7_rise_X1_settleBy
set_option maxRecDepth 20000 in
theorem ggX7_rise_X1_replaceDelay : GoodIn wsX7_rise wsX1_replaceDelay := goodIn_r _ [82, 20, 51, 52, 53, 17, 54, 55, 19, 56, 57, 58, 59, 23, 24, 25, 6, 26, 8, 100, 101, 102, 103, 104, 105, 91, 92, 93, 94, 95, 96, 97, 98, 99] (by decide +kernel) (by decide +kernel)
set_option maxRecDepth 20000 in
theorem gX7_rise_X1_replaceDelay : GoodIn wsX7_rise (wsV RX7 235 RX1 yX1_replaceDelay wsX1_replaceDelay) := goodIn_app (goodIn_of _ (by decide +kernel)) ggX7_rise_X1_replaceDelay
set_option maxRecDepth 20000 in
theorem ggX7_rise_X1_earliestAt : GoodIn wsX7_rise wsX1_earliestAt := goodIn_r _ [63, 19, 64, 65, 66, 67, 17, 68, 55, 20, 23, 24, 25, 6, 26, 8, 69, 70, 71, 72, 73, 74, 75, 76, 77, 78, 21, 100, 101, 102, 103, 104, 105, 91, 92, 93, 94, 95, 96, 97, 98, 99, 106] (by decide +kernel) (by decide +kernel)
set_option maxRecDepth 20000 in
theorem gX7_rise_X1_earliestAt : GoodIn wsX7_rise (wsV RX7 239 RX1 yX1_earliestAt wsX1_earliestAt) := goodIn_app (goodIn_of _ (by decide +kernel)) ggX7_rise_X1_earliestAt
theorem dX7_rise_0 : decode cX7_rise 0 = .ok (.aload_n 0, 1) := by decide +kernel
theorem dX7_rise_1 : decode cX7_rise 1 = .ok (.getfield 26, 3) := by decide +kernel
theorem dX7_rise_4 : decode cX7_rise 4 = .ok (.iload_n 1, 1) := by decide +kernel
theorem dX7_rise_5 : decode cX7_rise 5 = .ok (.invokevirtual 108, 3) := by decide +kernel
theorem dX7_rise_8 : decode cX7_rise 8 = .ok (.ifCond .ne 5, 3) := by decide +kernel
theorem dX7_rise_11 : decode cX7_rise 11 = .ok (.iconst (-1), 1) := by decide +kernel
theorem dX7_rise_12 : decode cX7_rise 12 = .ok (.ireturn, 1) := by decide +kernel
theorem dX7_rise_13 : decode cX7_rise 13 = .ok (.aload_n 0, 1) := by decide +kernel
theorem dX7_rise_14 : decode cX7_rise 14 = .ok (.getfield 46, 3) := by decide +kernel
theorem dX7_rise_17 : decode cX7_rise 17 = .ok (.aload_n 0, 1) := by decide +kernel
theorem dX7_rise_18 : decode cX7_rise 18 = .ok (.getfield 26, 3) := by decide +kernel
theorem dX7_rise_21 : decode cX7_rise 21 = .ok (.invokevirtual 123, 3) := by decide +kernel
theorem dX7_rise_24 : decode cX7_rise 24 = .ok (.invokevirtual 126, 3) := by decide +kernel
theorem dX7_rise_27 : decode cX7_rise 27 = .ok (.iconst 0, 1) := by decide +kernel
theorem dX7_rise_28 : decode cX7_rise 28 = .ok (.istore_n 2, 1) := by decide +kernel
theorem dX7_rise_29 : decode cX7_rise 29 = .ok (.iload_n 2, 1) := by decide +kernel
theorem dX7_rise_30 : decode cX7_rise 30 = .ok (.bipush 30, 2) := by decide +kernel
theorem dX7_rise_32 : decode cX7_rise 32 = .ok (.if_icmp .gt 32, 3) := by decide +kernel
theorem dX7_rise_35 : decode cX7_rise 35 = .ok (.aload_n 0, 1) := by decide +kernel
theorem dX7_rise_36 : decode cX7_rise 36 = .ok (.getfield 46, 3) := by decide +kernel
theorem dX7_rise_39 : decode cX7_rise 39 = .ok (.iload_n 1, 1) := by decide +kernel
theorem dX7_rise_40 : decode cX7_rise 40 = .ok (.iload_n 2, 1) := by decide +kernel
theorem dX7_rise_41 : decode cX7_rise 41 = .ok (.invokevirtual 235, 3) := by decide +kernel
theorem dX7_rise_44 : decode cX7_rise 44 = .ok (.aload_n 0, 1) := by decide +kernel
theorem dX7_rise_45 : decode cX7_rise 45 = .ok (.getfield 46, 3) := by decide +kernel
theorem dX7_rise_48 : decode cX7_rise 48 = .ok (.iload_n 1, 1) := by decide +kernel
theorem dX7_rise_49 : decode cX7_rise 49 = .ok (.invokevirtual 239, 3) := by decide +kernel
theorem dX7_rise_52 : decode cX7_rise 52 = .ok (.iload_n 1, 1) := by decide +kernel
theorem dX7_rise_53 : decode cX7_rise 53 = .ok (.if_icmp .ne 5, 3) := by decide +kernel
theorem dX7_rise_56 : decode cX7_rise 56 = .ok (.iload_n 2, 1) := by decide +kernel
theorem dX7_rise_57 : decode cX7_rise 57 = .ok (.ireturn, 1) := by decide +kernel
theorem dX7_rise_58 : decode cX7_rise 58 = .ok (.iinc 2 1, 3) := by decide +kernel
theorem dX7_rise_61 : decode cX7_rise 61 = .ok (.goto (-32), 3) := by decide +kernel
theorem dX7_rise_64 : decode cX7_rise 64 = .ok (.bipush (-4), 2) := by decide +kernel
theorem dX7_rise_66 : decode cX7_rise 66 = .ok (.ireturn, 1) := by decide +kernel
set_option maxRecDepth 20000 in
theorem ggX7_count_X5_places : GoodIn wsX7_count wsX5_places := goodIn_r _ [9, 10, 124, 125, 126, 127, 128, 129, 130, 131, 132] (by decide +kernel) (by decide +kernel)
set_option maxRecDepth 20000 in
theorem gX7_count_X5_places : GoodIn wsX7_count (wsV RX7 181 RX5 yX5_places wsX5_places) := goodIn_app (goodIn_of _ (by decide +kernel)) ggX7_count_X5_places
set_option maxRecDepth 20000 in
theorem ggX7_count_X5_links : GoodIn wsX7_count wsX5_links := goodIn_r _ [14, 15, 124, 125, 126, 127, 128, 129, 130, 131, 132] (by decide +kernel) (by decide +kernel)
set_option maxRecDepth 20000 in
theorem gX7_count_X5_links : GoodIn wsX7_count (wsV RX7 101 RX5 yX5_links wsX5_links) := goodIn_app (goodIn_of _ (by decide +kernel)) ggX7_count_X5_links
set_option maxRecDepth 20000 in
theorem ggX7_count_X1_clusters : GoodIn wsX7_count wsX1_clusters := goodIn_r _ [20, 21, 22, 6, 7, 8, 9, 10, 23, 24, 25, 19, 26, 27, 28, 29, 30, 31, 133, 134, 135, 136, 137, 138, 124, 125, 126, 127, 128, 129, 130, 131, 132] (by decide +kernel) (by decide +kernel)
set_option maxRecDepth 20000 in
theorem gX7_count_X1_clusters : GoodIn wsX7_count (wsV RX7 216 RX1 yX1_clusters wsX1_clusters) := goodIn_app (goodIn_of _ (by decide +kernel)) ggX7_count_X1_clusters
set_option maxRecDepth 20000 in
theorem ggX7_count_X1_cutLinks : GoodIn wsX7_count wsX1_cutLinks := goodIn_r _ [35, 21, 22, 6, 7, 8, 9, 10, 36, 37, 38, 39, 40, 41, 42, 43, 19, 44, 31, 133, 134, 135, 136, 137, 138, 124, 125, 126, 127, 128, 129, 130, 131, 132] (by decide +kernel) (by decide +kernel)
set_option maxRecDepth 20000 in
theorem gX7_count_X1_cutLinks : GoodIn wsX7_count (wsV RX7 219 RX1 yX1_cutLinks wsX1_cutLinks) := goodIn_app (goodIn_of _ (by decide +kernel)) ggX7_count_X1_cutLinks
set_option maxRecDepth 20000 in
theorem ggX7_count_X1_spareLinks : GoodIn wsX7_count wsX1_spareLinks := goodIn_r _ [48, 21, 22, 6, 7, 8, 9, 10, 49, 17, 18, 19, 20, 23, 24, 25, 26, 27, 28, 29, 30, 31, 50, 12, 13, 14, 15, 51, 33, 34, 35, 36, 37, 38, 39, 40, 41, 42, 43, 44, 133, 134, 135, 136, 137, 138, 124, 125, 126, 127, 128, 129, 130, 131, 132] (by decide +kernel) (by decide +kernel)
set_option maxRecDepth 20000 in
theorem gX7_count_X1_spareLinks : GoodIn wsX7_count (wsV RX7 242 RX1 yX1_spareLinks wsX1_spareLinks) := goodIn_app (goodIn_of _ (by decide +kernel)) ggX7_count_X1_spareLinks
set_option maxRecDepth 20000 in
theorem ggX7_count_X1_greatestWide : GoodIn wsX7_count wsX1_greatestWide := goodIn_r _ [55, 21, 56, 57, 58, 59, 22, 6, 7, 8, 9, 10, 60, 61, 62, 19, 63, 64, 31, 65, 66, 67, 68, 69, 70, 133, 134, 135, 136, 137, 138, 124, 125, 126, 127, 128, 129, 130, 131, 132, 139] (by decide +kernel) (by decide +kernel)
set_option maxRecDepth 20000 in
theorem gX7_count_X1_greatestWide : GoodIn wsX7_count (wsV RX7 222 RX1 yX1_greatestWide wsX1_greatestWide) := goodIn_app (goodIn_of _ (by decide +kernel)) ggX7_count_X1_greatestWide
set_option maxRecDepth 20000 in
theorem ggX7_count_X1_lastHour : GoodIn wsX7_count wsX1_lastHour := goodIn_r _ [74, 21, 56, 57, 58, 59, 22, 6, 7, 8, 9, 10, 75, 76, 77, 19, 78, 31, 79, 80, 81, 82, 83, 84, 60, 61, 62, 63, 64, 65, 66, 67, 68, 69, 70, 133, 134, 135, 136, 137, 138, 124, 125, 126, 127, 128, 129, 130, 131, 132, 139] (by decide +kernel) (by decide +kernel)
set_option maxRecDepth 20000 in
theorem gX7_count_X1_lastHour : GoodIn wsX7_count (wsV RX7 225 RX1 yX1_lastHour wsX1_lastHour) := goodIn_app (goodIn_of _ (by decide +kernel)) ggX7_count_X1_lastHour
set_option maxRecDepth 20000 in
theorem ggX7_count_X5_toldDelays : GoodIn wsX7_count wsX5_toldDelays := goodIn_r _ [88, 10, 89, 124, 125, 126, 127, 128, 129, 130, 131, 132] (by decide +kernel) (by decide +kernel)
set_option maxRecDepth 20000 in
theorem gX7_count_X5_toldDelays : GoodIn wsX7_count (wsV RX7 245 RX5 yX5_toldDelays wsX5_toldDelays) := goodIn_app (goodIn_of _ (by decide +kernel)) ggX7_count_X5_toldDelays
set_option maxRecDepth 20000 in
theorem ggX7_count_X5_z : GoodIn wsX7_count wsX5_z := goodIn_r _ [93, 94, 124, 125, 126, 127, 128, 129, 130, 131, 132] (by decide +kernel) (by decide +kernel)
set_option maxRecDepth 20000 in
theorem gX7_count_X5_z : GoodIn wsX7_count (wsV RX7 123 RX5 yX5_z wsX5_z) := goodIn_app (goodIn_of _ (by decide +kernel)) ggX7_count_X5_z
set_option maxRecDepth 20000 in
theorem ggX7_count_X5_mostDrawn : GoodIn wsX7_count wsX5_mostDrawn := goodIn_r _ [98, 99, 124, 125, 126, 127, 128, 129, 130, 131, 132] (by decide +kernel) (by decide +kernel)
set_option maxRecDepth 20000 in
theorem gX7_count_X5_mostDrawn : GoodIn wsX7_count (wsV RX7 248 RX5 yX5_mostDrawn wsX5_mostDrawn) := goodIn_app (goodIn_of _ (by decide +kernel)) ggX7_count_X5_mostDrawn
set_option maxRecDepth 20000 in
theorem ggX7_count_X5_ofTen : GoodIn wsX7_count wsX5_ofTen := goodIn_r _ [103, 104, 124, 125, 126, 127, 128, 129, 130, 131, 132] (by decide +kernel) (by decide +kernel)
set_option maxRecDepth 20000 in
theorem gX7_count_X5_ofTen : GoodIn wsX7_count (wsV RX7 251 RX5 yX5_ofTen wsX5_ofTen) := goodIn_app (goodIn_of _ (by decide +kernel)) ggX7_count_X5_ofTen
set_option maxRecDepth 20000 in
theorem ggX7_count_X3_kept : GoodIn wsX7_count wsX3_kept := goodIn_r _ [109, 110, 140, 141, 142] (by decide +kernel) (by decide +kernel)
set_option maxRecDepth 20000 in
theorem gX7_count_X3_kept : GoodIn wsX7_count (wsV RX7 142 RX3 yX3_kept wsX3_kept) := goodIn_app (goodIn_of _ (by decide +kernel)) ggX7_count_X3_kept
set_option maxRecDepth 20000 in
theorem ggX7_count_X2_size : GoodIn wsX7_count wsX2_size := goodIn_r _ [115, 116, 143, 144] (by decide +kernel) (by decide +kernel)
set_option maxRecDepth 20000 in
theorem gX7_count_X2_size : GoodIn wsX7_count (wsV RX7 86 RX2 yX2_size wsX2_size) := goodIn_app (goodIn_of _ (by decide +kernel)) ggX7_count_X2_size
theorem dX7_count_0 : decode cX7_count 0 = .ok (.iload_n 1, 1) := by decide +kernel
theorem dX7_count_1 : decode cX7_count 1 = .ok (.tableswitch 197 0 12 #[67, 77, 87, 97, 107, 117, 127, 137, 147, 157, 167, 177, 187], 67) := by decide +kernel
theorem dX7_count_68 : decode cX7_count 68 = .ok (.aload_n 0, 1) := by decide +kernel
theorem dX7_count_69 : decode cX7_count 69 = .ok (.getfield 26, 3) := by decide +kernel
theorem dX7_count_72 : decode cX7_count 72 = .ok (.invokevirtual 181, 3) := by decide +kernel
theorem dX7_count_75 : decode cX7_count 75 = .ok (.goto 124, 3) := by decide +kernel
theorem dX7_count_78 : decode cX7_count 78 = .ok (.aload_n 0, 1) := by decide +kernel
theorem dX7_count_79 : decode cX7_count 79 = .ok (.getfield 26, 3) := by decide +kernel
theorem dX7_count_82 : decode cX7_count 82 = .ok (.invokevirtual 101, 3) := by decide +kernel
theorem dX7_count_85 : decode cX7_count 85 = .ok (.goto 114, 3) := by decide +kernel
theorem dX7_count_88 : decode cX7_count 88 = .ok (.aload_n 0, 1) := by decide +kernel
theorem dX7_count_89 : decode cX7_count 89 = .ok (.getfield 42, 3) := by decide +kernel
theorem dX7_count_92 : decode cX7_count 92 = .ok (.invokevirtual 216, 3) := by decide +kernel
theorem dX7_count_95 : decode cX7_count 95 = .ok (.goto 104, 3) := by decide +kernel
theorem dX7_count_98 : decode cX7_count 98 = .ok (.aload_n 0, 1) := by decide +kernel
theorem dX7_count_99 : decode cX7_count 99 = .ok (.getfield 42, 3) := by decide +kernel
theorem dX7_count_102 : decode cX7_count 102 = .ok (.invokevirtual 219, 3) := by decide +kernel
theorem dX7_count_105 : decode cX7_count 105 = .ok (.goto 94, 3) := by decide +kernel
theorem dX7_count_108 : decode cX7_count 108 = .ok (.aload_n 0, 1) := by decide +kernel
theorem dX7_count_109 : decode cX7_count 109 = .ok (.getfield 42, 3) := by decide +kernel
theorem dX7_count_112 : decode cX7_count 112 = .ok (.invokevirtual 242, 3) := by decide +kernel
theorem dX7_count_115 : decode cX7_count 115 = .ok (.goto 84, 3) := by decide +kernel
theorem dX7_count_118 : decode cX7_count 118 = .ok (.aload_n 0, 1) := by decide +kernel
theorem dX7_count_119 : decode cX7_count 119 = .ok (.getfield 42, 3) := by decide +kernel
theorem dX7_count_122 : decode cX7_count 122 = .ok (.invokevirtual 222, 3) := by decide +kernel
theorem dX7_count_125 : decode cX7_count 125 = .ok (.goto 74, 3) := by decide +kernel
theorem dX7_count_128 : decode cX7_count 128 = .ok (.aload_n 0, 1) := by decide +kernel
theorem dX7_count_129 : decode cX7_count 129 = .ok (.getfield 42, 3) := by decide +kernel
theorem dX7_count_132 : decode cX7_count 132 = .ok (.invokevirtual 225, 3) := by decide +kernel
theorem dX7_count_135 : decode cX7_count 135 = .ok (.goto 64, 3) := by decide +kernel
theorem dX7_count_138 : decode cX7_count 138 = .ok (.aload_n 0, 1) := by decide +kernel
theorem dX7_count_139 : decode cX7_count 139 = .ok (.getfield 26, 3) := by decide +kernel
theorem dX7_count_142 : decode cX7_count 142 = .ok (.invokevirtual 245, 3) := by decide +kernel
theorem dX7_count_145 : decode cX7_count 145 = .ok (.goto 54, 3) := by decide +kernel
theorem dX7_count_148 : decode cX7_count 148 = .ok (.aload_n 0, 1) := by decide +kernel
theorem dX7_count_149 : decode cX7_count 149 = .ok (.getfield 26, 3) := by decide +kernel
theorem dX7_count_152 : decode cX7_count 152 = .ok (.invokevirtual 123, 3) := by decide +kernel
theorem dX7_count_155 : decode cX7_count 155 = .ok (.goto 44, 3) := by decide +kernel
theorem dX7_count_158 : decode cX7_count 158 = .ok (.aload_n 0, 1) := by decide +kernel
theorem dX7_count_159 : decode cX7_count 159 = .ok (.getfield 26, 3) := by decide +kernel
theorem dX7_count_162 : decode cX7_count 162 = .ok (.invokevirtual 248, 3) := by decide +kernel
theorem dX7_count_165 : decode cX7_count 165 = .ok (.goto 34, 3) := by decide +kernel
theorem dX7_count_168 : decode cX7_count 168 = .ok (.aload_n 0, 1) := by decide +kernel
theorem dX7_count_169 : decode cX7_count 169 = .ok (.getfield 26, 3) := by decide +kernel
theorem dX7_count_172 : decode cX7_count 172 = .ok (.invokevirtual 251, 3) := by decide +kernel
theorem dX7_count_175 : decode cX7_count 175 = .ok (.goto 24, 3) := by decide +kernel
theorem dX7_count_178 : decode cX7_count 178 = .ok (.aload_n 0, 1) := by decide +kernel
theorem dX7_count_179 : decode cX7_count 179 = .ok (.getfield 52, 3) := by decide +kernel
theorem dX7_count_182 : decode cX7_count 182 = .ok (.invokevirtual 142, 3) := by decide +kernel
theorem dX7_count_185 : decode cX7_count 185 = .ok (.goto 14, 3) := by decide +kernel
theorem dX7_count_188 : decode cX7_count 188 = .ok (.aload_n 0, 1) := by decide +kernel
theorem dX7_count_189 : decode cX7_count 189 = .ok (.getfield 10, 3) := by decide +kernel
theorem dX7_count_192 : decode cX7_count 192 = .ok (.invokevirtual 86, 3) := by decide +kernel
theorem dX7_count_195 : decode cX7_count 195 = .ok (.goto 4, 3) := by decide +kernel
theorem dX7_count_198 : decode cX7_count 198 = .ok (.iconst (-1), 1) := by decide +kernel
theorem dX7_count_199 : decode cX7_count 199 = .ok (.ireturn, 1) := by decide +kernel
set_option maxRecDepth 20000 in
theorem ggX7_layText_X6_firstFault : GoodIn wsX7_layText wsX6_firstFault := goodIn_r _ [9, 10, 11, 12, 13, 14, 15, 16, 17, 18, 19, 20, 21, 22, 23, 24, 25, 26, 27, 28, 29, 30, 31, 32, 33, 34, 35, 36, 37, 38, 39, 40, 41, 8, 42, 43, 44, 45, 46, 47, 48, 49, 50, 51, 52, 53, 54, 55, 56, 57, 58, 59, 60, 61, 62, 63, 64, 65, 66, 67, 68, 69, 70, 71, 72, 73, 74, 75, 76, 77, 78, 79, 80, 81, 82, 83, 84, 85, 86, 87, 88, 89, 90, 91, 92, 93, 94, 95, 96, 97, 98, 99, 100, 101, 102, 103, 104, 105, 106, 107, 108, 109, 110, 111, 112, 113, 114, 115, 116, 117, 118, 119, 120, 121, 122, 123, 124, 234, 235, 236, 237, 238, 239, 240, 241, 242, 243, 244, 245, 246] (by decide +kernel) (by decide +kernel)
set_option maxRecDepth 20000 in
theorem gX7_layText_X6_firstFault : GoodIn wsX7_layText (wsV RX7 89 RX6 yX6_firstFault wsX6_firstFault) := goodIn_app (goodIn_of _ (by decide +kernel)) ggX7_layText_X6_firstFault
set_option maxRecDepth 20000 in
theorem ggX7_layText_X6_draft : GoodIn wsX7_layText wsX6_draft := goodIn_r _ [128, 10, 234, 235] (by decide +kernel) (by decide +kernel)
set_option maxRecDepth 20000 in
theorem gX7_layText_X6_draft : GoodIn wsX7_layText (wsV RX7 254 RX6 yX6_draft wsX6_draft) := goodIn_app (goodIn_of _ (by decide +kernel)) ggX7_layText_X6_draft
set_option maxRecDepth 20000 in
theorem ggX7_layText_X5_places : GoodIn wsX7_layText wsX5_places := goodIn_r _ [66, 17, 236, 237, 238, 239, 240, 241, 242, 243, 244] (by decide +kernel) (by decide +kernel)
set_option maxRecDepth 20000 in
theorem gX7_layText_X5_places : GoodIn wsX7_layText (wsV RX7 181 RX5 yX5_places wsX5_places) := goodIn_app (goodIn_of _ (by decide +kernel)) ggX7_layText_X5_places
set_option maxRecDepth 20000 in
theorem ggX7_layText_X5_copyFrom : GoodIn wsX7_layText wsX5_copyFrom := goodIn_r _ [133, 16, 134, 135, 136, 137, 30, 31, 32, 17, 18, 19, 20, 21, 236, 237, 238, 239, 240, 241, 242, 243, 244] (by decide +kernel) (by decide +kernel)
set_option maxRecDepth 20000 in
theorem gX7_layText_X5_copyFrom : GoodIn wsX7_layText (wsV RX7 258 RX5 yX5_copyFrom wsX5_copyFrom) := goodIn_app (goodIn_of _ (by decide +kernel)) ggX7_layText_X5_copyFrom
set_option maxRecDepth 20000 in
theorem ggX7_layText_X3_forget : GoodIn wsX7_layText wsX3_forget := goodIn_r _ [142, 143, 247, 248, 249] (by decide +kernel) (by decide +kernel)
set_option maxRecDepth 20000 in
theorem gX7_layText_X3_forget : GoodIn wsX7_layText (wsV RX7 261 RX3 yX3_forget wsX3_forget) := goodIn_app (goodIn_of _ (by decide +kernel)) ggX7_layText_X3_forget
set_option maxRecDepth 20000 in
theorem ggX7_layText_X7_settleAll : GoodIn wsX7_layText wsX7_settleAll := goodIn_r _ [147, 148, 3, 149, 150, 151, 152, 153, 154, 155, 156, 157, 64, 65, 14, 66, 17, 158, 88, 89, 90, 16, 159, 160, 161, 162, 163, 164, 165, 166, 167, 168, 169, 170, 171, 172, 173, 174, 21, 175, 176, 177, 178, 179, 180, 181, 182, 183, 184, 185, 186, 187, 188, 30, 31, 189, 190, 191, 192, 19, 20, 193, 194, 195, 196, 197, 198, 199, 200, 201, 202, 203, 32, 204, 205, 206, 207, 208, 209, 210, 211, 212, 213, 214, 215, 216, 217, 218, 219, 220, 221, 222, 223, 224, 225, 226, 227, 228, 229, 230, 231, 232, 233, 250, 236, 237, 238, 239, 240, 241, 242, 243, 244, 251, 252, 253, 254, 255, 256] (by decide +kernel) (by decide +kernel)
set_option maxRecDepth 20000 in
theorem gX7_layText_X7_settleAll : GoodIn wsX7_layText (wsV RX7 148 RX7 yX7_settleAll wsX7_settleAll) := goodIn_app (goodIn_of _ (by decide +kernel)) ggX7_layText_X7_settleAll
theorem dX7_layText_0 : decode cX7_layText 0 = .ok (.aload_n 0, 1) := by decide +kernel
theorem dX7_layText_1 : decode cX7_layText 1 = .ok (.getfield 19, 3) := by decide +kernel
theorem dX7_layText_4 : decode cX7_layText 4 = .ok (.aload_n 0, 1) := by decide +kernel
theorem dX7_layText_5 : decode cX7_layText 5 = .ok (.getfield 10, 3) := by decide +kernel
theorem dX7_layText_8 : decode cX7_layText 8 = .ok (.invokevirtual 89, 3) := by decide +kernel
theorem dX7_layText_11 : decode cX7_layText 11 = .ok (.bipush (-4), 2) := by decide +kernel
theorem dX7_layText_13 : decode cX7_layText 13 = .ok (.if_icmp .ne 16, 3) := by decide +kernel
theorem dX7_layText_16 : decode cX7_layText 16 = .ok (.aload_n 0, 1) := by decide +kernel
theorem dX7_layText_17 : decode cX7_layText 17 = .ok (.getfield 19, 3) := by decide +kernel
theorem dX7_layText_20 : decode cX7_layText 20 = .ok (.invokevirtual 254, 3) := by decide +kernel
theorem dX7_layText_23 : decode cX7_layText 23 = .ok (.invokevirtual 181, 3) := by decide +kernel
theorem dX7_layText_26 : decode cX7_layText 26 = .ok (.ifCond .ne 6, 3) := by decide +kernel
theorem dX7_layText_29 : decode cX7_layText 29 = .ok (.bipush (-2), 2) := by decide +kernel
theorem dX7_layText_31 : decode cX7_layText 31 = .ok (.ireturn, 1) := by decide +kernel
theorem dX7_layText_32 : decode cX7_layText 32 = .ok (.aload_n 0, 1) := by decide +kernel
theorem dX7_layText_33 : decode cX7_layText 33 = .ok (.getfield 26, 3) := by decide +kernel
theorem dX7_layText_36 : decode cX7_layText 36 = .ok (.aload_n 0, 1) := by decide +kernel
theorem dX7_layText_37 : decode cX7_layText 37 = .ok (.getfield 19, 3) := by decide +kernel
theorem dX7_layText_40 : decode cX7_layText 40 = .ok (.invokevirtual 254, 3) := by decide +kernel
theorem dX7_layText_43 : decode cX7_layText 43 = .ok (.invokevirtual 258, 3) := by decide +kernel
theorem dX7_layText_46 : decode cX7_layText 46 = .ok (.aload_n 0, 1) := by decide +kernel
theorem dX7_layText_47 : decode cX7_layText 47 = .ok (.getfield 52, 3) := by decide +kernel
theorem dX7_layText_50 : decode cX7_layText 50 = .ok (.invokevirtual 261, 3) := by decide +kernel
theorem dX7_layText_53 : decode cX7_layText 53 = .ok (.aload_n 0, 1) := by decide +kernel
theorem dX7_layText_54 : decode cX7_layText 54 = .ok (.invokevirtual 148, 3) := by decide +kernel
theorem dX7_layText_57 : decode cX7_layText 57 = .ok (.aload_n 0, 1) := by decide +kernel
theorem dX7_layText_58 : decode cX7_layText 58 = .ok (.getfield 26, 3) := by decide +kernel
theorem dX7_layText_61 : decode cX7_layText 61 = .ok (.invokevirtual 181, 3) := by decide +kernel
theorem dX7_layText_64 : decode cX7_layText 64 = .ok (.ireturn, 1) := by decide +kernel
set_option maxRecDepth 20000 in
theorem ggX7_changeLength_X3_keepLink : GoodIn wsX7_changeLength wsX3_keepLink := goodIn_r _ [7, 8, 9, 10, 6, 11, 12, 13, 14, 15, 16, 17, 18, 19, 20, 21, 22, 23, 24, 25, 26, 27, 28, 29, 30, 31, 32, 33, 140, 141, 142, 143, 144, 145, 146, 147, 148, 149, 150, 151, 152, 153, 154, 155, 156, 157, 158, 159] (by decide +kernel) (by decide +kernel)
set_option maxRecDepth 20000 in
theorem gX7_changeLength_X3_keepLink : GoodIn wsX7_changeLength (wsV RX7 264 RX3 yX3_keepLink wsX3_keepLink) := goodIn_app (goodIn_of _ (by decide +kernel)) ggX7_changeLength_X3_keepLink
set_option maxRecDepth 20000 in
theorem ggX7_changeLength_X5_setLength : GoodIn wsX7_changeLength wsX5_setLength := goodIn_r _ [37, 38, 33, 39, 29, 30, 31, 32, 151, 152, 153, 154, 155, 156, 157, 158, 159] (by decide +kernel) (by decide +kernel)
set_option maxRecDepth 20000 in
theorem gX7_changeLength_X5_setLength : GoodIn wsX7_changeLength (wsV RX7 268 RX5 yX5_setLength wsX5_setLength) := goodIn_app (goodIn_of _ (by decide +kernel)) ggX7_changeLength_X5_setLength
set_option maxRecDepth 20000 in
theorem ggX7_changeLength_X7_settleAll : GoodIn wsX7_changeLength wsX7_settleAll := goodIn_r _ [44, 45, 2, 46, 47, 48, 49, 50, 51, 52, 53, 54, 55, 56, 31, 57, 58, 59, 29, 30, 32, 33, 60, 61, 62, 63, 64, 65, 66, 67, 68, 69, 70, 71, 72, 73, 74, 75, 76, 77, 78, 79, 80, 81, 82, 83, 84, 85, 86, 87, 88, 89, 90, 91, 92, 93, 94, 95, 96, 97, 98, 99, 100, 101, 102, 103, 104, 105, 106, 107, 108, 109, 110, 111, 112, 113, 114, 115, 116, 117, 17, 118, 119, 120, 121, 122, 123, 124, 125, 126, 127, 128, 129, 130, 131, 132, 133, 134, 135, 136, 137, 138, 139, 160, 151, 152, 153, 154, 155, 156, 157, 158, 159, 161, 162, 163, 164, 165, 166] (by decide +kernel) (by decide +kernel)
set_option maxRecDepth 20000 in
theorem gX7_changeLength_X7_settleAll : GoodIn wsX7_changeLength (wsV RX7 148 RX7 yX7_settleAll wsX7_settleAll) := goodIn_app (goodIn_of _ (by decide +kernel)) ggX7_changeLength_X7_settleAll
theorem dX7_changeLength_0 : decode cX7_changeLength 0 = .ok (.aload_n 0, 1) := by decide +kernel
theorem dX7_changeLength_1 : decode cX7_changeLength 1 = .ok (.getfield 52, 3) := by decide +kernel
theorem dX7_changeLength_4 : decode cX7_changeLength 4 = .ok (.aload_n 0, 1) := by decide +kernel
theorem dX7_changeLength_5 : decode cX7_changeLength 5 = .ok (.getfield 26, 3) := by decide +kernel
theorem dX7_changeLength_8 : decode cX7_changeLength 8 = .ok (.iload_n 1, 1) := by decide +kernel
theorem dX7_changeLength_9 : decode cX7_changeLength 9 = .ok (.iload_n 2, 1) := by decide +kernel
theorem dX7_changeLength_10 : decode cX7_changeLength 10 = .ok (.invokevirtual 264, 3) := by decide +kernel
theorem dX7_changeLength_13 : decode cX7_changeLength 13 = .ok (.aload_n 0, 1) := by decide +kernel
theorem dX7_changeLength_14 : decode cX7_changeLength 14 = .ok (.getfield 26, 3) := by decide +kernel
theorem dX7_changeLength_17 : decode cX7_changeLength 17 = .ok (.iload_n 1, 1) := by decide +kernel
theorem dX7_changeLength_18 : decode cX7_changeLength 18 = .ok (.iload_n 2, 1) := by decide +kernel
theorem dX7_changeLength_19 : decode cX7_changeLength 19 = .ok (.iload_n 3, 1) := by decide +kernel
theorem dX7_changeLength_20 : decode cX7_changeLength 20 = .ok (.invokevirtual 268, 3) := by decide +kernel
theorem dX7_changeLength_23 : decode cX7_changeLength 23 = .ok (.aload_n 0, 1) := by decide +kernel
theorem dX7_changeLength_24 : decode cX7_changeLength 24 = .ok (.invokevirtual 148, 3) := by decide +kernel
theorem dX7_changeLength_27 : decode cX7_changeLength 27 = .ok (.return_, 1) := by decide +kernel
set_option maxRecDepth 20000 in
theorem ggX7_settleAll_X4_measure : GoodIn wsX7_settleAll wsX4_measure := goodIn_r _ [8, 9, 10, 11, 12, 13, 14, 15, 16, 17, 18, 19, 20, 21, 22, 23, 24, 7, 25, 26, 27, 28, 29, 30, 31, 32, 33, 103, 104, 105, 106, 107, 108, 109, 110, 111, 112] (by decide +kernel) (by decide +kernel)
set_option maxRecDepth 20000 in
theorem gX7_settleAll_X4_measure : GoodIn wsX7_settleAll (wsV RX7 271 RX4 yX4_measure wsX4_measure) := goodIn_app (goodIn_of _ (by decide +kernel)) ggX7_settleAll_X4_measure
set_option maxRecDepth 20000 in
theorem ggX7_settleAll_X5_z : GoodIn wsX7_settleAll wsX5_z := goodIn_r _ [37, 38, 104, 105, 106, 107, 108, 109, 110, 111, 112] (by decide +kernel) (by decide +kernel)
set_option maxRecDepth 20000 in
theorem gX7_settleAll_X5_z : GoodIn wsX7_settleAll (wsV RX7 123 RX5 yX5_z wsX5_z) := goodIn_app (goodIn_of _ (by decide +kernel)) ggX7_settleAll_X5_z
set_option maxRecDepth 20000 in
theorem ggX7_settleAll_X1_settleBy : GoodIn wsX7_settleAll wsX1_settleBy := goodIn_r _ [43, 44, 45, 46, 47, 48, 12, 13, 14, 15, 16, 49, 50, 51, 52, 53, 54, 55, 56, 57, 58, 59, 60, 61, 62, 63, 64, 65, 66, 67, 68, 69, 70, 71, 72, 73, 74, 75, 42, 76, 77, 78, 79, 80, 81, 82, 83, 84, 85, 86, 87, 88, 89, 90, 91, 27, 28, 7, 29, 9, 92, 93, 94, 95, 113, 114, 115, 116, 117, 118, 104, 105, 106, 107, 108, 109, 110, 111, 112, 103] (by decide +kernel) (by decide +kernel)
set_option maxRecDepth 20000 in
theorem gX7_settleAll_X1_settleBy : GoodIn wsX7_settleAll (wsV RX7 126 RX1 yX1_settleBy wsX1_settleBy) := goodIn_app (goodIn_of _ (by decide +kernel)) ggX7_settleAll_X1_settleBy
theorem dX7_settleAll_0 : decode cX7_settleAll 0 = .ok (.aload_n 0, 1) := by decide +kernel
theorem dX7_settleAll_1 : decode cX7_settleAll 1 = .ok (.getfield 33, 3) := by decide +kernel
theorem dX7_settleAll_4 : decode cX7_settleAll 4 = .ok (.aload_n 0, 1) := by decide +kernel
theorem dX7_settleAll_5 : decode cX7_settleAll 5 = .ok (.getfield 26, 3) := by decide +kernel
theorem dX7_settleAll_8 : decode cX7_settleAll 8 = .ok (.invokevirtual 271, 3) := by decide +kernel
theorem dX7_settleAll_11 : decode cX7_settleAll 11 = .ok (.aload_n 0, 1) := by decide +kernel
theorem dX7_settleAll_12 : decode cX7_settleAll 12 = .ok (.getfield 42, 3) := by decide +kernel
theorem dX7_settleAll_15 : decode cX7_settleAll 15 = .ok (.aload_n 0, 1) := by decide +kernel
theorem dX7_settleAll_16 : decode cX7_settleAll 16 = .ok (.getfield 26, 3) := by decide +kernel
theorem dX7_settleAll_19 : decode cX7_settleAll 19 = .ok (.invokevirtual 123, 3) := by decide +kernel
theorem dX7_settleAll_22 : decode cX7_settleAll 22 = .ok (.invokevirtual 126, 3) := by decide +kernel
theorem dX7_settleAll_25 : decode cX7_settleAll 25 = .ok (.return_, 1) := by decide +kernel
set_option maxRecDepth 20000 in
theorem ggX7_isCluster_X1_clusters : GoodIn wsX7_isCluster wsX1_clusters := goodIn_r _ [6, 7, 8, 9, 10, 11, 12, 13, 14, 15, 16, 5, 17, 18, 19, 20, 21, 22, 34, 35, 36, 37, 38, 39, 40, 41, 42, 43, 44, 45, 46, 47, 48] (by decide +kernel) (by decide +kernel)
set_option maxRecDepth 20000 in
theorem gX7_isCluster_X1_clusters : GoodIn wsX7_isCluster (wsV RX7 216 RX1 yX1_clusters wsX1_clusters) := goodIn_app (goodIn_of _ (by decide +kernel)) ggX7_isCluster_X1_clusters
set_option maxRecDepth 20000 in
theorem ggX7_isCluster_X7_isWithin : GoodIn wsX7_isCluster wsX7_isWithin := goodIn_r _ [26] (by decide +kernel) (by decide +kernel)
set_option maxRecDepth 20000 in
theorem gX7_isCluster_X7_isWithin : GoodIn wsX7_isCluster (va_wsS RX7 78 yX7_isWithin wsX7_isWithin) := goodIn_app (goodIn_of _ (by decide +kernel)) ggX7_isCluster_X7_isWithin
theorem dX7_isCluster_0 : decode cX7_isCluster 0 = .ok (.iload_n 1, 1) := by decide +kernel
theorem dX7_isCluster_1 : decode cX7_isCluster 1 = .ok (.iconst 0, 1) := by decide +kernel
theorem dX7_isCluster_2 : decode cX7_isCluster 2 = .ok (.aload_n 0, 1) := by decide +kernel
theorem dX7_isCluster_3 : decode cX7_isCluster 3 = .ok (.getfield 42, 3) := by decide +kernel
theorem dX7_isCluster_6 : decode cX7_isCluster 6 = .ok (.invokevirtual 216, 3) := by decide +kernel
theorem dX7_isCluster_9 : decode cX7_isCluster 9 = .ok (.iconst 1, 1) := by decide +kernel
theorem dX7_isCluster_10 : decode cX7_isCluster 10 = .ok (.isub, 1) := by decide +kernel
theorem dX7_isCluster_11 : decode cX7_isCluster 11 = .ok (.invokestatic 78, 3) := by decide +kernel
theorem dX7_isCluster_14 : decode cX7_isCluster 14 = .ok (.ireturn, 1) := by decide +kernel
theorem dX7_isWithin_0 : decode cX7_isWithin 0 = .ok (.iload_n 1, 1) := by decide +kernel
theorem dX7_isWithin_1 : decode cX7_isWithin 1 = .ok (.iload_n 0, 1) := by decide +kernel
theorem dX7_isWithin_2 : decode cX7_isWithin 2 = .ok (.if_icmp .gt 12, 3) := by decide +kernel
theorem dX7_isWithin_5 : decode cX7_isWithin 5 = .ok (.iload_n 0, 1) := by decide +kernel
theorem dX7_isWithin_6 : decode cX7_isWithin 6 = .ok (.iload_n 2, 1) := by decide +kernel
theorem dX7_isWithin_7 : decode cX7_isWithin 7 = .ok (.if_icmp .gt 7, 3) := by decide +kernel
theorem dX7_isWithin_10 : decode cX7_isWithin 10 = .ok (.iconst 1, 1) := by decide +kernel
theorem dX7_isWithin_11 : decode cX7_isWithin 11 = .ok (.goto 4, 3) := by decide +kernel
theorem dX7_isWithin_14 : decode cX7_isWithin 14 = .ok (.iconst 0, 1) := by decide +kernel
theorem dX7_isWithin_15 : decode cX7_isWithin 15 = .ok (.ireturn, 1) := by decide +kernel
theorem dX7_inLowestTerms_0 : decode cX7_inLowestTerms 0 = .ok (.bipush 60, 2) := by decide +kernel
theorem dX7_inLowestTerms_2 : decode cX7_inLowestTerms 2 = .ok (.istore_n 3, 1) := by decide +kernel
theorem dX7_inLowestTerms_3 : decode cX7_inLowestTerms 3 = .ok (.iload_n 3, 1) := by decide +kernel
theorem dX7_inLowestTerms_4 : decode cX7_inLowestTerms 4 = .ok (.iconst 1, 1) := by decide +kernel
theorem dX7_inLowestTerms_5 : decode cX7_inLowestTerms 5 = .ok (.if_icmp .le 25, 3) := by decide +kernel
theorem dX7_inLowestTerms_8 : decode cX7_inLowestTerms 8 = .ok (.iload_n 1, 1) := by decide +kernel
theorem dX7_inLowestTerms_9 : decode cX7_inLowestTerms 9 = .ok (.iload_n 3, 1) := by decide +kernel
theorem dX7_inLowestTerms_10 : decode cX7_inLowestTerms 10 = .ok (.irem, 1) := by decide +kernel
theorem dX7_inLowestTerms_11 : decode cX7_inLowestTerms 11 = .ok (.ifCond .ne 13, 3) := by decide +kernel
theorem dX7_inLowestTerms_14 : decode cX7_inLowestTerms 14 = .ok (.iload_n 2, 1) := by decide +kernel
theorem dX7_inLowestTerms_15 : decode cX7_inLowestTerms 15 = .ok (.iload_n 3, 1) := by decide +kernel
theorem dX7_inLowestTerms_16 : decode cX7_inLowestTerms 16 = .ok (.irem, 1) := by decide +kernel
theorem dX7_inLowestTerms_17 : decode cX7_inLowestTerms 17 = .ok (.ifCond .ne 7, 3) := by decide +kernel
theorem dX7_inLowestTerms_20 : decode cX7_inLowestTerms 20 = .ok (.iload_n 0, 1) := by decide +kernel
theorem dX7_inLowestTerms_21 : decode cX7_inLowestTerms 21 = .ok (.iload_n 3, 1) := by decide +kernel
theorem dX7_inLowestTerms_22 : decode cX7_inLowestTerms 22 = .ok (.idiv, 1) := by decide +kernel
theorem dX7_inLowestTerms_23 : decode cX7_inLowestTerms 23 = .ok (.ireturn, 1) := by decide +kernel
theorem dX7_inLowestTerms_24 : decode cX7_inLowestTerms 24 = .ok (.iinc 3 (-1), 3) := by decide +kernel
theorem dX7_inLowestTerms_27 : decode cX7_inLowestTerms 27 = .ok (.goto (-24), 3) := by decide +kernel
theorem dX7_inLowestTerms_30 : decode cX7_inLowestTerms 30 = .ok (.iload_n 0, 1) := by decide +kernel
theorem dX7_inLowestTerms_31 : decode cX7_inLowestTerms 31 = .ok (.ireturn, 1) := by decide +kernel
set_option maxRecDepth 20000 in
theorem ggX8_init_X8_clears : GoodIn wsX8_init wsX8_clears := goodIn_r _ [21, 16, 9, 7, 34, 35, 36, 37, 38, 39, 40, 41, 42, 43, 44, 45, 46, 47, 48, 49, 50, 51, 52, 53] (by decide +kernel) (by decide +kernel)
set_option maxRecDepth 20000 in
theorem gX8_init_X8_clears : GoodIn wsX8_init (wsV RX8 43 RX8 yX8_clears wsX8_clears) := goodIn_app (goodIn_of _ (by decide +kernel)) ggX8_init_X8_clears
set_option maxRecDepth 20000 in
theorem ggX8_init_X8_joins : GoodIn wsX8_init wsX8_joins := goodIn_r _ [25, 7, 34, 35, 36, 37, 38, 39, 40, 41, 42, 43, 44, 45, 46, 47, 48, 49, 50, 51, 52, 53] (by decide +kernel) (by decide +kernel)
set_option maxRecDepth 20000 in
theorem gX8_init_X8_joins : GoodIn wsX8_init (wsV RX8 50 RX8 yX8_joins wsX8_joins) := goodIn_app (goodIn_of _ (by decide +kernel)) ggX8_init_X8_joins
set_option maxRecDepth 20000 in
theorem ggX8_init_X8_takes : GoodIn wsX8_init wsX8_takes := goodIn_r _ [29, 16, 30, 9, 31, 32, 6, 7, 33, 34, 35, 36, 37, 38, 39, 40, 41, 42, 43, 44, 45, 46, 47, 48, 49, 50, 51, 52, 53] (by decide +kernel) (by decide +kernel)
set_option maxRecDepth 20000 in
theorem gX8_init_X8_takes : GoodIn wsX8_init (wsV RX8 54 RX8 yX8_takes wsX8_takes) := goodIn_app (goodIn_of _ (by decide +kernel)) ggX8_init_X8_takes
theorem dX8_init_0 : decode cX8_init 0 = .ok (.aload_n 0, 1) := by decide +kernel
theorem dX8_init_1 : decode cX8_init 1 = .ok (.invokespecial 1, 3) := by decide +kernel
theorem dX8_init_4 : decode cX8_init 4 = .ok (.aload_n 0, 1) := by decide +kernel
theorem dX8_init_5 : decode cX8_init 5 = .ok (.sipush 200, 3) := by decide +kernel
theorem dX8_init_8 : decode cX8_init 8 = .ok (.newarray .int, 2) := by decide +kernel
theorem dX8_init_10 : decode cX8_init 10 = .ok (.putfield 7, 3) := by decide +kernel
theorem dX8_init_13 : decode cX8_init 13 = .ok (.aload_n 0, 1) := by decide +kernel
theorem dX8_init_14 : decode cX8_init 14 = .ok (.sipush 289, 3) := by decide +kernel
theorem dX8_init_17 : decode cX8_init 17 = .ok (.newarray .int, 2) := by decide +kernel
theorem dX8_init_19 : decode cX8_init 19 = .ok (.putfield 13, 3) := by decide +kernel
theorem dX8_init_22 : decode cX8_init 22 = .ok (.aload_n 0, 1) := by decide +kernel
theorem dX8_init_23 : decode cX8_init 23 = .ok (.sipush 289, 3) := by decide +kernel
theorem dX8_init_26 : decode cX8_init 26 = .ok (.newarray .int, 2) := by decide +kernel
theorem dX8_init_28 : decode cX8_init 28 = .ok (.putfield 16, 3) := by decide +kernel
theorem dX8_init_31 : decode cX8_init 31 = .ok (.aload_n 0, 1) := by decide +kernel
theorem dX8_init_32 : decode cX8_init 32 = .ok (.sipush 1156, 3) := by decide +kernel
theorem dX8_init_35 : decode cX8_init 35 = .ok (.newarray .int, 2) := by decide +kernel
theorem dX8_init_37 : decode cX8_init 37 = .ok (.putfield 19, 3) := by decide +kernel
theorem dX8_init_40 : decode cX8_init 40 = .ok (.aload_n 0, 1) := by decide +kernel
theorem dX8_init_41 : decode cX8_init 41 = .ok (.iconst 2, 1) := by decide +kernel
theorem dX8_init_42 : decode cX8_init 42 = .ok (.newarray .int, 2) := by decide +kernel
theorem dX8_init_44 : decode cX8_init 44 = .ok (.putfield 22, 3) := by decide +kernel
theorem dX8_init_47 : decode cX8_init 47 = .ok (.aload_n 0, 1) := by decide +kernel
theorem dX8_init_48 : decode cX8_init 48 = .ok (.sipush 256, 3) := by decide +kernel
theorem dX8_init_51 : decode cX8_init 51 = .ok (.newarray .int, 2) := by decide +kernel
theorem dX8_init_53 : decode cX8_init 53 = .ok (.putfield 25, 3) := by decide +kernel
theorem dX8_init_56 : decode cX8_init 56 = .ok (.aload_n 0, 1) := by decide +kernel
theorem dX8_init_57 : decode cX8_init 57 = .ok (.bipush 16, 2) := by decide +kernel
theorem dX8_init_59 : decode cX8_init 59 = .ok (.newarray .int, 2) := by decide +kernel
theorem dX8_init_61 : decode cX8_init 61 = .ok (.putfield 28, 3) := by decide +kernel
theorem dX8_init_64 : decode cX8_init 64 = .ok (.aload_n 0, 1) := by decide +kernel
theorem dX8_init_65 : decode cX8_init 65 = .ok (.bipush 16, 2) := by decide +kernel
theorem dX8_init_67 : decode cX8_init 67 = .ok (.newarray .int, 2) := by decide +kernel
theorem dX8_init_69 : decode cX8_init 69 = .ok (.putfield 31, 3) := by decide +kernel
theorem dX8_init_72 : decode cX8_init 72 = .ok (.aload_n 0, 1) := by decide +kernel
theorem dX8_init_73 : decode cX8_init 73 = .ok (.bipush 16, 2) := by decide +kernel
theorem dX8_init_75 : decode cX8_init 75 = .ok (.newarray .int, 2) := by decide +kernel
theorem dX8_init_77 : decode cX8_init 77 = .ok (.putfield 34, 3) := by decide +kernel
theorem dX8_init_80 : decode cX8_init 80 = .ok (.aload_n 0, 1) := by decide +kernel
theorem dX8_init_81 : decode cX8_init 81 = .ok (.bipush 16, 2) := by decide +kernel
theorem dX8_init_83 : decode cX8_init 83 = .ok (.newarray .int, 2) := by decide +kernel
theorem dX8_init_85 : decode cX8_init 85 = .ok (.putfield 37, 3) := by decide +kernel
theorem dX8_init_88 : decode cX8_init 88 = .ok (.aload_n 0, 1) := by decide +kernel
theorem dX8_init_89 : decode cX8_init 89 = .ok (.bipush 16, 2) := by decide +kernel
theorem dX8_init_91 : decode cX8_init 91 = .ok (.newarray .int, 2) := by decide +kernel
theorem dX8_init_93 : decode cX8_init 93 = .ok (.putfield 40, 3) := by decide +kernel
theorem dX8_init_96 : decode cX8_init 96 = .ok (.aload_n 0, 1) := by decide +kernel
theorem dX8_init_97 : decode cX8_init 97 = .ok (.invokevirtual 43, 3) := by decide +kernel
theorem dX8_init_100 : decode cX8_init 100 = .ok (.aload_n 0, 1) := by decide +kernel
theorem dX8_init_101 : decode cX8_init 101 = .ok (.bipush 7, 2) := by decide +kernel
theorem dX8_init_103 : decode cX8_init 103 = .ok (.putfield 46, 3) := by decide +kernel
theorem dX8_init_106 : decode cX8_init 106 = .ok (.aload_n 0, 1) := by decide +kernel
theorem dX8_init_107 : decode cX8_init 107 = .ok (.iconst 0, 1) := by decide +kernel
theorem dX8_init_108 : decode cX8_init 108 = .ok (.iconst 1, 1) := by decide +kernel
theorem dX8_init_109 : decode cX8_init 109 = .ok (.iconst 1, 1) := by decide +kernel
theorem dX8_init_110 : decode cX8_init 110 = .ok (.invokevirtual 50, 3) := by decide +kernel
theorem dX8_init_113 : decode cX8_init 113 = .ok (.aload_n 0, 1) := by decide +kernel
theorem dX8_init_114 : decode cX8_init 114 = .ok (.iconst 1, 1) := by decide +kernel
theorem dX8_init_115 : decode cX8_init 115 = .ok (.iconst 2, 1) := by decide +kernel
theorem dX8_init_116 : decode cX8_init 116 = .ok (.iconst 2, 1) := by decide +kernel
theorem dX8_init_117 : decode cX8_init 117 = .ok (.invokevirtual 50, 3) := by decide +kernel
theorem dX8_init_120 : decode cX8_init 120 = .ok (.aload_n 0, 1) := by decide +kernel
theorem dX8_init_121 : decode cX8_init 121 = .ok (.iconst 2, 1) := by decide +kernel
theorem dX8_init_122 : decode cX8_init 122 = .ok (.iconst 3, 1) := by decide +kernel
theorem dX8_init_123 : decode cX8_init 123 = .ok (.iconst 1, 1) := by decide +kernel
theorem dX8_init_124 : decode cX8_init 124 = .ok (.invokevirtual 50, 3) := by decide +kernel
theorem dX8_init_127 : decode cX8_init 127 = .ok (.aload_n 0, 1) := by decide +kernel
theorem dX8_init_128 : decode cX8_init 128 = .ok (.iconst 3, 1) := by decide +kernel
theorem dX8_init_129 : decode cX8_init 129 = .ok (.iconst 4, 1) := by decide +kernel
theorem dX8_init_130 : decode cX8_init 130 = .ok (.iconst 1, 1) := by decide +kernel
theorem dX8_init_131 : decode cX8_init 131 = .ok (.invokevirtual 50, 3) := by decide +kernel
theorem dX8_init_134 : decode cX8_init 134 = .ok (.aload_n 0, 1) := by decide +kernel
theorem dX8_init_135 : decode cX8_init 135 = .ok (.iconst 4, 1) := by decide +kernel
theorem dX8_init_136 : decode cX8_init 136 = .ok (.iconst 5, 1) := by decide +kernel
theorem dX8_init_137 : decode cX8_init 137 = .ok (.iconst 3, 1) := by decide +kernel
theorem dX8_init_138 : decode cX8_init 138 = .ok (.invokevirtual 50, 3) := by decide +kernel
theorem dX8_init_141 : decode cX8_init 141 = .ok (.aload_n 0, 1) := by decide +kernel
theorem dX8_init_142 : decode cX8_init 142 = .ok (.iconst 5, 1) := by decide +kernel
theorem dX8_init_143 : decode cX8_init 143 = .ok (.iconst 0, 1) := by decide +kernel
theorem dX8_init_144 : decode cX8_init 144 = .ok (.iconst 1, 1) := by decide +kernel
theorem dX8_init_145 : decode cX8_init 145 = .ok (.invokevirtual 50, 3) := by decide +kernel
theorem dX8_init_148 : decode cX8_init 148 = .ok (.aload_n 0, 1) := by decide +kernel
theorem dX8_init_149 : decode cX8_init 149 = .ok (.iconst 1, 1) := by decide +kernel
theorem dX8_init_150 : decode cX8_init 150 = .ok (.bipush 6, 2) := by decide +kernel
theorem dX8_init_152 : decode cX8_init 152 = .ok (.iconst 1, 1) := by decide +kernel
theorem dX8_init_153 : decode cX8_init 153 = .ok (.invokevirtual 50, 3) := by decide +kernel
theorem dX8_init_156 : decode cX8_init 156 = .ok (.aload_n 0, 1) := by decide +kernel
theorem dX8_init_157 : decode cX8_init 157 = .ok (.bipush 6, 2) := by decide +kernel
theorem dX8_init_159 : decode cX8_init 159 = .ok (.iconst 3, 1) := by decide +kernel
theorem dX8_init_160 : decode cX8_init 160 = .ok (.iconst 2, 1) := by decide +kernel
theorem dX8_init_161 : decode cX8_init 161 = .ok (.invokevirtual 50, 3) := by decide +kernel
theorem dX8_init_164 : decode cX8_init 164 = .ok (.aload_n 0, 1) := by decide +kernel
theorem dX8_init_165 : decode cX8_init 165 = .ok (.getfield 16, 3) := by decide +kernel
theorem dX8_init_168 : decode cX8_init 168 = .ok (.sipush 260, 3) := by decide +kernel
theorem dX8_init_171 : decode cX8_init 171 = .ok (.iconst 3, 1) := by decide +kernel
theorem dX8_init_172 : decode cX8_init 172 = .ok (.iastore, 1) := by decide +kernel
theorem dX8_init_173 : decode cX8_init 173 = .ok (.aload_n 0, 1) := by decide +kernel
theorem dX8_init_174 : decode cX8_init 174 = .ok (.getfield 16, 3) := by decide +kernel
theorem dX8_init_177 : decode cX8_init 177 = .ok (.sipush 276, 3) := by decide +kernel
theorem dX8_init_180 : decode cX8_init 180 = .ok (.iconst 5, 1) := by decide +kernel
theorem dX8_init_181 : decode cX8_init 181 = .ok (.iastore, 1) := by decide +kernel
theorem dX8_init_182 : decode cX8_init 182 = .ok (.aload_n 0, 1) := by decide +kernel
theorem dX8_init_183 : decode cX8_init 183 = .ok (.invokevirtual 54, 3) := by decide +kernel
theorem dX8_init_186 : decode cX8_init 186 = .ok (.return_, 1) := by decide +kernel
theorem dX8_isIn_0 : decode cX8_isIn 0 = .ok (.iload_n 0, 1) := by decide +kernel
theorem dX8_isIn_1 : decode cX8_isIn 1 = .ok (.iload_n 1, 1) := by decide +kernel
theorem dX8_isIn_2 : decode cX8_isIn 2 = .ok (.if_icmp .lt 12, 3) := by decide +kernel
theorem dX8_isIn_5 : decode cX8_isIn 5 = .ok (.iload_n 0, 1) := by decide +kernel
theorem dX8_isIn_6 : decode cX8_isIn 6 = .ok (.iload_n 2, 1) := by decide +kernel
theorem dX8_isIn_7 : decode cX8_isIn 7 = .ok (.if_icmp .gt 7, 3) := by decide +kernel
theorem dX8_isIn_10 : decode cX8_isIn 10 = .ok (.iconst 1, 1) := by decide +kernel
theorem dX8_isIn_11 : decode cX8_isIn 11 = .ok (.goto 4, 3) := by decide +kernel
theorem dX8_isIn_14 : decode cX8_isIn 14 = .ok (.iconst 0, 1) := by decide +kernel
theorem dX8_isIn_15 : decode cX8_isIn 15 = .ok (.ireturn, 1) := by decide +kernel
theorem dX8_joins_0 : decode cX8_joins 0 = .ok (.aload_n 0, 1) := by decide +kernel
theorem dX8_joins_1 : decode cX8_joins 1 = .ok (.getfield 16, 3) := by decide +kernel
theorem dX8_joins_4 : decode cX8_joins 4 = .ok (.bipush 16, 2) := by decide +kernel
theorem dX8_joins_6 : decode cX8_joins 6 = .ok (.iload_n 1, 1) := by decide +kernel
theorem dX8_joins_7 : decode cX8_joins 7 = .ok (.imul, 1) := by decide +kernel
theorem dX8_joins_8 : decode cX8_joins 8 = .ok (.iload_n 2, 1) := by decide +kernel
theorem dX8_joins_9 : decode cX8_joins 9 = .ok (.iadd, 1) := by decide +kernel
theorem dX8_joins_10 : decode cX8_joins 10 = .ok (.iload_n 3, 1) := by decide +kernel
theorem dX8_joins_11 : decode cX8_joins 11 = .ok (.iastore, 1) := by decide +kernel
theorem dX8_joins_12 : decode cX8_joins 12 = .ok (.aload_n 0, 1) := by decide +kernel
theorem dX8_joins_13 : decode cX8_joins 13 = .ok (.getfield 16, 3) := by decide +kernel
theorem dX8_joins_16 : decode cX8_joins 16 = .ok (.bipush 16, 2) := by decide +kernel
theorem dX8_joins_18 : decode cX8_joins 18 = .ok (.iload_n 2, 1) := by decide +kernel
theorem dX8_joins_19 : decode cX8_joins 19 = .ok (.imul, 1) := by decide +kernel
theorem dX8_joins_20 : decode cX8_joins 20 = .ok (.iload_n 1, 1) := by decide +kernel
theorem dX8_joins_21 : decode cX8_joins 21 = .ok (.iadd, 1) := by decide +kernel
theorem dX8_joins_22 : decode cX8_joins 22 = .ok (.iload_n 3, 1) := by decide +kernel
theorem dX8_joins_23 : decode cX8_joins 23 = .ok (.iastore, 1) := by decide +kernel
theorem dX8_joins_24 : decode cX8_joins 24 = .ok (.return_, 1) := by decide +kernel
theorem dX8_clears_0 : decode cX8_clears 0 = .ok (.aload_n 0, 1) := by decide +kernel
theorem dX8_clears_1 : decode cX8_clears 1 = .ok (.iconst 0, 1) := by decide +kernel
theorem dX8_clears_2 : decode cX8_clears 2 = .ok (.putfield 46, 3) := by decide +kernel
theorem dX8_clears_5 : decode cX8_clears 5 = .ok (.aload_n 0, 1) := by decide +kernel
theorem dX8_clears_6 : decode cX8_clears 6 = .ok (.getfield 22, 3) := by decide +kernel
theorem dX8_clears_9 : decode cX8_clears 9 = .ok (.iconst 0, 1) := by decide +kernel
theorem dX8_clears_10 : decode cX8_clears 10 = .ok (.bipush 8, 2) := by decide +kernel
theorem dX8_clears_12 : decode cX8_clears 12 = .ok (.iastore, 1) := by decide +kernel
theorem dX8_clears_13 : decode cX8_clears 13 = .ok (.aload_n 0, 1) := by decide +kernel
theorem dX8_clears_14 : decode cX8_clears 14 = .ok (.getfield 22, 3) := by decide +kernel
theorem dX8_clears_17 : decode cX8_clears 17 = .ok (.iconst 1, 1) := by decide +kernel
theorem dX8_clears_18 : decode cX8_clears 18 = .ok (.bipush 6, 2) := by decide +kernel
theorem dX8_clears_20 : decode cX8_clears 20 = .ok (.iastore, 1) := by decide +kernel
theorem dX8_clears_21 : decode cX8_clears 21 = .ok (.iconst 0, 1) := by decide +kernel
theorem dX8_clears_22 : decode cX8_clears 22 = .ok (.istore_n 1, 1) := by decide +kernel
theorem dX8_clears_23 : decode cX8_clears 23 = .ok (.iload_n 1, 1) := by decide +kernel
theorem dX8_clears_24 : decode cX8_clears 24 = .ok (.sipush 289, 3) := by decide +kernel
theorem dX8_clears_27 : decode cX8_clears 27 = .ok (.if_icmp .ge 16, 3) := by decide +kernel
theorem dX8_clears_30 : decode cX8_clears 30 = .ok (.aload_n 0, 1) := by decide +kernel
theorem dX8_clears_31 : decode cX8_clears 31 = .ok (.getfield 16, 3) := by decide +kernel
theorem dX8_clears_34 : decode cX8_clears 34 = .ok (.iload_n 1, 1) := by decide +kernel
theorem dX8_clears_35 : decode cX8_clears 35 = .ok (.iconst 0, 1) := by decide +kernel
theorem dX8_clears_36 : decode cX8_clears 36 = .ok (.iastore, 1) := by decide +kernel
theorem dX8_clears_37 : decode cX8_clears 37 = .ok (.iinc 1 1, 3) := by decide +kernel
theorem dX8_clears_40 : decode cX8_clears 40 = .ok (.goto (-17), 3) := by decide +kernel
theorem dX8_clears_43 : decode cX8_clears 43 = .ok (.return_, 1) := by decide +kernel
theorem dX8_takes_0 : decode cX8_takes 0 = .ok (.aload_n 0, 1) := by decide +kernel
theorem dX8_takes_1 : decode cX8_takes 1 = .ok (.aload_n 0, 1) := by decide +kernel
theorem dX8_takes_2 : decode cX8_takes 2 = .ok (.getfield 46, 3) := by decide +kernel
theorem dX8_takes_5 : decode cX8_takes 5 = .ok (.putfield 57, 3) := by decide +kernel
theorem dX8_takes_8 : decode cX8_takes 8 = .ok (.aload_n 0, 1) := by decide +kernel
theorem dX8_takes_9 : decode cX8_takes 9 = .ok (.aload_n 0, 1) := by decide +kernel
theorem dX8_takes_10 : decode cX8_takes 10 = .ok (.getfield 22, 3) := by decide +kernel
theorem dX8_takes_13 : decode cX8_takes 13 = .ok (.iconst 0, 1) := by decide +kernel
theorem dX8_takes_14 : decode cX8_takes 14 = .ok (.iaload, 1) := by decide +kernel
theorem dX8_takes_15 : decode cX8_takes 15 = .ok (.putfield 60, 3) := by decide +kernel
theorem dX8_takes_18 : decode cX8_takes 18 = .ok (.aload_n 0, 1) := by decide +kernel
theorem dX8_takes_19 : decode cX8_takes 19 = .ok (.aload_n 0, 1) := by decide +kernel
theorem dX8_takes_20 : decode cX8_takes 20 = .ok (.getfield 22, 3) := by decide +kernel
theorem dX8_takes_23 : decode cX8_takes 23 = .ok (.iconst 1, 1) := by decide +kernel
theorem dX8_takes_24 : decode cX8_takes 24 = .ok (.iaload, 1) := by decide +kernel
theorem dX8_takes_25 : decode cX8_takes 25 = .ok (.putfield 63, 3) := by decide +kernel
theorem dX8_takes_28 : decode cX8_takes 28 = .ok (.iconst 0, 1) := by decide +kernel
theorem dX8_takes_29 : decode cX8_takes 29 = .ok (.istore_n 1, 1) := by decide +kernel
theorem dX8_takes_30 : decode cX8_takes 30 = .ok (.iload_n 1, 1) := by decide +kernel
theorem dX8_takes_31 : decode cX8_takes 31 = .ok (.sipush 289, 3) := by decide +kernel
theorem dX8_takes_34 : decode cX8_takes 34 = .ok (.if_icmp .ge 21, 3) := by decide +kernel
theorem dX8_takes_37 : decode cX8_takes 37 = .ok (.aload_n 0, 1) := by decide +kernel
theorem dX8_takes_38 : decode cX8_takes 38 = .ok (.getfield 13, 3) := by decide +kernel
theorem dX8_takes_41 : decode cX8_takes 41 = .ok (.iload_n 1, 1) := by decide +kernel
theorem dX8_takes_42 : decode cX8_takes 42 = .ok (.aload_n 0, 1) := by decide +kernel
theorem dX8_takes_43 : decode cX8_takes 43 = .ok (.getfield 16, 3) := by decide +kernel
theorem dX8_takes_46 : decode cX8_takes 46 = .ok (.iload_n 1, 1) := by decide +kernel
theorem dX8_takes_47 : decode cX8_takes 47 = .ok (.iaload, 1) := by decide +kernel
theorem dX8_takes_48 : decode cX8_takes 48 = .ok (.iastore, 1) := by decide +kernel
theorem dX8_takes_49 : decode cX8_takes 49 = .ok (.iinc 1 1, 3) := by decide +kernel
theorem dX8_takes_52 : decode cX8_takes 52 = .ok (.goto (-22), 3) := by decide +kernel
theorem dX8_takes_55 : decode cX8_takes 55 = .ok (.aload_n 0, 1) := by decide +kernel
theorem dX8_takes_56 : decode cX8_takes 56 = .ok (.iconst 0, 1) := by decide +kernel
theorem dX8_takes_57 : decode cX8_takes 57 = .ok (.putfield 66, 3) := by decide +kernel
theorem dX8_takes_60 : decode cX8_takes 60 = .ok (.return_, 1) := by decide +kernel
theorem dX8_letterAt_0 : decode cX8_letterAt 0 = .ok (.iload_n 1, 1) := by decide +kernel
theorem dX8_letterAt_1 : decode cX8_letterAt 1 = .ok (.aload_n 0, 1) := by decide +kernel
theorem dX8_letterAt_2 : decode cX8_letterAt 2 = .ok (.getfield 69, 3) := by decide +kernel
theorem dX8_letterAt_5 : decode cX8_letterAt 5 = .ok (.if_icmp .ge 12, 3) := by decide +kernel
theorem dX8_letterAt_8 : decode cX8_letterAt 8 = .ok (.aload_n 0, 1) := by decide +kernel
theorem dX8_letterAt_9 : decode cX8_letterAt 9 = .ok (.getfield 7, 3) := by decide +kernel
theorem dX8_letterAt_12 : decode cX8_letterAt 12 = .ok (.iload_n 1, 1) := by decide +kernel
theorem dX8_letterAt_13 : decode cX8_letterAt 13 = .ok (.iaload, 1) := by decide +kernel
theorem dX8_letterAt_14 : decode cX8_letterAt 14 = .ok (.goto 4, 3) := by decide +kernel
theorem dX8_letterAt_17 : decode cX8_letterAt 17 = .ok (.iconst 0, 1) := by decide +kernel
theorem dX8_letterAt_18 : decode cX8_letterAt 18 = .ok (.ireturn, 1) := by decide +kernel
set_option maxRecDepth 20000 in
theorem ggX8_number_X8_letterAt : GoodIn wsX8_number wsX8_letterAt := goodIn_r _ [8, 9, 3, 13, 14, 15, 16, 17, 18, 19, 20, 21, 22, 23, 24, 25, 26, 27, 28, 29, 30, 31, 32] (by decide +kernel) (by decide +kernel)
set_option maxRecDepth 20000 in
theorem gX8_number_X8_letterAt : GoodIn wsX8_number (wsV RX8 78 RX8 yX8_letterAt wsX8_letterAt) := goodIn_app (goodIn_of _ (by decide +kernel)) ggX8_number_X8_letterAt
set_option maxRecDepth 20000 in
theorem ggX8_number_X8_isIn : GoodIn wsX8_number wsX8_isIn := goodIn_r _ [12] (by decide +kernel) (by decide +kernel)
set_option maxRecDepth 20000 in
theorem gX8_number_X8_isIn : GoodIn wsX8_number (va_wsS RX8 82 yX8_isIn wsX8_isIn) := goodIn_app (goodIn_of _ (by decide +kernel)) ggX8_number_X8_isIn
theorem dX8_number_0 : decode cX8_number 0 = .ok (.aload_n 0, 1) := by decide +kernel
theorem dX8_number_1 : decode cX8_number 1 = .ok (.iconst 0, 1) := by decide +kernel
theorem dX8_number_2 : decode cX8_number 2 = .ok (.putfield 72, 3) := by decide +kernel
theorem dX8_number_5 : decode cX8_number 5 = .ok (.aload_n 0, 1) := by decide +kernel
theorem dX8_number_6 : decode cX8_number 6 = .ok (.iload_n 1, 1) := by decide +kernel
theorem dX8_number_7 : decode cX8_number 7 = .ok (.putfield 75, 3) := by decide +kernel
theorem dX8_number_10 : decode cX8_number 10 = .ok (.aload_n 0, 1) := by decide +kernel
theorem dX8_number_11 : decode cX8_number 11 = .ok (.getfield 75, 3) := by decide +kernel
theorem dX8_number_14 : decode cX8_number 14 = .ok (.iload_n 1, 1) := by decide +kernel
theorem dX8_number_15 : decode cX8_number 15 = .ok (.iconst 4, 1) := by decide +kernel
theorem dX8_number_16 : decode cX8_number 16 = .ok (.iadd, 1) := by decide +kernel
theorem dX8_number_17 : decode cX8_number 17 = .ok (.if_icmp .ge 66, 3) := by decide +kernel
theorem dX8_number_20 : decode cX8_number 20 = .ok (.aload_n 0, 1) := by decide +kernel
theorem dX8_number_21 : decode cX8_number 21 = .ok (.aload_n 0, 1) := by decide +kernel
theorem dX8_number_22 : decode cX8_number 22 = .ok (.getfield 75, 3) := by decide +kernel
theorem dX8_number_25 : decode cX8_number 25 = .ok (.invokevirtual 78, 3) := by decide +kernel
theorem dX8_number_28 : decode cX8_number 28 = .ok (.bipush 48, 2) := by decide +kernel
theorem dX8_number_30 : decode cX8_number 30 = .ok (.if_icmp .lt 53, 3) := by decide +kernel
theorem dX8_number_33 : decode cX8_number 33 = .ok (.aload_n 0, 1) := by decide +kernel
theorem dX8_number_34 : decode cX8_number 34 = .ok (.aload_n 0, 1) := by decide +kernel
theorem dX8_number_35 : decode cX8_number 35 = .ok (.getfield 75, 3) := by decide +kernel
theorem dX8_number_38 : decode cX8_number 38 = .ok (.invokevirtual 78, 3) := by decide +kernel
theorem dX8_number_41 : decode cX8_number 41 = .ok (.bipush 57, 2) := by decide +kernel
theorem dX8_number_43 : decode cX8_number 43 = .ok (.if_icmp .gt 40, 3) := by decide +kernel
theorem dX8_number_46 : decode cX8_number 46 = .ok (.aload_n 0, 1) := by decide +kernel
theorem dX8_number_47 : decode cX8_number 47 = .ok (.bipush 10, 2) := by decide +kernel
theorem dX8_number_49 : decode cX8_number 49 = .ok (.aload_n 0, 1) := by decide +kernel
theorem dX8_number_50 : decode cX8_number 50 = .ok (.getfield 72, 3) := by decide +kernel
theorem dX8_number_53 : decode cX8_number 53 = .ok (.imul, 1) := by decide +kernel
theorem dX8_number_54 : decode cX8_number 54 = .ok (.aload_n 0, 1) := by decide +kernel
theorem dX8_number_55 : decode cX8_number 55 = .ok (.getfield 7, 3) := by decide +kernel
theorem dX8_number_58 : decode cX8_number 58 = .ok (.aload_n 0, 1) := by decide +kernel
theorem dX8_number_59 : decode cX8_number 59 = .ok (.getfield 75, 3) := by decide +kernel
theorem dX8_number_62 : decode cX8_number 62 = .ok (.iaload, 1) := by decide +kernel
theorem dX8_number_63 : decode cX8_number 63 = .ok (.iadd, 1) := by decide +kernel
theorem dX8_number_64 : decode cX8_number 64 = .ok (.bipush 48, 2) := by decide +kernel
theorem dX8_number_66 : decode cX8_number 66 = .ok (.isub, 1) := by decide +kernel
theorem dX8_number_67 : decode cX8_number 67 = .ok (.putfield 72, 3) := by decide +kernel
theorem dX8_number_70 : decode cX8_number 70 = .ok (.aload_n 0, 1) := by decide +kernel
theorem dX8_number_71 : decode cX8_number 71 = .ok (.dup, 1) := by decide +kernel
theorem dX8_number_72 : decode cX8_number 72 = .ok (.getfield 75, 3) := by decide +kernel
theorem dX8_number_75 : decode cX8_number 75 = .ok (.iconst 1, 1) := by decide +kernel
theorem dX8_number_76 : decode cX8_number 76 = .ok (.iadd, 1) := by decide +kernel
theorem dX8_number_77 : decode cX8_number 77 = .ok (.putfield 75, 3) := by decide +kernel
theorem dX8_number_80 : decode cX8_number 80 = .ok (.goto (-70), 3) := by decide +kernel
theorem dX8_number_83 : decode cX8_number 83 = .ok (.aload_n 0, 1) := by decide +kernel
theorem dX8_number_84 : decode cX8_number 84 = .ok (.getfield 75, 3) := by decide +kernel
theorem dX8_number_87 : decode cX8_number 87 = .ok (.iload_n 1, 1) := by decide +kernel
theorem dX8_number_88 : decode cX8_number 88 = .ok (.if_icmp .le 19, 3) := by decide +kernel
theorem dX8_number_91 : decode cX8_number 91 = .ok (.aload_n 0, 1) := by decide +kernel
theorem dX8_number_92 : decode cX8_number 92 = .ok (.getfield 72, 3) := by decide +kernel
theorem dX8_number_95 : decode cX8_number 95 = .ok (.iload_n 2, 1) := by decide +kernel
theorem dX8_number_96 : decode cX8_number 96 = .ok (.iload_n 3, 1) := by decide +kernel
theorem dX8_number_97 : decode cX8_number 97 = .ok (.invokestatic 82, 3) := by decide +kernel
theorem dX8_number_100 : decode cX8_number 100 = .ok (.ifCond .eq 7, 3) := by decide +kernel
theorem dX8_number_103 : decode cX8_number 103 = .ok (.iconst 1, 1) := by decide +kernel
theorem dX8_number_104 : decode cX8_number 104 = .ok (.goto 4, 3) := by decide +kernel
theorem dX8_number_107 : decode cX8_number 107 = .ok (.iconst 0, 1) := by decide +kernel
theorem dX8_number_108 : decode cX8_number 108 = .ok (.ireturn, 1) := by decide +kernel
set_option maxRecDepth 20000 in
theorem ggX8_more_X8_letterAt : GoodIn wsX8_more wsX8_letterAt := goodIn_r _ [6, 7, 8, 17, 18, 19, 20, 21, 22, 23, 24, 25, 26, 27, 28, 29, 30, 31, 32, 33, 34, 35, 36] (by decide +kernel) (by decide +kernel)
set_option maxRecDepth 20000 in
theorem gX8_more_X8_letterAt : GoodIn wsX8_more (wsV RX8 78 RX8 yX8_letterAt wsX8_letterAt) := goodIn_app (goodIn_of _ (by decide +kernel)) ggX8_more_X8_letterAt
set_option maxRecDepth 20000 in
theorem ggX8_more_X8_number : GoodIn wsX8_more wsX8_number := goodIn_r _ [12, 13, 1, 8, 2, 3, 4, 5, 6, 7, 14, 15, 16, 17, 18, 19, 20, 21, 22, 23, 24, 25, 26, 27, 28, 29, 30, 31, 32, 33, 34, 35, 36] (by decide +kernel) (by decide +kernel)
set_option maxRecDepth 20000 in
theorem gX8_more_X8_number : GoodIn wsX8_more (wsV RX8 86 RX8 yX8_number wsX8_number) := goodIn_app (goodIn_of _ (by decide +kernel)) ggX8_more_X8_number
theorem dX8_more_0 : decode cX8_more 0 = .ok (.aload_n 0, 1) := by decide +kernel
theorem dX8_more_1 : decode cX8_more 1 = .ok (.aload_n 0, 1) := by decide +kernel
theorem dX8_more_2 : decode cX8_more 2 = .ok (.getfield 75, 3) := by decide +kernel
theorem dX8_more_5 : decode cX8_more 5 = .ok (.invokevirtual 78, 3) := by decide +kernel
theorem dX8_more_8 : decode cX8_more 8 = .ok (.bipush 44, 2) := by decide +kernel
theorem dX8_more_10 : decode cX8_more 10 = .ok (.if_icmp .ne 22, 3) := by decide +kernel
theorem dX8_more_13 : decode cX8_more 13 = .ok (.aload_n 0, 1) := by decide +kernel
theorem dX8_more_14 : decode cX8_more 14 = .ok (.aload_n 0, 1) := by decide +kernel
theorem dX8_more_15 : decode cX8_more 15 = .ok (.getfield 75, 3) := by decide +kernel
theorem dX8_more_18 : decode cX8_more 18 = .ok (.iconst 1, 1) := by decide +kernel
theorem dX8_more_19 : decode cX8_more 19 = .ok (.iadd, 1) := by decide +kernel
theorem dX8_more_20 : decode cX8_more 20 = .ok (.iload_n 1, 1) := by decide +kernel
theorem dX8_more_21 : decode cX8_more 21 = .ok (.iload_n 2, 1) := by decide +kernel
theorem dX8_more_22 : decode cX8_more 22 = .ok (.invokevirtual 86, 3) := by decide +kernel
theorem dX8_more_25 : decode cX8_more 25 = .ok (.ifCond .eq 7, 3) := by decide +kernel
theorem dX8_more_28 : decode cX8_more 28 = .ok (.iconst 1, 1) := by decide +kernel
theorem dX8_more_29 : decode cX8_more 29 = .ok (.goto 4, 3) := by decide +kernel
theorem dX8_more_32 : decode cX8_more 32 = .ok (.iconst 0, 1) := by decide +kernel
theorem dX8_more_33 : decode cX8_more 33 = .ok (.ireturn, 1) := by decide +kernel
theorem dX8_linksOf_0 : decode cX8_linksOf 0 = .ok (.iconst 0, 1) := by decide +kernel
theorem dX8_linksOf_1 : decode cX8_linksOf 1 = .ok (.istore_n 1, 1) := by decide +kernel
theorem dX8_linksOf_2 : decode cX8_linksOf 2 = .ok (.iconst 0, 1) := by decide +kernel
theorem dX8_linksOf_3 : decode cX8_linksOf 3 = .ok (.istore_n 2, 1) := by decide +kernel
theorem dX8_linksOf_4 : decode cX8_linksOf 4 = .ok (.iload_n 2, 1) := by decide +kernel
theorem dX8_linksOf_5 : decode cX8_linksOf 5 = .ok (.bipush 16, 2) := by decide +kernel
theorem dX8_linksOf_7 : decode cX8_linksOf 7 = .ok (.if_icmp .ge 41, 3) := by decide +kernel
theorem dX8_linksOf_10 : decode cX8_linksOf 10 = .ok (.iconst 0, 1) := by decide +kernel
theorem dX8_linksOf_11 : decode cX8_linksOf 11 = .ok (.istore_n 3, 1) := by decide +kernel
theorem dX8_linksOf_12 : decode cX8_linksOf 12 = .ok (.iload_n 3, 1) := by decide +kernel
theorem dX8_linksOf_13 : decode cX8_linksOf 13 = .ok (.iload_n 2, 1) := by decide +kernel
theorem dX8_linksOf_14 : decode cX8_linksOf 14 = .ok (.if_icmp .ge 28, 3) := by decide +kernel
theorem dX8_linksOf_17 : decode cX8_linksOf 17 = .ok (.iload_n 1, 1) := by decide +kernel
theorem dX8_linksOf_18 : decode cX8_linksOf 18 = .ok (.aload_n 0, 1) := by decide +kernel
theorem dX8_linksOf_19 : decode cX8_linksOf 19 = .ok (.bipush 16, 2) := by decide +kernel
theorem dX8_linksOf_21 : decode cX8_linksOf 21 = .ok (.iload_n 2, 1) := by decide +kernel
theorem dX8_linksOf_22 : decode cX8_linksOf 22 = .ok (.imul, 1) := by decide +kernel
theorem dX8_linksOf_23 : decode cX8_linksOf 23 = .ok (.iload_n 3, 1) := by decide +kernel
theorem dX8_linksOf_24 : decode cX8_linksOf 24 = .ok (.iadd, 1) := by decide +kernel
theorem dX8_linksOf_25 : decode cX8_linksOf 25 = .ok (.iaload, 1) := by decide +kernel
theorem dX8_linksOf_26 : decode cX8_linksOf 26 = .ok (.ifCond .le 7, 3) := by decide +kernel
theorem dX8_linksOf_29 : decode cX8_linksOf 29 = .ok (.iconst 1, 1) := by decide +kernel
theorem dX8_linksOf_30 : decode cX8_linksOf 30 = .ok (.goto 4, 3) := by decide +kernel
theorem dX8_linksOf_33 : decode cX8_linksOf 33 = .ok (.iconst 0, 1) := by decide +kernel
theorem dX8_linksOf_34 : decode cX8_linksOf 34 = .ok (.iadd, 1) := by decide +kernel
theorem dX8_linksOf_35 : decode cX8_linksOf 35 = .ok (.istore_n 1, 1) := by decide +kernel
theorem dX8_linksOf_36 : decode cX8_linksOf 36 = .ok (.iinc 3 1, 3) := by decide +kernel
theorem dX8_linksOf_39 : decode cX8_linksOf 39 = .ok (.goto (-27), 3) := by decide +kernel
theorem dX8_linksOf_42 : decode cX8_linksOf 42 = .ok (.iinc 2 1, 3) := by decide +kernel
theorem dX8_linksOf_45 : decode cX8_linksOf 45 = .ok (.goto (-41), 3) := by decide +kernel
theorem dX8_linksOf_48 : decode cX8_linksOf 48 = .ok (.iload_n 1, 1) := by decide +kernel
theorem dX8_linksOf_49 : decode cX8_linksOf 49 = .ok (.ireturn, 1) := by decide +kernel
set_option maxRecDepth 20000 in
theorem ggX8_readsLink_X8_number : GoodIn wsX8_readsLink wsX8_number := goodIn_r _ [8, 2, 9, 10, 11, 12, 13, 7, 14, 15, 16, 17, 18, 30, 31, 32, 33, 34, 35, 36, 37, 38, 39, 40, 41, 42, 43, 44, 45, 46, 47, 48, 49] (by decide +kernel) (by decide +kernel)
set_option maxRecDepth 20000 in
theorem gX8_readsLink_X8_number : GoodIn wsX8_readsLink (wsV RX8 86 RX8 yX8_number wsX8_number) := goodIn_app (goodIn_of _ (by decide +kernel)) ggX8_readsLink_X8_number
set_option maxRecDepth 20000 in
theorem ggX8_readsLink_X8_more : GoodIn wsX8_readsLink wsX8_more := goodIn_r _ [22, 9, 11, 12, 13, 7, 14, 15, 10, 4, 5, 6, 8, 2, 16, 17, 18, 30, 31, 32, 33, 34, 35, 36, 37, 38, 39, 40, 41, 42, 43, 44, 45, 46, 47, 48, 49] (by decide +kernel) (by decide +kernel)
set_option maxRecDepth 20000 in
theorem gX8_readsLink_X8_more : GoodIn wsX8_readsLink (wsV RX8 88 RX8 yX8_more wsX8_more) := goodIn_app (goodIn_of _ (by decide +kernel)) ggX8_readsLink_X8_more
set_option maxRecDepth 20000 in
theorem ggX8_readsLink_X8_linksOf : GoodIn wsX8_readsLink wsX8_linksOf := goodIn_r _ [25] (by decide +kernel) (by decide +kernel)
set_option maxRecDepth 20000 in
theorem gX8_readsLink_X8_linksOf : GoodIn wsX8_readsLink (va_wsS RX8 92 yX8_linksOf wsX8_linksOf) := goodIn_app (goodIn_of _ (by decide +kernel)) ggX8_readsLink_X8_linksOf
set_option maxRecDepth 20000 in
theorem ggX8_readsLink_X8_joins : GoodIn wsX8_readsLink wsX8_joins := goodIn_r _ [29, 3, 30, 31, 32, 33, 34, 35, 36, 37, 38, 39, 40, 41, 42, 43, 44, 45, 46, 47, 48, 49] (by decide +kernel) (by decide +kernel)
set_option maxRecDepth 20000 in
theorem gX8_readsLink_X8_joins : GoodIn wsX8_readsLink (wsV RX8 50 RX8 yX8_joins wsX8_joins) := goodIn_app (goodIn_of _ (by decide +kernel)) ggX8_readsLink_X8_joins
theorem dX8_readsLink_0 : decode cX8_readsLink 0 = .ok (.aload_n 0, 1) := by decide +kernel
theorem dX8_readsLink_1 : decode cX8_readsLink 1 = .ok (.iload_n 1, 1) := by decide +kernel
theorem dX8_readsLink_2 : decode cX8_readsLink 2 = .ok (.iconst 0, 1) := by decide +kernel
theorem dX8_readsLink_3 : decode cX8_readsLink 3 = .ok (.aload_n 0, 1) := by decide +kernel
theorem dX8_readsLink_4 : decode cX8_readsLink 4 = .ok (.getfield 46, 3) := by decide +kernel
theorem dX8_readsLink_7 : decode cX8_readsLink 7 = .ok (.iconst 1, 1) := by decide +kernel
theorem dX8_readsLink_8 : decode cX8_readsLink 8 = .ok (.isub, 1) := by decide +kernel
theorem dX8_readsLink_9 : decode cX8_readsLink 9 = .ok (.invokevirtual 86, 3) := by decide +kernel
theorem dX8_readsLink_12 : decode cX8_readsLink 12 = .ok (.ifCond .ne 5, 3) := by decide +kernel
theorem dX8_readsLink_15 : decode cX8_readsLink 15 = .ok (.iconst 0, 1) := by decide +kernel
theorem dX8_readsLink_16 : decode cX8_readsLink 16 = .ok (.ireturn, 1) := by decide +kernel
theorem dX8_readsLink_17 : decode cX8_readsLink 17 = .ok (.aload_n 0, 1) := by decide +kernel
theorem dX8_readsLink_18 : decode cX8_readsLink 18 = .ok (.getfield 72, 3) := by decide +kernel
theorem dX8_readsLink_21 : decode cX8_readsLink 21 = .ok (.istore_n 2, 1) := by decide +kernel
theorem dX8_readsLink_22 : decode cX8_readsLink 22 = .ok (.aload_n 0, 1) := by decide +kernel
theorem dX8_readsLink_23 : decode cX8_readsLink 23 = .ok (.iconst 0, 1) := by decide +kernel
theorem dX8_readsLink_24 : decode cX8_readsLink 24 = .ok (.aload_n 0, 1) := by decide +kernel
theorem dX8_readsLink_25 : decode cX8_readsLink 25 = .ok (.getfield 46, 3) := by decide +kernel
theorem dX8_readsLink_28 : decode cX8_readsLink 28 = .ok (.iconst 1, 1) := by decide +kernel
theorem dX8_readsLink_29 : decode cX8_readsLink 29 = .ok (.isub, 1) := by decide +kernel
theorem dX8_readsLink_30 : decode cX8_readsLink 30 = .ok (.invokevirtual 88, 3) := by decide +kernel
theorem dX8_readsLink_33 : decode cX8_readsLink 33 = .ok (.ifCond .eq 11, 3) := by decide +kernel
theorem dX8_readsLink_36 : decode cX8_readsLink 36 = .ok (.aload_n 0, 1) := by decide +kernel
theorem dX8_readsLink_37 : decode cX8_readsLink 37 = .ok (.getfield 72, 3) := by decide +kernel
theorem dX8_readsLink_40 : decode cX8_readsLink 40 = .ok (.iload_n 2, 1) := by decide +kernel
theorem dX8_readsLink_41 : decode cX8_readsLink 41 = .ok (.if_icmp .ne 5, 3) := by decide +kernel
theorem dX8_readsLink_44 : decode cX8_readsLink 44 = .ok (.iconst 0, 1) := by decide +kernel
theorem dX8_readsLink_45 : decode cX8_readsLink 45 = .ok (.ireturn, 1) := by decide +kernel
theorem dX8_readsLink_46 : decode cX8_readsLink 46 = .ok (.aload_n 0, 1) := by decide +kernel
theorem dX8_readsLink_47 : decode cX8_readsLink 47 = .ok (.getfield 72, 3) := by decide +kernel
theorem dX8_readsLink_50 : decode cX8_readsLink 50 = .ok (.istore_n 3, 1) := by decide +kernel
theorem dX8_readsLink_51 : decode cX8_readsLink 51 = .ok (.aload_n 0, 1) := by decide +kernel
theorem dX8_readsLink_52 : decode cX8_readsLink 52 = .ok (.iconst 1, 1) := by decide +kernel
theorem dX8_readsLink_53 : decode cX8_readsLink 53 = .ok (.bipush 9, 2) := by decide +kernel
theorem dX8_readsLink_55 : decode cX8_readsLink 55 = .ok (.invokevirtual 88, 3) := by decide +kernel
theorem dX8_readsLink_58 : decode cX8_readsLink 58 = .ok (.ifCond .eq 33, 3) := by decide +kernel
theorem dX8_readsLink_61 : decode cX8_readsLink 61 = .ok (.aload_n 0, 1) := by decide +kernel
theorem dX8_readsLink_62 : decode cX8_readsLink 62 = .ok (.getfield 16, 3) := by decide +kernel
theorem dX8_readsLink_65 : decode cX8_readsLink 65 = .ok (.bipush 16, 2) := by decide +kernel
theorem dX8_readsLink_67 : decode cX8_readsLink 67 = .ok (.iload_n 2, 1) := by decide +kernel
theorem dX8_readsLink_68 : decode cX8_readsLink 68 = .ok (.imul, 1) := by decide +kernel
theorem dX8_readsLink_69 : decode cX8_readsLink 69 = .ok (.iload_n 3, 1) := by decide +kernel
theorem dX8_readsLink_70 : decode cX8_readsLink 70 = .ok (.iadd, 1) := by decide +kernel
theorem dX8_readsLink_71 : decode cX8_readsLink 71 = .ok (.iaload, 1) := by decide +kernel
theorem dX8_readsLink_72 : decode cX8_readsLink 72 = .ok (.ifCond .gt 15, 3) := by decide +kernel
theorem dX8_readsLink_75 : decode cX8_readsLink 75 = .ok (.aload_n 0, 1) := by decide +kernel
theorem dX8_readsLink_76 : decode cX8_readsLink 76 = .ok (.getfield 16, 3) := by decide +kernel
theorem dX8_readsLink_79 : decode cX8_readsLink 79 = .ok (.invokestatic 92, 3) := by decide +kernel
theorem dX8_readsLink_82 : decode cX8_readsLink 82 = .ok (.bipush 40, 2) := by decide +kernel
theorem dX8_readsLink_84 : decode cX8_readsLink 84 = .ok (.if_icmp .ge 7, 3) := by decide +kernel
theorem dX8_readsLink_87 : decode cX8_readsLink 87 = .ok (.iconst 1, 1) := by decide +kernel
theorem dX8_readsLink_88 : decode cX8_readsLink 88 = .ok (.goto 4, 3) := by decide +kernel
theorem dX8_readsLink_91 : decode cX8_readsLink 91 = .ok (.iconst 0, 1) := by decide +kernel
theorem dX8_readsLink_92 : decode cX8_readsLink 92 = .ok (.istore 4, 2) := by decide +kernel
theorem dX8_readsLink_94 : decode cX8_readsLink 94 = .ok (.iload 4, 2) := by decide +kernel
theorem dX8_readsLink_96 : decode cX8_readsLink 96 = .ok (.ifCond .eq 13, 3) := by decide +kernel
theorem dX8_readsLink_99 : decode cX8_readsLink 99 = .ok (.aload_n 0, 1) := by decide +kernel
theorem dX8_readsLink_100 : decode cX8_readsLink 100 = .ok (.iload_n 2, 1) := by decide +kernel
theorem dX8_readsLink_101 : decode cX8_readsLink 101 = .ok (.iload_n 3, 1) := by decide +kernel
theorem dX8_readsLink_102 : decode cX8_readsLink 102 = .ok (.aload_n 0, 1) := by decide +kernel
theorem dX8_readsLink_103 : decode cX8_readsLink 103 = .ok (.getfield 72, 3) := by decide +kernel
theorem dX8_readsLink_106 : decode cX8_readsLink 106 = .ok (.invokevirtual 50, 3) := by decide +kernel
theorem dX8_readsLink_109 : decode cX8_readsLink 109 = .ok (.iload 4, 2) := by decide +kernel
theorem dX8_readsLink_111 : decode cX8_readsLink 111 = .ok (.ireturn, 1) := by decide +kernel
set_option maxRecDepth 20000 in
theorem ggX8_readsDelay_X8_number : GoodIn wsX8_readsDelay wsX8_number := goodIn_r _ [8, 2, 9, 10, 11, 12, 13, 7, 14, 15, 16, 17, 18, 23, 24, 25, 26, 27, 28, 29, 30, 31, 32, 33, 34, 35, 36, 37, 38, 39, 40, 41, 42] (by decide +kernel) (by decide +kernel)
set_option maxRecDepth 20000 in
theorem gX8_readsDelay_X8_number : GoodIn wsX8_readsDelay (wsV RX8 86 RX8 yX8_number wsX8_number) := goodIn_app (goodIn_of _ (by decide +kernel)) ggX8_readsDelay_X8_number
set_option maxRecDepth 20000 in
theorem ggX8_readsDelay_X8_more : GoodIn wsX8_readsDelay wsX8_more := goodIn_r _ [22, 9, 11, 12, 13, 7, 14, 15, 10, 4, 5, 6, 8, 2, 16, 17, 18, 23, 24, 25, 26, 27, 28, 29, 30, 31, 32, 33, 34, 35, 36, 37, 38, 39, 40, 41, 42] (by decide +kernel) (by decide +kernel)
set_option maxRecDepth 20000 in
theorem gX8_readsDelay_X8_more : GoodIn wsX8_readsDelay (wsV RX8 88 RX8 yX8_more wsX8_more) := goodIn_app (goodIn_of _ (by decide +kernel)) ggX8_readsDelay_X8_more
theorem dX8_readsDelay_0 : decode cX8_readsDelay 0 = .ok (.aload_n 0, 1) := by decide +kernel
theorem dX8_readsDelay_1 : decode cX8_readsDelay 1 = .ok (.iload_n 1, 1) := by decide +kernel
theorem dX8_readsDelay_2 : decode cX8_readsDelay 2 = .ok (.iconst 0, 1) := by decide +kernel
theorem dX8_readsDelay_3 : decode cX8_readsDelay 3 = .ok (.aload_n 0, 1) := by decide +kernel
theorem dX8_readsDelay_4 : decode cX8_readsDelay 4 = .ok (.getfield 46, 3) := by decide +kernel
theorem dX8_readsDelay_7 : decode cX8_readsDelay 7 = .ok (.iconst 1, 1) := by decide +kernel
theorem dX8_readsDelay_8 : decode cX8_readsDelay 8 = .ok (.isub, 1) := by decide +kernel
theorem dX8_readsDelay_9 : decode cX8_readsDelay 9 = .ok (.invokevirtual 86, 3) := by decide +kernel
theorem dX8_readsDelay_12 : decode cX8_readsDelay 12 = .ok (.ifCond .ne 5, 3) := by decide +kernel
theorem dX8_readsDelay_15 : decode cX8_readsDelay 15 = .ok (.iconst 0, 1) := by decide +kernel
theorem dX8_readsDelay_16 : decode cX8_readsDelay 16 = .ok (.ireturn, 1) := by decide +kernel
theorem dX8_readsDelay_17 : decode cX8_readsDelay 17 = .ok (.aload_n 0, 1) := by decide +kernel
theorem dX8_readsDelay_18 : decode cX8_readsDelay 18 = .ok (.getfield 72, 3) := by decide +kernel
theorem dX8_readsDelay_21 : decode cX8_readsDelay 21 = .ok (.istore_n 2, 1) := by decide +kernel
theorem dX8_readsDelay_22 : decode cX8_readsDelay 22 = .ok (.aload_n 0, 1) := by decide +kernel
theorem dX8_readsDelay_23 : decode cX8_readsDelay 23 = .ok (.iconst 0, 1) := by decide +kernel
theorem dX8_readsDelay_24 : decode cX8_readsDelay 24 = .ok (.bipush 30, 2) := by decide +kernel
theorem dX8_readsDelay_26 : decode cX8_readsDelay 26 = .ok (.invokevirtual 88, 3) := by decide +kernel
theorem dX8_readsDelay_29 : decode cX8_readsDelay 29 = .ok (.ifCond .ne 5, 3) := by decide +kernel
theorem dX8_readsDelay_32 : decode cX8_readsDelay 32 = .ok (.iconst 0, 1) := by decide +kernel
theorem dX8_readsDelay_33 : decode cX8_readsDelay 33 = .ok (.ireturn, 1) := by decide +kernel
theorem dX8_readsDelay_34 : decode cX8_readsDelay 34 = .ok (.aload_n 0, 1) := by decide +kernel
theorem dX8_readsDelay_35 : decode cX8_readsDelay 35 = .ok (.getfield 72, 3) := by decide +kernel
theorem dX8_readsDelay_38 : decode cX8_readsDelay 38 = .ok (.istore_n 3, 1) := by decide +kernel
theorem dX8_readsDelay_39 : decode cX8_readsDelay 39 = .ok (.aload_n 0, 1) := by decide +kernel
theorem dX8_readsDelay_40 : decode cX8_readsDelay 40 = .ok (.iconst 0, 1) := by decide +kernel
theorem dX8_readsDelay_41 : decode cX8_readsDelay 41 = .ok (.sipush 999, 3) := by decide +kernel
theorem dX8_readsDelay_44 : decode cX8_readsDelay 44 = .ok (.invokevirtual 88, 3) := by decide +kernel
theorem dX8_readsDelay_47 : decode cX8_readsDelay 47 = .ok (.istore 4, 2) := by decide +kernel
theorem dX8_readsDelay_49 : decode cX8_readsDelay 49 = .ok (.aload_n 0, 1) := by decide +kernel
theorem dX8_readsDelay_50 : decode cX8_readsDelay 50 = .ok (.getfield 16, 3) := by decide +kernel
theorem dX8_readsDelay_53 : decode cX8_readsDelay 53 = .ok (.sipush 256, 3) := by decide +kernel
theorem dX8_readsDelay_56 : decode cX8_readsDelay 56 = .ok (.iload_n 2, 1) := by decide +kernel
theorem dX8_readsDelay_57 : decode cX8_readsDelay 57 = .ok (.iadd, 1) := by decide +kernel
theorem dX8_readsDelay_58 : decode cX8_readsDelay 58 = .ok (.iload 4, 2) := by decide +kernel
theorem dX8_readsDelay_60 : decode cX8_readsDelay 60 = .ok (.ifCond .eq 9, 3) := by decide +kernel
theorem dX8_readsDelay_63 : decode cX8_readsDelay 63 = .ok (.iload_n 3, 1) := by decide +kernel
theorem dX8_readsDelay_64 : decode cX8_readsDelay 64 = .ok (.iconst 1, 1) := by decide +kernel
theorem dX8_readsDelay_65 : decode cX8_readsDelay 65 = .ok (.iadd, 1) := by decide +kernel
theorem dX8_readsDelay_66 : decode cX8_readsDelay 66 = .ok (.goto 13, 3) := by decide +kernel
theorem dX8_readsDelay_69 : decode cX8_readsDelay 69 = .ok (.aload_n 0, 1) := by decide +kernel
theorem dX8_readsDelay_70 : decode cX8_readsDelay 70 = .ok (.getfield 16, 3) := by decide +kernel
theorem dX8_readsDelay_73 : decode cX8_readsDelay 73 = .ok (.sipush 256, 3) := by decide +kernel
theorem dX8_readsDelay_76 : decode cX8_readsDelay 76 = .ok (.iload_n 2, 1) := by decide +kernel
theorem dX8_readsDelay_77 : decode cX8_readsDelay 77 = .ok (.iadd, 1) := by decide +kernel
theorem dX8_readsDelay_78 : decode cX8_readsDelay 78 = .ok (.iaload, 1) := by decide +kernel
theorem dX8_readsDelay_79 : decode cX8_readsDelay 79 = .ok (.iastore, 1) := by decide +kernel
theorem dX8_readsDelay_80 : decode cX8_readsDelay 80 = .ok (.aload_n 0, 1) := by decide +kernel
theorem dX8_readsDelay_81 : decode cX8_readsDelay 81 = .ok (.getfield 16, 3) := by decide +kernel
theorem dX8_readsDelay_84 : decode cX8_readsDelay 84 = .ok (.sipush 272, 3) := by decide +kernel
theorem dX8_readsDelay_87 : decode cX8_readsDelay 87 = .ok (.iload_n 2, 1) := by decide +kernel
theorem dX8_readsDelay_88 : decode cX8_readsDelay 88 = .ok (.iadd, 1) := by decide +kernel
theorem dX8_readsDelay_89 : decode cX8_readsDelay 89 = .ok (.iload 4, 2) := by decide +kernel
theorem dX8_readsDelay_91 : decode cX8_readsDelay 91 = .ok (.ifCond .eq 10, 3) := by decide +kernel
theorem dX8_readsDelay_94 : decode cX8_readsDelay 94 = .ok (.aload_n 0, 1) := by decide +kernel
theorem dX8_readsDelay_95 : decode cX8_readsDelay 95 = .ok (.getfield 72, 3) := by decide +kernel
theorem dX8_readsDelay_98 : decode cX8_readsDelay 98 = .ok (.goto 13, 3) := by decide +kernel
theorem dX8_readsDelay_101 : decode cX8_readsDelay 101 = .ok (.aload_n 0, 1) := by decide +kernel
theorem dX8_readsDelay_102 : decode cX8_readsDelay 102 = .ok (.getfield 16, 3) := by decide +kernel
theorem dX8_readsDelay_105 : decode cX8_readsDelay 105 = .ok (.sipush 272, 3) := by decide +kernel
theorem dX8_readsDelay_108 : decode cX8_readsDelay 108 = .ok (.iload_n 2, 1) := by decide +kernel
theorem dX8_readsDelay_109 : decode cX8_readsDelay 109 = .ok (.iadd, 1) := by decide +kernel
theorem dX8_readsDelay_110 : decode cX8_readsDelay 110 = .ok (.iaload, 1) := by decide +kernel
theorem dX8_readsDelay_111 : decode cX8_readsDelay 111 = .ok (.iastore, 1) := by decide +kernel
theorem dX8_readsDelay_112 : decode cX8_readsDelay 112 = .ok (.iload 4, 2) := by decide +kernel
theorem dX8_readsDelay_114 : decode cX8_readsDelay 114 = .ok (.ireturn, 1) := by decide +kernel
set_option maxRecDepth 20000 in
theorem ggX8_readsRule_X8_number : GoodIn wsX8_readsRule wsX8_number := goodIn_r _ [7, 2, 8, 9, 10, 11, 12, 6, 13, 14, 15, 16, 17, 22, 23, 24, 25, 26, 27, 28, 29, 30, 31, 32, 33, 34, 35, 36, 37, 38, 39, 40, 41] (by decide +kernel) (by decide +kernel)
set_option maxRecDepth 20000 in
theorem gX8_readsRule_X8_number : GoodIn wsX8_readsRule (wsV RX8 86 RX8 yX8_number wsX8_number) := goodIn_app (goodIn_of _ (by decide +kernel)) ggX8_readsRule_X8_number
set_option maxRecDepth 20000 in
theorem ggX8_readsRule_X8_more : GoodIn wsX8_readsRule wsX8_more := goodIn_r _ [21, 8, 10, 11, 12, 6, 13, 14, 9, 3, 4, 5, 7, 2, 15, 16, 17, 22, 23, 24, 25, 26, 27, 28, 29, 30, 31, 32, 33, 34, 35, 36, 37, 38, 39, 40, 41] (by decide +kernel) (by decide +kernel)
set_option maxRecDepth 20000 in
theorem gX8_readsRule_X8_more : GoodIn wsX8_readsRule (wsV RX8 88 RX8 yX8_more wsX8_more) := goodIn_app (goodIn_of _ (by decide +kernel)) ggX8_readsRule_X8_more
theorem dX8_readsRule_0 : decode cX8_readsRule 0 = .ok (.aload_n 0, 1) := by decide +kernel
theorem dX8_readsRule_1 : decode cX8_readsRule 1 = .ok (.iload_n 1, 1) := by decide +kernel
theorem dX8_readsRule_2 : decode cX8_readsRule 2 = .ok (.iconst 1, 1) := by decide +kernel
theorem dX8_readsRule_3 : decode cX8_readsRule 3 = .ok (.bipush 30, 2) := by decide +kernel
theorem dX8_readsRule_5 : decode cX8_readsRule 5 = .ok (.invokevirtual 86, 3) := by decide +kernel
theorem dX8_readsRule_8 : decode cX8_readsRule 8 = .ok (.ifCond .ne 5, 3) := by decide +kernel
theorem dX8_readsRule_11 : decode cX8_readsRule 11 = .ok (.iconst 0, 1) := by decide +kernel
theorem dX8_readsRule_12 : decode cX8_readsRule 12 = .ok (.ireturn, 1) := by decide +kernel
theorem dX8_readsRule_13 : decode cX8_readsRule 13 = .ok (.aload_n 0, 1) := by decide +kernel
theorem dX8_readsRule_14 : decode cX8_readsRule 14 = .ok (.getfield 22, 3) := by decide +kernel
theorem dX8_readsRule_17 : decode cX8_readsRule 17 = .ok (.iconst 0, 1) := by decide +kernel
theorem dX8_readsRule_18 : decode cX8_readsRule 18 = .ok (.aload_n 0, 1) := by decide +kernel
theorem dX8_readsRule_19 : decode cX8_readsRule 19 = .ok (.getfield 72, 3) := by decide +kernel
theorem dX8_readsRule_22 : decode cX8_readsRule 22 = .ok (.iastore, 1) := by decide +kernel
theorem dX8_readsRule_23 : decode cX8_readsRule 23 = .ok (.aload_n 0, 1) := by decide +kernel
theorem dX8_readsRule_24 : decode cX8_readsRule 24 = .ok (.iconst 0, 1) := by decide +kernel
theorem dX8_readsRule_25 : decode cX8_readsRule 25 = .ok (.bipush 10, 2) := by decide +kernel
theorem dX8_readsRule_27 : decode cX8_readsRule 27 = .ok (.invokevirtual 88, 3) := by decide +kernel
theorem dX8_readsRule_30 : decode cX8_readsRule 30 = .ok (.istore_n 2, 1) := by decide +kernel
theorem dX8_readsRule_31 : decode cX8_readsRule 31 = .ok (.aload_n 0, 1) := by decide +kernel
theorem dX8_readsRule_32 : decode cX8_readsRule 32 = .ok (.getfield 22, 3) := by decide +kernel
theorem dX8_readsRule_35 : decode cX8_readsRule 35 = .ok (.iconst 1, 1) := by decide +kernel
theorem dX8_readsRule_36 : decode cX8_readsRule 36 = .ok (.aload_n 0, 1) := by decide +kernel
theorem dX8_readsRule_37 : decode cX8_readsRule 37 = .ok (.getfield 72, 3) := by decide +kernel
theorem dX8_readsRule_40 : decode cX8_readsRule 40 = .ok (.iastore, 1) := by decide +kernel
theorem dX8_readsRule_41 : decode cX8_readsRule 41 = .ok (.iload_n 2, 1) := by decide +kernel
theorem dX8_readsRule_42 : decode cX8_readsRule 42 = .ok (.ireturn, 1) := by decide +kernel
set_option maxRecDepth 20000 in
theorem ggX8_readsItem_X8_number : GoodIn wsX8_readsItem wsX8_number := goodIn_r _ [8, 1, 9, 10, 11, 12, 13, 7, 14, 15, 16, 17, 18, 43, 44, 45, 46, 47, 48, 49, 50, 51, 52, 53, 54, 55, 56, 57, 58, 59, 60, 61, 62] (by decide +kernel) (by decide +kernel)
set_option maxRecDepth 20000 in
theorem gX8_readsItem_X8_number : GoodIn wsX8_readsItem (wsV RX8 86 RX8 yX8_number wsX8_number) := goodIn_app (goodIn_of _ (by decide +kernel)) ggX8_readsItem_X8_number
set_option maxRecDepth 20000 in
theorem ggX8_readsItem_X8_readsLink : GoodIn wsX8_readsItem wsX8_readsLink := goodIn_r _ [22, 2, 1, 3, 4, 5, 6, 7, 8, 9, 10, 11, 12, 13, 14, 15, 16, 17, 18, 23, 24, 25, 26, 27, 28, 29, 30, 31, 32, 33, 43, 44, 45, 46, 47, 48, 49, 50, 51, 52, 53, 54, 55, 56, 57, 58, 59, 60, 61, 62] (by decide +kernel) (by decide +kernel)
set_option maxRecDepth 20000 in
theorem gX8_readsItem_X8_readsLink : GoodIn wsX8_readsItem (wsV RX8 96 RX8 yX8_readsLink wsX8_readsLink) := goodIn_app (goodIn_of _ (by decide +kernel)) ggX8_readsItem_X8_readsLink
set_option maxRecDepth 20000 in
theorem ggX8_readsItem_X8_readsDelay : GoodIn wsX8_readsItem wsX8_readsDelay := goodIn_r _ [37, 2, 1, 3, 4, 5, 6, 7, 8, 9, 10, 11, 12, 13, 14, 15, 16, 17, 18, 23, 24, 25, 26, 43, 44, 45, 46, 47, 48, 49, 50, 51, 52, 53, 54, 55, 56, 57, 58, 59, 60, 61, 62] (by decide +kernel) (by decide +kernel)
set_option maxRecDepth 20000 in
theorem gX8_readsItem_X8_readsDelay : GoodIn wsX8_readsItem (wsV RX8 100 RX8 yX8_readsDelay wsX8_readsDelay) := goodIn_app (goodIn_of _ (by decide +kernel)) ggX8_readsItem_X8_readsDelay
set_option maxRecDepth 20000 in
theorem ggX8_readsItem_X8_readsRule : GoodIn wsX8_readsItem wsX8_readsRule := goodIn_r _ [41, 42, 1, 4, 5, 6, 7, 8, 9, 10, 11, 12, 13, 14, 15, 16, 17, 18, 23, 24, 25, 26, 43, 44, 45, 46, 47, 48, 49, 50, 51, 52, 53, 54, 55, 56, 57, 58, 59, 60, 61, 62] (by decide +kernel) (by decide +kernel)
set_option maxRecDepth 20000 in
theorem gX8_readsItem_X8_readsRule : GoodIn wsX8_readsItem (wsV RX8 103 RX8 yX8_readsRule wsX8_readsRule) := goodIn_app (goodIn_of _ (by decide +kernel)) ggX8_readsItem_X8_readsRule
theorem dX8_readsItem_0 : decode cX8_readsItem 0 = .ok (.iload_n 3, 1) := by decide +kernel
theorem dX8_readsItem_1 : decode cX8_readsItem 1 = .ok (.iload_n 1, 1) := by decide +kernel
theorem dX8_readsItem_2 : decode cX8_readsItem 2 = .ok (.bipush 110, 2) := by decide +kernel
theorem dX8_readsItem_4 : decode cX8_readsItem 4 = .ok (.if_icmp .ne 7, 3) := by decide +kernel
theorem dX8_readsItem_7 : decode cX8_readsItem 7 = .ok (.iconst 1, 1) := by decide +kernel
theorem dX8_readsItem_8 : decode cX8_readsItem 8 = .ok (.goto 4, 3) := by decide +kernel
theorem dX8_readsItem_11 : decode cX8_readsItem 11 = .ok (.iconst 0, 1) := by decide +kernel
theorem dX8_readsItem_12 : decode cX8_readsItem 12 = .ok (.if_icmp .eq 5, 3) := by decide +kernel
theorem dX8_readsItem_15 : decode cX8_readsItem 15 = .ok (.iconst 0, 1) := by decide +kernel
theorem dX8_readsItem_16 : decode cX8_readsItem 16 = .ok (.ireturn, 1) := by decide +kernel
theorem dX8_readsItem_17 : decode cX8_readsItem 17 = .ok (.iload_n 1, 1) := by decide +kernel
theorem dX8_readsItem_18 : decode cX8_readsItem 18 = .ok (.lookupswitch 124 #[(100, 86), (108, 80), (109, 92), (110, 50), (122, 98)], 50) := by decide +kernel
theorem dX8_readsItem_68 : decode cX8_readsItem 68 = .ok (.aload_n 0, 1) := by decide +kernel
theorem dX8_readsItem_69 : decode cX8_readsItem 69 = .ok (.iload_n 2, 1) := by decide +kernel
theorem dX8_readsItem_70 : decode cX8_readsItem 70 = .ok (.iconst 1, 1) := by decide +kernel
theorem dX8_readsItem_71 : decode cX8_readsItem 71 = .ok (.bipush 16, 2) := by decide +kernel
theorem dX8_readsItem_73 : decode cX8_readsItem 73 = .ok (.invokevirtual 86, 3) := by decide +kernel
theorem dX8_readsItem_76 : decode cX8_readsItem 76 = .ok (.istore 4, 2) := by decide +kernel
theorem dX8_readsItem_78 : decode cX8_readsItem 78 = .ok (.aload_n 0, 1) := by decide +kernel
theorem dX8_readsItem_79 : decode cX8_readsItem 79 = .ok (.iload 4, 2) := by decide +kernel
theorem dX8_readsItem_81 : decode cX8_readsItem 81 = .ok (.ifCond .eq 10, 3) := by decide +kernel
theorem dX8_readsItem_84 : decode cX8_readsItem 84 = .ok (.aload_n 0, 1) := by decide +kernel
theorem dX8_readsItem_85 : decode cX8_readsItem 85 = .ok (.getfield 72, 3) := by decide +kernel
theorem dX8_readsItem_88 : decode cX8_readsItem 88 = .ok (.goto 4, 3) := by decide +kernel
theorem dX8_readsItem_91 : decode cX8_readsItem 91 = .ok (.iconst 0, 1) := by decide +kernel
theorem dX8_readsItem_92 : decode cX8_readsItem 92 = .ok (.putfield 46, 3) := by decide +kernel
theorem dX8_readsItem_95 : decode cX8_readsItem 95 = .ok (.iload 4, 2) := by decide +kernel
