theorem dJ9_max_7cf53_0 : decode cJ9_max_7cf53 0 = .ok (.iload_n 0, 1) := by decide +kernel
theorem dJ9_max_7cf53_1 : decode cJ9_max_7cf53 1 = .ok (.iload_n 1, 1) := by decide +kernel
theorem dJ9_max_7cf53_2 : decode cJ9_max_7cf53 2 = .ok (.if_icmp .lt 7, 3) := by decide +kernel
theorem dJ9_max_7cf53_5 : decode cJ9_max_7cf53 5 = .ok (.iload_n 0, 1) := by decide +kernel
theorem dJ9_max_7cf53_6 : decode cJ9_max_7cf53 6 = .ok (.goto 4, 3) := by decide +kernel
theorem dJ9_max_7cf53_9 : decode cJ9_max_7cf53 9 = .ok (.iload_n 1, 1) := by decide +kernel
theorem dJ9_max_7cf53_10 : decode cJ9_max_7cf53 10 = .ok (.ireturn, 1) := by decide +kernel
theorem dJ9_min_7cf53_0 : decode cJ9_min_7cf53 0 = .ok (.iload_n 0, 1) := by decide +kernel
theorem dJ9_min_7cf53_1 : decode cJ9_min_7cf53 1 = .ok (.iload_n 1, 1) := by decide +kernel
theorem dJ9_min_7cf53_2 : decode cJ9_min_7cf53 2 = .ok (.if_icmp .gt 7, 3) := by decide +kernel
theorem dJ9_min_7cf53_5 : decode cJ9_min_7cf53 5 = .ok (.iload_n 0, 1) := by decide +kernel
theorem dJ9_min_7cf53_6 : decode cJ9_min_7cf53 6 = .ok (.goto 4, 3) := by decide +kernel
theorem dJ9_min_7cf53_9 : decode cJ9_min_7cf53 9 = .ok (.iload_n 1, 1) := by decide +kernel
theorem dJ9_min_7cf53_10 : decode cJ9_min_7cf53 10 = .ok (.ireturn, 1) := by decide +kernel
theorem dL_drawn_0 : decode cL_drawn 0 = .ok (.iload_n 1, 1) := by decide +kernel
theorem dL_drawn_1 : decode cL_drawn 1 = .ok (.aload_n 0, 1) := by decide +kernel
theorem dL_drawn_2 : decode cL_drawn 2 = .ok (.arraylength, 1) := by decide +kernel
theorem dL_drawn_3 : decode cL_drawn 3 = .ok (.if_icmp .ge 9, 3) := by decide +kernel
theorem dL_drawn_6 : decode cL_drawn 6 = .ok (.aload_n 0, 1) := by decide +kernel
theorem dL_drawn_7 : decode cL_drawn 7 = .ok (.iload_n 1, 1) := by decide +kernel
theorem dL_drawn_8 : decode cL_drawn 8 = .ok (.iaload, 1) := by decide +kernel
theorem dL_drawn_9 : decode cL_drawn 9 = .ok (.goto 11, 3) := by decide +kernel
theorem dL_drawn_12 : decode cL_drawn 12 = .ok (.ldc 7, 2) := by decide +kernel
theorem dL_drawn_14 : decode cL_drawn 14 = .ok (.iload_n 1, 1) := by decide +kernel
theorem dL_drawn_15 : decode cL_drawn 15 = .ok (.imul, 1) := by decide +kernel
theorem dL_drawn_16 : decode cL_drawn 16 = .ok (.sipush 7001, 3) := by decide +kernel
theorem dL_drawn_19 : decode cL_drawn 19 = .ok (.iadd, 1) := by decide +kernel
theorem dL_drawn_20 : decode cL_drawn 20 = .ok (.istore_n 3, 1) := by decide +kernel
theorem dL_drawn_21 : decode cL_drawn 21 = .ok (.iload_n 3, 1) := by decide +kernel
theorem dL_drawn_22 : decode cL_drawn 22 = .ok (.iconst 1, 1) := by decide +kernel
theorem dL_drawn_23 : decode cL_drawn 23 = .ok (.iushr, 1) := by decide +kernel
theorem dL_drawn_24 : decode cL_drawn 24 = .ok (.iload_n 2, 1) := by decide +kernel
theorem dL_drawn_25 : decode cL_drawn 25 = .ok (.irem, 1) := by decide +kernel
theorem dL_drawn_26 : decode cL_drawn 26 = .ok (.ireturn, 1) := by decide +kernel
set_option maxRecDepth 20000 in
theorem ggL_inGoblets_X1_inGoblet : GoodIn wsL_inGoblets wsX1_inGoblet := goodIn_ca (goodIn_r _ [5, 6, 7, 4, 8, 9, 10, 11, 12, 13, 14, 15, 16, 17, 18, 19, 20, 21, 22, 23, 24, 25, 26, 27, 28, 29, 30] (by decide +kernel) (by decide +kernel)) (goodIn_sub (fun _ h => List.mem_cons_of_mem _ (List.mem_append_right _ h)) (by decide +kernel))
set_option maxRecDepth 20000 in
theorem gL_inGoblets_X1_inGoblet : GoodIn wsL_inGoblets (wsV RL 8 RX1 yX1_inGoblet wsX1_inGoblet) := goodIn_app (goodIn_of _ (by decide +kernel)) ggL_inGoblets_X1_inGoblet
theorem dL_inGoblets_0 : decode cL_inGoblets 0 = .ok (.iconst 0, 1) := by decide +kernel
theorem dL_inGoblets_1 : decode cL_inGoblets 1 = .ok (.istore_n 1, 1) := by decide +kernel
theorem dL_inGoblets_2 : decode cL_inGoblets 2 = .ok (.iconst 0, 1) := by decide +kernel
theorem dL_inGoblets_3 : decode cL_inGoblets 3 = .ok (.istore_n 2, 1) := by decide +kernel
theorem dL_inGoblets_4 : decode cL_inGoblets 4 = .ok (.iload_n 2, 1) := by decide +kernel
theorem dL_inGoblets_5 : decode cL_inGoblets 5 = .ok (.bipush 8, 2) := by decide +kernel
theorem dL_inGoblets_7 : decode cL_inGoblets 7 = .ok (.if_icmp .ge 17, 3) := by decide +kernel
theorem dL_inGoblets_10 : decode cL_inGoblets 10 = .ok (.iload_n 1, 1) := by decide +kernel
theorem dL_inGoblets_11 : decode cL_inGoblets 11 = .ok (.aload_n 0, 1) := by decide +kernel
theorem dL_inGoblets_12 : decode cL_inGoblets 12 = .ok (.iload_n 2, 1) := by decide +kernel
theorem dL_inGoblets_13 : decode cL_inGoblets 13 = .ok (.invokevirtual 8, 3) := by decide +kernel
theorem dL_inGoblets_16 : decode cL_inGoblets 16 = .ok (.iadd, 1) := by decide +kernel
theorem dL_inGoblets_17 : decode cL_inGoblets 17 = .ok (.istore_n 1, 1) := by decide +kernel
theorem dL_inGoblets_18 : decode cL_inGoblets 18 = .ok (.iinc 2 1, 3) := by decide +kernel
theorem dL_inGoblets_21 : decode cL_inGoblets 21 = .ok (.goto (-17), 3) := by decide +kernel
theorem dL_inGoblets_24 : decode cL_inGoblets 24 = .ok (.iload_n 1, 1) := by decide +kernel
theorem dL_inGoblets_25 : decode cL_inGoblets 25 = .ok (.ireturn, 1) := by decide +kernel
set_option maxRecDepth 20000 in
theorem ggL_areRangesApart_X1_longestRange : GoodIn wsL_areRangesApart wsX1_longestRange := goodIn_r _ [5, 6, 7, 8, 9, 10, 11, 12, 60, 61, 62, 63, 64, 65, 66] (by decide +kernel) (by decide +kernel)
set_option maxRecDepth 20000 in
theorem gL_areRangesApart_X1_longestRange : GoodIn wsL_areRangesApart (wsV RL 14 RX1 yX1_longestRange wsX1_longestRange) := goodIn_app (goodIn_of _ (by decide +kernel)) ggL_areRangesApart_X1_longestRange
set_option maxRecDepth 20000 in
theorem ggL_areRangesApart_X1_rangeTo : GoodIn wsL_areRangesApart wsX1_rangeTo := goodIn_ca (goodIn_r _ [16, 17, 18, 19, 20, 21, 4, 22, 6, 63, 64, 65, 66, 60, 61, 62] (by decide +kernel) (by decide +kernel)) (goodIn_sub (fun _ h => List.mem_cons_of_mem _ (List.mem_append_right _ h)) (by decide +kernel))
set_option maxRecDepth 20000 in
theorem gL_areRangesApart_X1_rangeTo : GoodIn wsL_areRangesApart (wsV RL 18 RX1 yX1_rangeTo wsX1_rangeTo) := goodIn_app (goodIn_of _ (by decide +kernel)) ggL_areRangesApart_X1_rangeTo
set_option maxRecDepth 20000 in
theorem ggL_areRangesApart_X1_rangeFrom : GoodIn wsL_areRangesApart wsX1_rangeFrom := goodIn_ca (goodIn_r _ [26, 17, 18, 19, 20, 21, 4, 22, 6, 63, 64, 65, 66, 60, 61, 62] (by decide +kernel) (by decide +kernel)) (goodIn_sub (fun _ h => List.mem_cons_of_mem _ (List.mem_append_right _ h)) (by decide +kernel))
set_option maxRecDepth 20000 in
theorem gL_areRangesApart_X1_rangeFrom : GoodIn wsL_areRangesApart (wsV RL 21 RX1 yX1_rangeFrom wsX1_rangeFrom) := goodIn_app (goodIn_of _ (by decide +kernel)) ggL_areRangesApart_X1_rangeFrom
set_option maxRecDepth 20000 in
theorem ggL_areRangesApart_X1_ranges : GoodIn wsL_areRangesApart wsX1_ranges := goodIn_r _ [30, 31, 32, 33, 4, 34, 6, 60, 61, 62, 63, 64, 65, 66] (by decide +kernel) (by decide +kernel)
set_option maxRecDepth 20000 in
theorem gL_areRangesApart_X1_ranges : GoodIn wsL_areRangesApart (wsV RL 24 RX1 yX1_ranges wsX1_ranges) := goodIn_app (goodIn_of _ (by decide +kernel)) ggL_areRangesApart_X1_ranges
set_option maxRecDepth 20000 in
theorem ggL_areRangesApart_X1_size : GoodIn wsL_areRangesApart wsX1_size := goodIn_r _ [38, 39, 60, 61, 62] (by decide +kernel) (by decide +kernel)
set_option maxRecDepth 20000 in
theorem gL_areRangesApart_X1_size : GoodIn wsL_areRangesApart (wsV RL 27 RX1 yX1_size wsX1_size) := goodIn_app (goodIn_of _ (by decide +kernel)) ggL_areRangesApart_X1_size
set_option maxRecDepth 20000 in
theorem ggL_areRangesApart_X1_placeOf : GoodIn wsL_areRangesApart wsX1_placeOf := goodIn_r _ [43, 6, 60, 61, 62, 63, 64, 65, 66] (by decide +kernel) (by decide +kernel)
set_option maxRecDepth 20000 in
theorem gL_areRangesApart_X1_placeOf : GoodIn wsL_areRangesApart (wsV RL 30 RX1 yX1_placeOf wsX1_placeOf) := goodIn_app (goodIn_of _ (by decide +kernel)) ggL_areRangesApart_X1_placeOf
set_option maxRecDepth 20000 in
theorem ggL_areRangesApart_X1_inJug : GoodIn wsL_areRangesApart wsX1_inJug := goodIn_r _ [47, 48, 49, 50, 4, 51, 52, 53, 54, 55, 6, 56, 57, 58, 59, 60, 61, 62, 63, 64, 65, 66] (by decide +kernel) (by decide +kernel)
set_option maxRecDepth 20000 in
theorem gL_areRangesApart_X1_inJug : GoodIn wsL_areRangesApart (wsV RL 33 RX1 yX1_inJug wsX1_inJug) := goodIn_app (goodIn_of _ (by decide +kernel)) ggL_areRangesApart_X1_inJug
theorem dL_areRangesApart_0 : decode cL_areRangesApart 0 = .ok (.iconst 0, 1) := by decide +kernel
theorem dL_areRangesApart_1 : decode cL_areRangesApart 1 = .ok (.istore_n 1, 1) := by decide +kernel
theorem dL_areRangesApart_2 : decode cL_areRangesApart 2 = .ok (.iconst (-1), 1) := by decide +kernel
theorem dL_areRangesApart_3 : decode cL_areRangesApart 3 = .ok (.istore_n 2, 1) := by decide +kernel
theorem dL_areRangesApart_4 : decode cL_areRangesApart 4 = .ok (.aload_n 0, 1) := by decide +kernel
theorem dL_areRangesApart_5 : decode cL_areRangesApart 5 = .ok (.invokevirtual 14, 3) := by decide +kernel
theorem dL_areRangesApart_8 : decode cL_areRangesApart 8 = .ok (.istore_n 3, 1) := by decide +kernel
theorem dL_areRangesApart_9 : decode cL_areRangesApart 9 = .ok (.iload_n 3, 1) := by decide +kernel
theorem dL_areRangesApart_10 : decode cL_areRangesApart 10 = .ok (.ifCond .ge 7, 3) := by decide +kernel
theorem dL_areRangesApart_13 : decode cL_areRangesApart 13 = .ok (.iconst 0, 1) := by decide +kernel
theorem dL_areRangesApart_14 : decode cL_areRangesApart 14 = .ok (.goto 16, 3) := by decide +kernel
theorem dL_areRangesApart_17 : decode cL_areRangesApart 17 = .ok (.aload_n 0, 1) := by decide +kernel
theorem dL_areRangesApart_18 : decode cL_areRangesApart 18 = .ok (.iload_n 3, 1) := by decide +kernel
theorem dL_areRangesApart_19 : decode cL_areRangesApart 19 = .ok (.invokevirtual 18, 3) := by decide +kernel
theorem dL_areRangesApart_22 : decode cL_areRangesApart 22 = .ok (.aload_n 0, 1) := by decide +kernel
theorem dL_areRangesApart_23 : decode cL_areRangesApart 23 = .ok (.iload_n 3, 1) := by decide +kernel
theorem dL_areRangesApart_24 : decode cL_areRangesApart 24 = .ok (.invokevirtual 21, 3) := by decide +kernel
theorem dL_areRangesApart_27 : decode cL_areRangesApart 27 = .ok (.isub, 1) := by decide +kernel
theorem dL_areRangesApart_28 : decode cL_areRangesApart 28 = .ok (.iconst 1, 1) := by decide +kernel
theorem dL_areRangesApart_29 : decode cL_areRangesApart 29 = .ok (.iadd, 1) := by decide +kernel
theorem dL_areRangesApart_30 : decode cL_areRangesApart 30 = .ok (.istore 4, 2) := by decide +kernel
theorem dL_areRangesApart_32 : decode cL_areRangesApart 32 = .ok (.iload_n 3, 1) := by decide +kernel
theorem dL_areRangesApart_33 : decode cL_areRangesApart 33 = .ok (.ifCond .ge 7, 3) := by decide +kernel
theorem dL_areRangesApart_36 : decode cL_areRangesApart 36 = .ok (.iconst 1, 1) := by decide +kernel
theorem dL_areRangesApart_37 : decode cL_areRangesApart 37 = .ok (.goto 4, 3) := by decide +kernel
theorem dL_areRangesApart_40 : decode cL_areRangesApart 40 = .ok (.iconst 0, 1) := by decide +kernel
theorem dL_areRangesApart_41 : decode cL_areRangesApart 41 = .ok (.aload_n 0, 1) := by decide +kernel
theorem dL_areRangesApart_42 : decode cL_areRangesApart 42 = .ok (.invokevirtual 24, 3) := by decide +kernel
theorem dL_areRangesApart_45 : decode cL_areRangesApart 45 = .ok (.ifCond .ne 7, 3) := by decide +kernel
theorem dL_areRangesApart_48 : decode cL_areRangesApart 48 = .ok (.iconst 1, 1) := by decide +kernel
theorem dL_areRangesApart_49 : decode cL_areRangesApart 49 = .ok (.goto 4, 3) := by decide +kernel
theorem dL_areRangesApart_52 : decode cL_areRangesApart 52 = .ok (.iconst 0, 1) := by decide +kernel
theorem dL_areRangesApart_53 : decode cL_areRangesApart 53 = .ok (.if_icmp .ne 7, 3) := by decide +kernel
theorem dL_areRangesApart_56 : decode cL_areRangesApart 56 = .ok (.iconst 1, 1) := by decide +kernel
theorem dL_areRangesApart_57 : decode cL_areRangesApart 57 = .ok (.goto 4, 3) := by decide +kernel
theorem dL_areRangesApart_60 : decode cL_areRangesApart 60 = .ok (.iconst 0, 1) := by decide +kernel
theorem dL_areRangesApart_61 : decode cL_areRangesApart 61 = .ok (.istore 5, 2) := by decide +kernel
theorem dL_areRangesApart_63 : decode cL_areRangesApart 63 = .ok (.iconst 0, 1) := by decide +kernel
theorem dL_areRangesApart_64 : decode cL_areRangesApart 64 = .ok (.istore 6, 2) := by decide +kernel
theorem dL_areRangesApart_66 : decode cL_areRangesApart 66 = .ok (.iload 6, 2) := by decide +kernel
theorem dL_areRangesApart_68 : decode cL_areRangesApart 68 = .ok (.aload_n 0, 1) := by decide +kernel
theorem dL_areRangesApart_69 : decode cL_areRangesApart 69 = .ok (.invokevirtual 24, 3) := by decide +kernel
theorem dL_areRangesApart_72 : decode cL_areRangesApart 72 = .ok (.if_icmp .ge 149, 3) := by decide +kernel
theorem dL_areRangesApart_75 : decode cL_areRangesApart 75 = .ok (.aload_n 0, 1) := by decide +kernel
theorem dL_areRangesApart_76 : decode cL_areRangesApart 76 = .ok (.iload 6, 2) := by decide +kernel
theorem dL_areRangesApart_78 : decode cL_areRangesApart 78 = .ok (.invokevirtual 21, 3) := by decide +kernel
theorem dL_areRangesApart_81 : decode cL_areRangesApart 81 = .ok (.istore 7, 2) := by decide +kernel
theorem dL_areRangesApart_83 : decode cL_areRangesApart 83 = .ok (.aload_n 0, 1) := by decide +kernel
theorem dL_areRangesApart_84 : decode cL_areRangesApart 84 = .ok (.iload 6, 2) := by decide +kernel
theorem dL_areRangesApart_86 : decode cL_areRangesApart 86 = .ok (.invokevirtual 18, 3) := by decide +kernel
theorem dL_areRangesApart_89 : decode cL_areRangesApart 89 = .ok (.istore 8, 2) := by decide +kernel
theorem dL_areRangesApart_91 : decode cL_areRangesApart 91 = .ok (.iload 8, 2) := by decide +kernel
theorem dL_areRangesApart_93 : decode cL_areRangesApart 93 = .ok (.iload 7, 2) := by decide +kernel
theorem dL_areRangesApart_95 : decode cL_areRangesApart 95 = .ok (.isub, 1) := by decide +kernel
theorem dL_areRangesApart_96 : decode cL_areRangesApart 96 = .ok (.iconst 1, 1) := by decide +kernel
theorem dL_areRangesApart_97 : decode cL_areRangesApart 97 = .ok (.iadd, 1) := by decide +kernel
theorem dL_areRangesApart_98 : decode cL_areRangesApart 98 = .ok (.istore 9, 2) := by decide +kernel
theorem dL_areRangesApart_100 : decode cL_areRangesApart 100 = .ok (.iload 5, 2) := by decide +kernel
theorem dL_areRangesApart_102 : decode cL_areRangesApart 102 = .ok (.ifCond .eq 102, 3) := by decide +kernel
theorem dL_areRangesApart_105 : decode cL_areRangesApart 105 = .ok (.iload 7, 2) := by decide +kernel
theorem dL_areRangesApart_107 : decode cL_areRangesApart 107 = .ok (.iload_n 2, 1) := by decide +kernel
theorem dL_areRangesApart_108 : decode cL_areRangesApart 108 = .ok (.iconst 1, 1) := by decide +kernel
theorem dL_areRangesApart_109 : decode cL_areRangesApart 109 = .ok (.iadd, 1) := by decide +kernel
theorem dL_areRangesApart_110 : decode cL_areRangesApart 110 = .ok (.if_icmp .le 94, 3) := by decide +kernel
theorem dL_areRangesApart_113 : decode cL_areRangesApart 113 = .ok (.iload 8, 2) := by decide +kernel
theorem dL_areRangesApart_115 : decode cL_areRangesApart 115 = .ok (.iload 7, 2) := by decide +kernel
theorem dL_areRangesApart_117 : decode cL_areRangesApart 117 = .ok (.if_icmp .lt 87, 3) := by decide +kernel
theorem dL_areRangesApart_120 : decode cL_areRangesApart 120 = .ok (.iload 8, 2) := by decide +kernel
theorem dL_areRangesApart_122 : decode cL_areRangesApart 122 = .ok (.aload_n 0, 1) := by decide +kernel
theorem dL_areRangesApart_123 : decode cL_areRangesApart 123 = .ok (.invokevirtual 27, 3) := by decide +kernel
theorem dL_areRangesApart_126 : decode cL_areRangesApart 126 = .ok (.if_icmp .gt 78, 3) := by decide +kernel
theorem dL_areRangesApart_129 : decode cL_areRangesApart 129 = .ok (.aload_n 0, 1) := by decide +kernel
theorem dL_areRangesApart_130 : decode cL_areRangesApart 130 = .ok (.iload 7, 2) := by decide +kernel
theorem dL_areRangesApart_132 : decode cL_areRangesApart 132 = .ok (.invokevirtual 30, 3) := by decide +kernel
theorem dL_areRangesApart_135 : decode cL_areRangesApart 135 = .ok (.bipush 8, 2) := by decide +kernel
theorem dL_areRangesApart_137 : decode cL_areRangesApart 137 = .ok (.if_icmp .ne 67, 3) := by decide +kernel
theorem dL_areRangesApart_140 : decode cL_areRangesApart 140 = .ok (.aload_n 0, 1) := by decide +kernel
theorem dL_areRangesApart_141 : decode cL_areRangesApart 141 = .ok (.iload 8, 2) := by decide +kernel
theorem dL_areRangesApart_143 : decode cL_areRangesApart 143 = .ok (.invokevirtual 30, 3) := by decide +kernel
theorem dL_areRangesApart_146 : decode cL_areRangesApart 146 = .ok (.bipush 8, 2) := by decide +kernel
theorem dL_areRangesApart_148 : decode cL_areRangesApart 148 = .ok (.if_icmp .ne 56, 3) := by decide +kernel
theorem dL_areRangesApart_151 : decode cL_areRangesApart 151 = .ok (.aload_n 0, 1) := by decide +kernel
theorem dL_areRangesApart_152 : decode cL_areRangesApart 152 = .ok (.iload 7, 2) := by decide +kernel
theorem dL_areRangesApart_154 : decode cL_areRangesApart 154 = .ok (.iconst 1, 1) := by decide +kernel
theorem dL_areRangesApart_155 : decode cL_areRangesApart 155 = .ok (.isub, 1) := by decide +kernel
theorem dL_areRangesApart_156 : decode cL_areRangesApart 156 = .ok (.invokevirtual 30, 3) := by decide +kernel
theorem dL_areRangesApart_159 : decode cL_areRangesApart 159 = .ok (.bipush 8, 2) := by decide +kernel
theorem dL_areRangesApart_161 : decode cL_areRangesApart 161 = .ok (.if_icmp .eq 43, 3) := by decide +kernel
theorem dL_areRangesApart_164 : decode cL_areRangesApart 164 = .ok (.aload_n 0, 1) := by decide +kernel
theorem dL_areRangesApart_165 : decode cL_areRangesApart 165 = .ok (.iload 8, 2) := by decide +kernel
theorem dL_areRangesApart_167 : decode cL_areRangesApart 167 = .ok (.iconst 1, 1) := by decide +kernel
theorem dL_areRangesApart_168 : decode cL_areRangesApart 168 = .ok (.iadd, 1) := by decide +kernel
theorem dL_areRangesApart_169 : decode cL_areRangesApart 169 = .ok (.invokevirtual 30, 3) := by decide +kernel
theorem dL_areRangesApart_172 : decode cL_areRangesApart 172 = .ok (.bipush 8, 2) := by decide +kernel
theorem dL_areRangesApart_174 : decode cL_areRangesApart 174 = .ok (.if_icmp .eq 30, 3) := by decide +kernel
theorem dL_areRangesApart_177 : decode cL_areRangesApart 177 = .ok (.iload 6, 2) := by decide +kernel
theorem dL_areRangesApart_179 : decode cL_areRangesApart 179 = .ok (.iload_n 3, 1) := by decide +kernel
theorem dL_areRangesApart_180 : decode cL_areRangesApart 180 = .ok (.if_icmp .ge 13, 3) := by decide +kernel
theorem dL_areRangesApart_183 : decode cL_areRangesApart 183 = .ok (.iload 9, 2) := by decide +kernel
theorem dL_areRangesApart_185 : decode cL_areRangesApart 185 = .ok (.iload 4, 2) := by decide +kernel
theorem dL_areRangesApart_187 : decode cL_areRangesApart 187 = .ok (.if_icmp .ge 17, 3) := by decide +kernel
theorem dL_areRangesApart_190 : decode cL_areRangesApart 190 = .ok (.goto 10, 3) := by decide +kernel
theorem dL_areRangesApart_193 : decode cL_areRangesApart 193 = .ok (.iload 9, 2) := by decide +kernel
theorem dL_areRangesApart_195 : decode cL_areRangesApart 195 = .ok (.iload 4, 2) := by decide +kernel
theorem dL_areRangesApart_197 : decode cL_areRangesApart 197 = .ok (.if_icmp .gt 7, 3) := by decide +kernel
theorem dL_areRangesApart_200 : decode cL_areRangesApart 200 = .ok (.iconst 1, 1) := by decide +kernel
theorem dL_areRangesApart_201 : decode cL_areRangesApart 201 = .ok (.goto 4, 3) := by decide +kernel
theorem dL_areRangesApart_204 : decode cL_areRangesApart 204 = .ok (.iconst 0, 1) := by decide +kernel
theorem dL_areRangesApart_205 : decode cL_areRangesApart 205 = .ok (.istore 5, 2) := by decide +kernel
theorem dL_areRangesApart_207 : decode cL_areRangesApart 207 = .ok (.iload 8, 2) := by decide +kernel
theorem dL_areRangesApart_209 : decode cL_areRangesApart 209 = .ok (.istore_n 2, 1) := by decide +kernel
theorem dL_areRangesApart_210 : decode cL_areRangesApart 210 = .ok (.iload_n 1, 1) := by decide +kernel
theorem dL_areRangesApart_211 : decode cL_areRangesApart 211 = .ok (.iload 9, 2) := by decide +kernel
theorem dL_areRangesApart_213 : decode cL_areRangesApart 213 = .ok (.iadd, 1) := by decide +kernel
theorem dL_areRangesApart_214 : decode cL_areRangesApart 214 = .ok (.istore_n 1, 1) := by decide +kernel
theorem dL_areRangesApart_215 : decode cL_areRangesApart 215 = .ok (.iinc 6 1, 3) := by decide +kernel
theorem dL_areRangesApart_218 : decode cL_areRangesApart 218 = .ok (.goto (-152), 3) := by decide +kernel
theorem dL_areRangesApart_221 : decode cL_areRangesApart 221 = .ok (.iload 5, 2) := by decide +kernel
theorem dL_areRangesApart_223 : decode cL_areRangesApart 223 = .ok (.ifCond .eq 15, 3) := by decide +kernel
theorem dL_areRangesApart_226 : decode cL_areRangesApart 226 = .ok (.iload_n 1, 1) := by decide +kernel
theorem dL_areRangesApart_227 : decode cL_areRangesApart 227 = .ok (.aload_n 0, 1) := by decide +kernel
theorem dL_areRangesApart_228 : decode cL_areRangesApart 228 = .ok (.invokevirtual 33, 3) := by decide +kernel
theorem dL_areRangesApart_231 : decode cL_areRangesApart 231 = .ok (.if_icmp .ne 7, 3) := by decide +kernel
theorem dL_areRangesApart_234 : decode cL_areRangesApart 234 = .ok (.iconst 1, 1) := by decide +kernel
theorem dL_areRangesApart_235 : decode cL_areRangesApart 235 = .ok (.goto 4, 3) := by decide +kernel
theorem dL_areRangesApart_238 : decode cL_areRangesApart 238 = .ok (.iconst 0, 1) := by decide +kernel
theorem dL_areRangesApart_239 : decode cL_areRangesApart 239 = .ok (.ireturn, 1) := by decide +kernel
set_option maxRecDepth 20000 in
theorem ggL_isAllSomewhere_X1_lowestLeft : GoodIn wsL_isAllSomewhere wsX1_lowestLeft := goodIn_r _ [5, 6, 69, 70, 71, 72, 73, 74, 75] (by decide +kernel) (by decide +kernel)
set_option maxRecDepth 20000 in
theorem gL_isAllSomewhere_X1_lowestLeft : GoodIn wsL_isAllSomewhere (wsV RL 36 RX1 yX1_lowestLeft wsX1_lowestLeft) := goodIn_app (goodIn_of _ (by decide +kernel)) ggL_isAllSomewhere_X1_lowestLeft
set_option maxRecDepth 20000 in
theorem ggL_isAllSomewhere_X1_inJug : GoodIn wsL_isAllSomewhere wsX1_inJug := goodIn_r _ [10, 11, 12, 13, 4, 14, 15, 16, 17, 18, 6, 19, 20, 21, 22, 69, 70, 71, 72, 73, 74, 75] (by decide +kernel) (by decide +kernel)
set_option maxRecDepth 20000 in
theorem gL_isAllSomewhere_X1_inJug : GoodIn wsL_isAllSomewhere (wsV RL 33 RX1 yX1_inJug wsX1_inJug) := goodIn_app (goodIn_of _ (by decide +kernel)) ggL_isAllSomewhere_X1_inJug
set_option maxRecDepth 20000 in
theorem ggL_isAllSomewhere_L_inGoblets : GoodIn wsL_isAllSomewhere wsL_inGoblets := goodIn_ca (goodIn_r _ [26, 27, 28, 29, 4, 30, 31, 32, 33, 34, 35, 11, 12, 13, 14, 15, 16, 17, 18, 6, 19, 20, 21, 22, 69, 70, 71, 72, 73, 74, 75] (by decide +kernel) (by decide +kernel)) (goodIn_sub (fun _ h => List.mem_cons_of_mem _ (List.mem_append_right _ h)) (by decide +kernel))
set_option maxRecDepth 20000 in
theorem gL_isAllSomewhere_L_inGoblets : GoodIn wsL_isAllSomewhere (va_wsS RL 39 yL_inGoblets wsL_inGoblets) := goodIn_app (goodIn_of _ (by decide +kernel)) ggL_isAllSomewhere_L_inGoblets
set_option maxRecDepth 20000 in
theorem ggL_isAllSomewhere_X1_drunk : GoodIn wsL_isAllSomewhere wsX1_drunk := goodIn_r _ [39, 11, 12, 13, 4, 14, 15, 16, 17, 18, 6, 19, 20, 21, 22, 69, 70, 71, 72, 73, 74, 75] (by decide +kernel) (by decide +kernel)
set_option maxRecDepth 20000 in
theorem gL_isAllSomewhere_X1_drunk : GoodIn wsL_isAllSomewhere (wsV RL 45 RX1 yX1_drunk wsX1_drunk) := goodIn_app (goodIn_of _ (by decide +kernel)) ggL_isAllSomewhere_X1_drunk
set_option maxRecDepth 20000 in
theorem ggL_isAllSomewhere_X1_spilt : GoodIn wsL_isAllSomewhere wsX1_spilt := goodIn_r _ [43, 11, 12, 13, 4, 14, 15, 16, 17, 18, 6, 19, 20, 21, 22, 69, 70, 71, 72, 73, 74, 75] (by decide +kernel) (by decide +kernel)
set_option maxRecDepth 20000 in
theorem gL_isAllSomewhere_X1_spilt : GoodIn wsL_isAllSomewhere (wsV RL 48 RX1 yX1_spilt wsX1_spilt) := goodIn_app (goodIn_of _ (by decide +kernel)) ggL_isAllSomewhere_X1_spilt
set_option maxRecDepth 20000 in
theorem ggL_isAllSomewhere_X1_size : GoodIn wsL_isAllSomewhere wsX1_size := goodIn_r _ [47, 48, 69, 70, 71] (by decide +kernel) (by decide +kernel)
set_option maxRecDepth 20000 in
theorem gL_isAllSomewhere_X1_size : GoodIn wsL_isAllSomewhere (wsV RL 27 RX1 yX1_size wsX1_size) := goodIn_app (goodIn_of _ (by decide +kernel)) ggL_isAllSomewhere_X1_size
set_option maxRecDepth 20000 in
theorem ggL_isAllSomewhere_X1_placeOf : GoodIn wsL_isAllSomewhere wsX1_placeOf := goodIn_r _ [52, 6, 69, 70, 71, 72, 73, 74, 75] (by decide +kernel) (by decide +kernel)
set_option maxRecDepth 20000 in
theorem gL_isAllSomewhere_X1_placeOf : GoodIn wsL_isAllSomewhere (wsV RL 30 RX1 yX1_placeOf wsX1_placeOf) := goodIn_app (goodIn_of _ (by decide +kernel)) ggL_isAllSomewhere_X1_placeOf
set_option maxRecDepth 20000 in
theorem ggL_isAllSomewhere_X1_nextOf : GoodIn wsL_isAllSomewhere wsX1_nextOf := goodIn_ca (goodIn_r _ [56, 31, 32, 4, 33, 34, 35, 57, 58, 59, 60, 6, 69, 70, 71, 72, 73, 74, 75] (by decide +kernel) (by decide +kernel)) (goodIn_sub (fun _ h => List.mem_cons_of_mem _ (List.mem_append_right _ h)) (by decide +kernel))
set_option maxRecDepth 20000 in
theorem gL_isAllSomewhere_X1_nextOf : GoodIn wsL_isAllSomewhere (wsV RL 51 RX1 yX1_nextOf wsX1_nextOf) := goodIn_app (goodIn_of _ (by decide +kernel)) ggL_isAllSomewhere_X1_nextOf
set_option maxRecDepth 20000 in
theorem ggL_isAllSomewhere_X1_inGoblet : GoodIn wsL_isAllSomewhere wsX1_inGoblet := goodIn_ca (goodIn_r _ [30, 31, 32, 4, 33, 34, 35, 11, 12, 13, 14, 15, 16, 17, 18, 6, 19, 20, 21, 22, 69, 70, 71, 72, 73, 74, 75] (by decide +kernel) (by decide +kernel)) (goodIn_sub (fun _ h => List.mem_cons_of_mem _ (List.mem_append_right _ h)) (by decide +kernel))
set_option maxRecDepth 20000 in
theorem gL_isAllSomewhere_X1_inGoblet : GoodIn wsL_isAllSomewhere (wsV RL 8 RX1 yX1_inGoblet wsX1_inGoblet) := goodIn_app (goodIn_of _ (by decide +kernel)) ggL_isAllSomewhere_X1_inGoblet
set_option maxRecDepth 20000 in
theorem ggL_isAllSomewhere_X1_rangesOf : GoodIn wsL_isAllSomewhere wsX1_rangesOf := goodIn_ca (goodIn_r _ [64, 31, 32, 4, 33, 34, 35, 65, 66, 67, 68, 6, 69, 70, 71, 72, 73, 74, 75] (by decide +kernel) (by decide +kernel)) (goodIn_sub (fun _ h => List.mem_cons_of_mem _ (List.mem_append_right _ h)) (by decide +kernel))
set_option maxRecDepth 20000 in
theorem gL_isAllSomewhere_X1_rangesOf : GoodIn wsL_isAllSomewhere (wsV RL 54 RX1 yX1_rangesOf wsX1_rangesOf) := goodIn_app (goodIn_of _ (by decide +kernel)) ggL_isAllSomewhere_X1_rangesOf
theorem dL_isAllSomewhere_0 : decode cL_isAllSomewhere 0 = .ok (.aload_n 0, 1) := by decide +kernel
theorem dL_isAllSomewhere_1 : decode cL_isAllSomewhere 1 = .ok (.invokevirtual 36, 3) := by decide +kernel
theorem dL_isAllSomewhere_4 : decode cL_isAllSomewhere 4 = .ok (.istore_n 1, 1) := by decide +kernel
theorem dL_isAllSomewhere_5 : decode cL_isAllSomewhere 5 = .ok (.aload_n 0, 1) := by decide +kernel
theorem dL_isAllSomewhere_6 : decode cL_isAllSomewhere 6 = .ok (.invokevirtual 33, 3) := by decide +kernel
theorem dL_isAllSomewhere_9 : decode cL_isAllSomewhere 9 = .ok (.aload_n 0, 1) := by decide +kernel
theorem dL_isAllSomewhere_10 : decode cL_isAllSomewhere 10 = .ok (.invokestatic 39, 3) := by decide +kernel
theorem dL_isAllSomewhere_13 : decode cL_isAllSomewhere 13 = .ok (.iadd, 1) := by decide +kernel
theorem dL_isAllSomewhere_14 : decode cL_isAllSomewhere 14 = .ok (.aload_n 0, 1) := by decide +kernel
theorem dL_isAllSomewhere_15 : decode cL_isAllSomewhere 15 = .ok (.invokevirtual 45, 3) := by decide +kernel
theorem dL_isAllSomewhere_18 : decode cL_isAllSomewhere 18 = .ok (.iadd, 1) := by decide +kernel
theorem dL_isAllSomewhere_19 : decode cL_isAllSomewhere 19 = .ok (.aload_n 0, 1) := by decide +kernel
theorem dL_isAllSomewhere_20 : decode cL_isAllSomewhere 20 = .ok (.invokevirtual 48, 3) := by decide +kernel
theorem dL_isAllSomewhere_23 : decode cL_isAllSomewhere 23 = .ok (.iadd, 1) := by decide +kernel
theorem dL_isAllSomewhere_24 : decode cL_isAllSomewhere 24 = .ok (.aload_n 0, 1) := by decide +kernel
theorem dL_isAllSomewhere_25 : decode cL_isAllSomewhere 25 = .ok (.invokevirtual 27, 3) := by decide +kernel
theorem dL_isAllSomewhere_28 : decode cL_isAllSomewhere 28 = .ok (.if_icmp .ne 58, 3) := by decide +kernel
theorem dL_isAllSomewhere_31 : decode cL_isAllSomewhere 31 = .ok (.iload_n 1, 1) := by decide +kernel
theorem dL_isAllSomewhere_32 : decode cL_isAllSomewhere 32 = .ok (.ifCond .ne 7, 3) := by decide +kernel
theorem dL_isAllSomewhere_35 : decode cL_isAllSomewhere 35 = .ok (.iconst 1, 1) := by decide +kernel
theorem dL_isAllSomewhere_36 : decode cL_isAllSomewhere 36 = .ok (.goto 4, 3) := by decide +kernel
theorem dL_isAllSomewhere_39 : decode cL_isAllSomewhere 39 = .ok (.iconst 0, 1) := by decide +kernel
theorem dL_isAllSomewhere_40 : decode cL_isAllSomewhere 40 = .ok (.aload_n 0, 1) := by decide +kernel
theorem dL_isAllSomewhere_41 : decode cL_isAllSomewhere 41 = .ok (.invokevirtual 45, 3) := by decide +kernel
theorem dL_isAllSomewhere_44 : decode cL_isAllSomewhere 44 = .ok (.aload_n 0, 1) := by decide +kernel
theorem dL_isAllSomewhere_45 : decode cL_isAllSomewhere 45 = .ok (.invokevirtual 27, 3) := by decide +kernel
theorem dL_isAllSomewhere_48 : decode cL_isAllSomewhere 48 = .ok (.if_icmp .ne 7, 3) := by decide +kernel
theorem dL_isAllSomewhere_51 : decode cL_isAllSomewhere 51 = .ok (.iconst 1, 1) := by decide +kernel
theorem dL_isAllSomewhere_52 : decode cL_isAllSomewhere 52 = .ok (.goto 4, 3) := by decide +kernel
theorem dL_isAllSomewhere_55 : decode cL_isAllSomewhere 55 = .ok (.iconst 0, 1) := by decide +kernel
theorem dL_isAllSomewhere_56 : decode cL_isAllSomewhere 56 = .ok (.if_icmp .ne 30, 3) := by decide +kernel
theorem dL_isAllSomewhere_59 : decode cL_isAllSomewhere 59 = .ok (.iload_n 1, 1) := by decide +kernel
theorem dL_isAllSomewhere_60 : decode cL_isAllSomewhere 60 = .ok (.ifCond .eq 13, 3) := by decide +kernel
theorem dL_isAllSomewhere_63 : decode cL_isAllSomewhere 63 = .ok (.aload_n 0, 1) := by decide +kernel
theorem dL_isAllSomewhere_64 : decode cL_isAllSomewhere 64 = .ok (.iload_n 1, 1) := by decide +kernel
theorem dL_isAllSomewhere_65 : decode cL_isAllSomewhere 65 = .ok (.invokevirtual 30, 3) := by decide +kernel
theorem dL_isAllSomewhere_68 : decode cL_isAllSomewhere 68 = .ok (.bipush 9, 2) := by decide +kernel
theorem dL_isAllSomewhere_70 : decode cL_isAllSomewhere 70 = .ok (.if_icmp .eq 16, 3) := by decide +kernel
theorem dL_isAllSomewhere_73 : decode cL_isAllSomewhere 73 = .ok (.aload_n 0, 1) := by decide +kernel
theorem dL_isAllSomewhere_74 : decode cL_isAllSomewhere 74 = .ok (.iconst 1, 1) := by decide +kernel
theorem dL_isAllSomewhere_75 : decode cL_isAllSomewhere 75 = .ok (.invokevirtual 30, 3) := by decide +kernel
theorem dL_isAllSomewhere_78 : decode cL_isAllSomewhere 78 = .ok (.iconst (-1), 1) := by decide +kernel
theorem dL_isAllSomewhere_79 : decode cL_isAllSomewhere 79 = .ok (.if_icmp .eq 7, 3) := by decide +kernel
theorem dL_isAllSomewhere_82 : decode cL_isAllSomewhere 82 = .ok (.iconst 1, 1) := by decide +kernel
theorem dL_isAllSomewhere_83 : decode cL_isAllSomewhere 83 = .ok (.goto 4, 3) := by decide +kernel
theorem dL_isAllSomewhere_86 : decode cL_isAllSomewhere 86 = .ok (.iconst 0, 1) := by decide +kernel
theorem dL_isAllSomewhere_87 : decode cL_isAllSomewhere 87 = .ok (.istore_n 2, 1) := by decide +kernel
theorem dL_isAllSomewhere_88 : decode cL_isAllSomewhere 88 = .ok (.iconst 0, 1) := by decide +kernel
theorem dL_isAllSomewhere_89 : decode cL_isAllSomewhere 89 = .ok (.istore_n 3, 1) := by decide +kernel
theorem dL_isAllSomewhere_90 : decode cL_isAllSomewhere 90 = .ok (.iload_n 3, 1) := by decide +kernel
theorem dL_isAllSomewhere_91 : decode cL_isAllSomewhere 91 = .ok (.bipush 8, 2) := by decide +kernel
theorem dL_isAllSomewhere_93 : decode cL_isAllSomewhere 93 = .ok (.if_icmp .ge 114, 3) := by decide +kernel
theorem dL_isAllSomewhere_96 : decode cL_isAllSomewhere 96 = .ok (.aload_n 0, 1) := by decide +kernel
theorem dL_isAllSomewhere_97 : decode cL_isAllSomewhere 97 = .ok (.iload_n 3, 1) := by decide +kernel
theorem dL_isAllSomewhere_98 : decode cL_isAllSomewhere 98 = .ok (.invokevirtual 51, 3) := by decide +kernel
theorem dL_isAllSomewhere_101 : decode cL_isAllSomewhere 101 = .ok (.istore 4, 2) := by decide +kernel
theorem dL_isAllSomewhere_103 : decode cL_isAllSomewhere 103 = .ok (.iload_n 2, 1) := by decide +kernel
theorem dL_isAllSomewhere_104 : decode cL_isAllSomewhere 104 = .ok (.ifCond .eq 95, 3) := by decide +kernel
theorem dL_isAllSomewhere_107 : decode cL_isAllSomewhere 107 = .ok (.aload_n 0, 1) := by decide +kernel
theorem dL_isAllSomewhere_108 : decode cL_isAllSomewhere 108 = .ok (.iload_n 3, 1) := by decide +kernel
theorem dL_isAllSomewhere_109 : decode cL_isAllSomewhere 109 = .ok (.invokevirtual 8, 3) := by decide +kernel
theorem dL_isAllSomewhere_112 : decode cL_isAllSomewhere 112 = .ok (.ifCond .ne 7, 3) := by decide +kernel
theorem dL_isAllSomewhere_115 : decode cL_isAllSomewhere 115 = .ok (.iconst 1, 1) := by decide +kernel
theorem dL_isAllSomewhere_116 : decode cL_isAllSomewhere 116 = .ok (.goto 4, 3) := by decide +kernel
theorem dL_isAllSomewhere_119 : decode cL_isAllSomewhere 119 = .ok (.iconst 0, 1) := by decide +kernel
theorem dL_isAllSomewhere_120 : decode cL_isAllSomewhere 120 = .ok (.aload_n 0, 1) := by decide +kernel
theorem dL_isAllSomewhere_121 : decode cL_isAllSomewhere 121 = .ok (.iload_n 3, 1) := by decide +kernel
theorem dL_isAllSomewhere_122 : decode cL_isAllSomewhere 122 = .ok (.invokevirtual 54, 3) := by decide +kernel
theorem dL_isAllSomewhere_125 : decode cL_isAllSomewhere 125 = .ok (.ifCond .ne 7, 3) := by decide +kernel
theorem dL_isAllSomewhere_128 : decode cL_isAllSomewhere 128 = .ok (.iconst 1, 1) := by decide +kernel
theorem dL_isAllSomewhere_129 : decode cL_isAllSomewhere 129 = .ok (.goto 4, 3) := by decide +kernel
theorem dL_isAllSomewhere_132 : decode cL_isAllSomewhere 132 = .ok (.iconst 0, 1) := by decide +kernel
theorem dL_isAllSomewhere_133 : decode cL_isAllSomewhere 133 = .ok (.if_icmp .ne 66, 3) := by decide +kernel
theorem dL_isAllSomewhere_136 : decode cL_isAllSomewhere 136 = .ok (.aload_n 0, 1) := by decide +kernel
theorem dL_isAllSomewhere_137 : decode cL_isAllSomewhere 137 = .ok (.iload_n 3, 1) := by decide +kernel
theorem dL_isAllSomewhere_138 : decode cL_isAllSomewhere 138 = .ok (.invokevirtual 54, 3) := by decide +kernel
theorem dL_isAllSomewhere_141 : decode cL_isAllSomewhere 141 = .ok (.aload_n 0, 1) := by decide +kernel
theorem dL_isAllSomewhere_142 : decode cL_isAllSomewhere 142 = .ok (.iload_n 3, 1) := by decide +kernel
theorem dL_isAllSomewhere_143 : decode cL_isAllSomewhere 143 = .ok (.invokevirtual 8, 3) := by decide +kernel
theorem dL_isAllSomewhere_146 : decode cL_isAllSomewhere 146 = .ok (.if_icmp .gt 53, 3) := by decide +kernel
theorem dL_isAllSomewhere_149 : decode cL_isAllSomewhere 149 = .ok (.iload 4, 2) := by decide +kernel
theorem dL_isAllSomewhere_151 : decode cL_isAllSomewhere 151 = .ok (.ifCond .ne 21, 3) := by decide +kernel
theorem dL_isAllSomewhere_154 : decode cL_isAllSomewhere 154 = .ok (.aload_n 0, 1) := by decide +kernel
theorem dL_isAllSomewhere_155 : decode cL_isAllSomewhere 155 = .ok (.invokevirtual 33, 3) := by decide +kernel
theorem dL_isAllSomewhere_158 : decode cL_isAllSomewhere 158 = .ok (.ifCond .ne 41, 3) := by decide +kernel
theorem dL_isAllSomewhere_161 : decode cL_isAllSomewhere 161 = .ok (.aload_n 0, 1) := by decide +kernel
theorem dL_isAllSomewhere_162 : decode cL_isAllSomewhere 162 = .ok (.iload_n 3, 1) := by decide +kernel
theorem dL_isAllSomewhere_163 : decode cL_isAllSomewhere 163 = .ok (.invokevirtual 8, 3) := by decide +kernel
theorem dL_isAllSomewhere_166 : decode cL_isAllSomewhere 166 = .ok (.ifCond .ne 33, 3) := by decide +kernel
theorem dL_isAllSomewhere_169 : decode cL_isAllSomewhere 169 = .ok (.goto 26, 3) := by decide +kernel
theorem dL_isAllSomewhere_172 : decode cL_isAllSomewhere 172 = .ok (.aload_n 0, 1) := by decide +kernel
theorem dL_isAllSomewhere_173 : decode cL_isAllSomewhere 173 = .ok (.iload 4, 2) := by decide +kernel
theorem dL_isAllSomewhere_175 : decode cL_isAllSomewhere 175 = .ok (.invokevirtual 30, 3) := by decide +kernel
theorem dL_isAllSomewhere_178 : decode cL_isAllSomewhere 178 = .ok (.aload_n 0, 1) := by decide +kernel
theorem dL_isAllSomewhere_179 : decode cL_isAllSomewhere 179 = .ok (.iload_n 3, 1) := by decide +kernel
theorem dL_isAllSomewhere_180 : decode cL_isAllSomewhere 180 = .ok (.invokevirtual 8, 3) := by decide +kernel
theorem dL_isAllSomewhere_183 : decode cL_isAllSomewhere 183 = .ok (.ifCond .ne 8, 3) := by decide +kernel
theorem dL_isAllSomewhere_186 : decode cL_isAllSomewhere 186 = .ok (.bipush 8, 2) := by decide +kernel
theorem dL_isAllSomewhere_188 : decode cL_isAllSomewhere 188 = .ok (.goto 4, 3) := by decide +kernel
theorem dL_isAllSomewhere_191 : decode cL_isAllSomewhere 191 = .ok (.iload_n 3, 1) := by decide +kernel
theorem dL_isAllSomewhere_192 : decode cL_isAllSomewhere 192 = .ok (.if_icmp .ne 7, 3) := by decide +kernel
theorem dL_isAllSomewhere_195 : decode cL_isAllSomewhere 195 = .ok (.iconst 1, 1) := by decide +kernel
theorem dL_isAllSomewhere_196 : decode cL_isAllSomewhere 196 = .ok (.goto 4, 3) := by decide +kernel
theorem dL_isAllSomewhere_199 : decode cL_isAllSomewhere 199 = .ok (.iconst 0, 1) := by decide +kernel
theorem dL_isAllSomewhere_200 : decode cL_isAllSomewhere 200 = .ok (.istore_n 2, 1) := by decide +kernel
theorem dL_isAllSomewhere_201 : decode cL_isAllSomewhere 201 = .ok (.iinc 3 1, 3) := by decide +kernel
theorem dL_isAllSomewhere_204 : decode cL_isAllSomewhere 204 = .ok (.goto (-114), 3) := by decide +kernel
theorem dL_isAllSomewhere_207 : decode cL_isAllSomewhere 207 = .ok (.iload_n 2, 1) := by decide +kernel
theorem dL_isAllSomewhere_208 : decode cL_isAllSomewhere 208 = .ok (.ireturn, 1) := by decide +kernel
set_option maxRecDepth 20000 in
theorem ggL_isThereAndBack_X1_inGoblet : GoodIn wsL_isThereAndBack wsX1_inGoblet := goodIn_ca (goodIn_r _ [5, 6, 7, 4, 8, 9, 10, 11, 12, 13, 14, 15, 16, 17, 18, 19, 20, 21, 22, 23, 110, 111, 112, 113, 114, 115, 116] (by decide +kernel) (by decide +kernel)) (goodIn_sub (fun _ h => List.mem_cons_of_mem _ (List.mem_append_left _ (List.mem_append_left _ (List.mem_append_right _ h)))) (by decide +kernel))
set_option maxRecDepth 20000 in
theorem gL_isThereAndBack_X1_inGoblet : GoodIn wsL_isThereAndBack (wsV RL 8 RX1 yX1_inGoblet wsX1_inGoblet) := goodIn_app (goodIn_of _ (by decide +kernel)) ggL_isThereAndBack_X1_inGoblet
set_option maxRecDepth 20000 in
theorem ggL_isThereAndBack_X1_inJug : GoodIn wsL_isThereAndBack wsX1_inJug := goodIn_r _ [27, 11, 12, 13, 4, 14, 15, 16, 17, 18, 19, 20, 21, 22, 23, 110, 111, 112, 113, 114, 115, 116] (by decide +kernel) (by decide +kernel)
set_option maxRecDepth 20000 in
theorem gL_isThereAndBack_X1_inJug : GoodIn wsL_isThereAndBack (wsV RL 33 RX1 yX1_inJug wsX1_inJug) := goodIn_app (goodIn_of _ (by decide +kernel)) ggL_isThereAndBack_X1_inJug
set_option maxRecDepth 20000 in
theorem ggL_isThereAndBack_X1_ranges : GoodIn wsL_isThereAndBack wsX1_ranges := goodIn_r _ [31, 32, 33, 34, 4, 35, 19, 110, 111, 112, 113, 114, 115, 116] (by decide +kernel) (by decide +kernel)
set_option maxRecDepth 20000 in
theorem gL_isThereAndBack_X1_ranges : GoodIn wsL_isThereAndBack (wsV RL 24 RX1 yX1_ranges wsX1_ranges) := goodIn_app (goodIn_of _ (by decide +kernel)) ggL_isThereAndBack_X1_ranges
set_option maxRecDepth 20000 in
theorem ggL_isThereAndBack_X1_rangeFrom : GoodIn wsL_isThereAndBack wsX1_rangeFrom := goodIn_ca (goodIn_r _ [39, 9, 10, 40, 41, 42, 4, 43, 19, 113, 114, 115, 116, 110, 111, 112] (by decide +kernel) (by decide +kernel)) (goodIn_sub (fun _ h => List.mem_cons_of_mem _ (List.mem_append_left _ (List.mem_append_left _ (List.mem_append_right _ h)))) (by decide +kernel))
set_option maxRecDepth 20000 in
theorem gL_isThereAndBack_X1_rangeFrom : GoodIn wsL_isThereAndBack (wsV RL 21 RX1 yX1_rangeFrom wsX1_rangeFrom) := goodIn_app (goodIn_of _ (by decide +kernel)) ggL_isThereAndBack_X1_rangeFrom
set_option maxRecDepth 20000 in
theorem ggL_isThereAndBack_X1_longestRange : GoodIn wsL_isThereAndBack wsX1_longestRange := goodIn_r _ [47, 19, 48, 49, 50, 51, 52, 53, 110, 111, 112, 113, 114, 115, 116] (by decide +kernel) (by decide +kernel)
set_option maxRecDepth 20000 in
theorem gL_isThereAndBack_X1_longestRange : GoodIn wsL_isThereAndBack (wsV RL 14 RX1 yX1_longestRange wsX1_longestRange) := goodIn_app (goodIn_of _ (by decide +kernel)) ggL_isThereAndBack_X1_longestRange
set_option maxRecDepth 20000 in
theorem ggL_isThereAndBack_X1_pour : GoodIn wsL_isThereAndBack wsX1_pour := goodIn_ca (goodIn_ca (goodIn_ca (goodIn_r _ [57, 58, 59, 6, 7, 4, 8, 9, 10, 60, 61, 62, 63, 64, 65, 66, 67, 68, 19, 69, 70, 71, 72, 73, 49, 74, 75, 53, 76, 77, 52, 78, 79, 80, 48, 50, 51, 81, 82, 83, 84, 85, 86, 87, 88, 89, 90, 91, 92, 93, 110, 111, 112, 113, 114, 115, 116] (by decide +kernel) (by decide +kernel)) (goodIn_sub (fun _ h => List.mem_cons_of_mem _ (List.mem_append_left _ (List.mem_append_right _ h))) (by decide +kernel))) (goodIn_sub (fun _ h => List.mem_cons_of_mem _ (List.mem_append_left _ (List.mem_append_left _ (List.mem_append_right _ h)))) (by decide +kernel))) (goodIn_sub (fun _ h => List.mem_cons_of_mem _ (List.mem_append_right _ h)) (by decide +kernel))
set_option maxRecDepth 20000 in
theorem gL_isThereAndBack_X1_pour : GoodIn wsL_isThereAndBack (wsV RL 57 RX1 yX1_pour wsX1_pour) := goodIn_app (goodIn_of _ (by decide +kernel)) ggL_isThereAndBack_X1_pour
set_option maxRecDepth 20000 in
theorem ggL_isThereAndBack_X1_nextOf : GoodIn wsL_isThereAndBack wsX1_nextOf := goodIn_ca (goodIn_r _ [97, 6, 7, 4, 8, 9, 10, 65, 66, 67, 68, 19, 110, 111, 112, 113, 114, 115, 116] (by decide +kernel) (by decide +kernel)) (goodIn_sub (fun _ h => List.mem_cons_of_mem _ (List.mem_append_left _ (List.mem_append_left _ (List.mem_append_right _ h)))) (by decide +kernel))
set_option maxRecDepth 20000 in
theorem gL_isThereAndBack_X1_nextOf : GoodIn wsL_isThereAndBack (wsV RL 51 RX1 yX1_nextOf wsX1_nextOf) := goodIn_app (goodIn_of _ (by decide +kernel)) ggL_isThereAndBack_X1_nextOf
set_option maxRecDepth 20000 in
theorem ggL_isThereAndBack_X1_rangesOf : GoodIn wsL_isThereAndBack wsX1_rangesOf := goodIn_ca (goodIn_r _ [101, 6, 7, 4, 8, 9, 10, 32, 33, 34, 35, 19, 110, 111, 112, 113, 114, 115, 116] (by decide +kernel) (by decide +kernel)) (goodIn_sub (fun _ h => List.mem_cons_of_mem _ (List.mem_append_left _ (List.mem_append_left _ (List.mem_append_right _ h)))) (by decide +kernel))
set_option maxRecDepth 20000 in
theorem gL_isThereAndBack_X1_rangesOf : GoodIn wsL_isThereAndBack (wsV RL 54 RX1 yX1_rangesOf wsX1_rangesOf) := goodIn_app (goodIn_of _ (by decide +kernel)) ggL_isThereAndBack_X1_rangesOf
set_option maxRecDepth 20000 in
theorem ggL_isThereAndBack_X1_pourBack : GoodIn wsL_isThereAndBack wsX1_pourBack := goodIn_ca (goodIn_r _ [105, 6, 7, 4, 8, 9, 10, 106, 107, 108, 109, 69, 70, 71, 72, 19, 73, 49, 74, 75, 53, 76, 77, 52, 78, 79, 80, 48, 50, 51, 81, 82, 83, 84, 85, 86, 87, 88, 89, 90, 91, 92, 93, 110, 111, 112, 113, 114, 115, 116] (by decide +kernel) (by decide +kernel)) (goodIn_sub (fun _ h => List.mem_cons_of_mem _ (List.mem_append_left _ (List.mem_append_left _ (List.mem_append_right _ h)))) (by decide +kernel))
set_option maxRecDepth 20000 in
theorem gL_isThereAndBack_X1_pourBack : GoodIn wsL_isThereAndBack (wsV RL 61 RX1 yX1_pourBack wsX1_pourBack) := goodIn_app (goodIn_of _ (by decide +kernel)) ggL_isThereAndBack_X1_pourBack
theorem dL_isThereAndBack_0 : decode cL_isThereAndBack 0 = .ok (.aload_n 0, 1) := by decide +kernel
theorem dL_isThereAndBack_1 : decode cL_isThereAndBack 1 = .ok (.iload_n 1, 1) := by decide +kernel
theorem dL_isThereAndBack_2 : decode cL_isThereAndBack 2 = .ok (.invokevirtual 8, 3) := by decide +kernel
theorem dL_isThereAndBack_5 : decode cL_isThereAndBack 5 = .ok (.ifCond .gt 10, 3) := by decide +kernel
theorem dL_isThereAndBack_8 : decode cL_isThereAndBack 8 = .ok (.aload_n 0, 1) := by decide +kernel
theorem dL_isThereAndBack_9 : decode cL_isThereAndBack 9 = .ok (.invokevirtual 33, 3) := by decide +kernel
theorem dL_isThereAndBack_12 : decode cL_isThereAndBack 12 = .ok (.ifCond .ne 5, 3) := by decide +kernel
theorem dL_isThereAndBack_15 : decode cL_isThereAndBack 15 = .ok (.iconst 1, 1) := by decide +kernel
theorem dL_isThereAndBack_16 : decode cL_isThereAndBack 16 = .ok (.ireturn, 1) := by decide +kernel
theorem dL_isThereAndBack_17 : decode cL_isThereAndBack 17 = .ok (.aload_n 0, 1) := by decide +kernel
theorem dL_isThereAndBack_18 : decode cL_isThereAndBack 18 = .ok (.invokevirtual 33, 3) := by decide +kernel
theorem dL_isThereAndBack_21 : decode cL_isThereAndBack 21 = .ok (.istore_n 3, 1) := by decide +kernel
theorem dL_isThereAndBack_22 : decode cL_isThereAndBack 22 = .ok (.aload_n 0, 1) := by decide +kernel
theorem dL_isThereAndBack_23 : decode cL_isThereAndBack 23 = .ok (.invokevirtual 24, 3) := by decide +kernel
theorem dL_isThereAndBack_26 : decode cL_isThereAndBack 26 = .ok (.istore 4, 2) := by decide +kernel
theorem dL_isThereAndBack_28 : decode cL_isThereAndBack 28 = .ok (.aload_n 0, 1) := by decide +kernel
theorem dL_isThereAndBack_29 : decode cL_isThereAndBack 29 = .ok (.iconst 0, 1) := by decide +kernel
theorem dL_isThereAndBack_30 : decode cL_isThereAndBack 30 = .ok (.invokevirtual 21, 3) := by decide +kernel
theorem dL_isThereAndBack_33 : decode cL_isThereAndBack 33 = .ok (.istore 5, 2) := by decide +kernel
theorem dL_isThereAndBack_35 : decode cL_isThereAndBack 35 = .ok (.aload_n 0, 1) := by decide +kernel
theorem dL_isThereAndBack_36 : decode cL_isThereAndBack 36 = .ok (.invokevirtual 14, 3) := by decide +kernel
theorem dL_isThereAndBack_39 : decode cL_isThereAndBack 39 = .ok (.istore 6, 2) := by decide +kernel
theorem dL_isThereAndBack_41 : decode cL_isThereAndBack 41 = .ok (.aload_n 0, 1) := by decide +kernel
theorem dL_isThereAndBack_42 : decode cL_isThereAndBack 42 = .ok (.iload_n 1, 1) := by decide +kernel
theorem dL_isThereAndBack_43 : decode cL_isThereAndBack 43 = .ok (.iload_n 2, 1) := by decide +kernel
theorem dL_isThereAndBack_44 : decode cL_isThereAndBack 44 = .ok (.invokevirtual 57, 3) := by decide +kernel
theorem dL_isThereAndBack_47 : decode cL_isThereAndBack 47 = .ok (.istore 7, 2) := by decide +kernel
theorem dL_isThereAndBack_49 : decode cL_isThereAndBack 49 = .ok (.iload 7, 2) := by decide +kernel
theorem dL_isThereAndBack_51 : decode cL_isThereAndBack 51 = .ok (.iload_n 2, 1) := by decide +kernel
theorem dL_isThereAndBack_52 : decode cL_isThereAndBack 52 = .ok (.iload_n 3, 1) := by decide +kernel
theorem dL_isThereAndBack_53 : decode cL_isThereAndBack 53 = .ok (.if_icmp .ge 7, 3) := by decide +kernel
theorem dL_isThereAndBack_56 : decode cL_isThereAndBack 56 = .ok (.iload_n 2, 1) := by decide +kernel
theorem dL_isThereAndBack_57 : decode cL_isThereAndBack 57 = .ok (.goto 4, 3) := by decide +kernel
theorem dL_isThereAndBack_60 : decode cL_isThereAndBack 60 = .ok (.iload_n 3, 1) := by decide +kernel
theorem dL_isThereAndBack_61 : decode cL_isThereAndBack 61 = .ok (.if_icmp .ne 60, 3) := by decide +kernel
theorem dL_isThereAndBack_64 : decode cL_isThereAndBack 64 = .ok (.aload_n 0, 1) := by decide +kernel
theorem dL_isThereAndBack_65 : decode cL_isThereAndBack 65 = .ok (.iload_n 1, 1) := by decide +kernel
theorem dL_isThereAndBack_66 : decode cL_isThereAndBack 66 = .ok (.invokevirtual 51, 3) := by decide +kernel
theorem dL_isThereAndBack_69 : decode cL_isThereAndBack 69 = .ok (.iload 5, 2) := by decide +kernel
theorem dL_isThereAndBack_71 : decode cL_isThereAndBack 71 = .ok (.if_icmp .ne 50, 3) := by decide +kernel
theorem dL_isThereAndBack_74 : decode cL_isThereAndBack 74 = .ok (.aload_n 0, 1) := by decide +kernel
theorem dL_isThereAndBack_75 : decode cL_isThereAndBack 75 = .ok (.invokevirtual 33, 3) := by decide +kernel
theorem dL_isThereAndBack_78 : decode cL_isThereAndBack 78 = .ok (.iload_n 3, 1) := by decide +kernel
theorem dL_isThereAndBack_79 : decode cL_isThereAndBack 79 = .ok (.iload 7, 2) := by decide +kernel
theorem dL_isThereAndBack_81 : decode cL_isThereAndBack 81 = .ok (.isub, 1) := by decide +kernel
theorem dL_isThereAndBack_82 : decode cL_isThereAndBack 82 = .ok (.if_icmp .ne 39, 3) := by decide +kernel
theorem dL_isThereAndBack_85 : decode cL_isThereAndBack 85 = .ok (.aload_n 0, 1) := by decide +kernel
theorem dL_isThereAndBack_86 : decode cL_isThereAndBack 86 = .ok (.iload_n 1, 1) := by decide +kernel
theorem dL_isThereAndBack_87 : decode cL_isThereAndBack 87 = .ok (.invokevirtual 54, 3) := by decide +kernel
theorem dL_isThereAndBack_90 : decode cL_isThereAndBack 90 = .ok (.aload_n 0, 1) := by decide +kernel
theorem dL_isThereAndBack_91 : decode cL_isThereAndBack 91 = .ok (.invokevirtual 24, 3) := by decide +kernel
theorem dL_isThereAndBack_94 : decode cL_isThereAndBack 94 = .ok (.iadd, 1) := by decide +kernel
theorem dL_isThereAndBack_95 : decode cL_isThereAndBack 95 = .ok (.iload 4, 2) := by decide +kernel
theorem dL_isThereAndBack_97 : decode cL_isThereAndBack 97 = .ok (.if_icmp .lt 24, 3) := by decide +kernel
theorem dL_isThereAndBack_100 : decode cL_isThereAndBack 100 = .ok (.aload_n 0, 1) := by decide +kernel
theorem dL_isThereAndBack_101 : decode cL_isThereAndBack 101 = .ok (.iload_n 1, 1) := by decide +kernel
theorem dL_isThereAndBack_102 : decode cL_isThereAndBack 102 = .ok (.invokevirtual 54, 3) := by decide +kernel
theorem dL_isThereAndBack_105 : decode cL_isThereAndBack 105 = .ok (.aload_n 0, 1) := by decide +kernel
theorem dL_isThereAndBack_106 : decode cL_isThereAndBack 106 = .ok (.invokevirtual 24, 3) := by decide +kernel
theorem dL_isThereAndBack_109 : decode cL_isThereAndBack 109 = .ok (.iadd, 1) := by decide +kernel
theorem dL_isThereAndBack_110 : decode cL_isThereAndBack 110 = .ok (.iload 4, 2) := by decide +kernel
theorem dL_isThereAndBack_112 : decode cL_isThereAndBack 112 = .ok (.iconst 1, 1) := by decide +kernel
theorem dL_isThereAndBack_113 : decode cL_isThereAndBack 113 = .ok (.iadd, 1) := by decide +kernel
theorem dL_isThereAndBack_114 : decode cL_isThereAndBack 114 = .ok (.if_icmp .gt 7, 3) := by decide +kernel
theorem dL_isThereAndBack_117 : decode cL_isThereAndBack 117 = .ok (.iconst 1, 1) := by decide +kernel
theorem dL_isThereAndBack_118 : decode cL_isThereAndBack 118 = .ok (.goto 4, 3) := by decide +kernel
theorem dL_isThereAndBack_121 : decode cL_isThereAndBack 121 = .ok (.iconst 0, 1) := by decide +kernel
theorem dL_isThereAndBack_122 : decode cL_isThereAndBack 122 = .ok (.istore 8, 2) := by decide +kernel
theorem dL_isThereAndBack_124 : decode cL_isThereAndBack 124 = .ok (.iload 8, 2) := by decide +kernel
theorem dL_isThereAndBack_126 : decode cL_isThereAndBack 126 = .ok (.ifCond .eq 53, 3) := by decide +kernel
theorem dL_isThereAndBack_129 : decode cL_isThereAndBack 129 = .ok (.aload_n 0, 1) := by decide +kernel
theorem dL_isThereAndBack_130 : decode cL_isThereAndBack 130 = .ok (.iload_n 1, 1) := by decide +kernel
theorem dL_isThereAndBack_131 : decode cL_isThereAndBack 131 = .ok (.invokevirtual 61, 3) := by decide +kernel
theorem dL_isThereAndBack_134 : decode cL_isThereAndBack 134 = .ok (.iload 7, 2) := by decide +kernel
theorem dL_isThereAndBack_136 : decode cL_isThereAndBack 136 = .ok (.if_icmp .ne 43, 3) := by decide +kernel
theorem dL_isThereAndBack_139 : decode cL_isThereAndBack 139 = .ok (.aload_n 0, 1) := by decide +kernel
theorem dL_isThereAndBack_140 : decode cL_isThereAndBack 140 = .ok (.invokevirtual 33, 3) := by decide +kernel
theorem dL_isThereAndBack_143 : decode cL_isThereAndBack 143 = .ok (.iload_n 3, 1) := by decide +kernel
theorem dL_isThereAndBack_144 : decode cL_isThereAndBack 144 = .ok (.if_icmp .ne 35, 3) := by decide +kernel
theorem dL_isThereAndBack_147 : decode cL_isThereAndBack 147 = .ok (.aload_n 0, 1) := by decide +kernel
theorem dL_isThereAndBack_148 : decode cL_isThereAndBack 148 = .ok (.invokevirtual 24, 3) := by decide +kernel
theorem dL_isThereAndBack_151 : decode cL_isThereAndBack 151 = .ok (.iload 4, 2) := by decide +kernel
theorem dL_isThereAndBack_153 : decode cL_isThereAndBack 153 = .ok (.if_icmp .ne 26, 3) := by decide +kernel
theorem dL_isThereAndBack_156 : decode cL_isThereAndBack 156 = .ok (.aload_n 0, 1) := by decide +kernel
theorem dL_isThereAndBack_157 : decode cL_isThereAndBack 157 = .ok (.iconst 0, 1) := by decide +kernel
theorem dL_isThereAndBack_158 : decode cL_isThereAndBack 158 = .ok (.invokevirtual 21, 3) := by decide +kernel
theorem dL_isThereAndBack_161 : decode cL_isThereAndBack 161 = .ok (.iload 5, 2) := by decide +kernel
theorem dL_isThereAndBack_163 : decode cL_isThereAndBack 163 = .ok (.if_icmp .ne 16, 3) := by decide +kernel
theorem dL_isThereAndBack_166 : decode cL_isThereAndBack 166 = .ok (.aload_n 0, 1) := by decide +kernel
theorem dL_isThereAndBack_167 : decode cL_isThereAndBack 167 = .ok (.invokevirtual 14, 3) := by decide +kernel
theorem dL_isThereAndBack_170 : decode cL_isThereAndBack 170 = .ok (.iload 6, 2) := by decide +kernel
theorem dL_isThereAndBack_172 : decode cL_isThereAndBack 172 = .ok (.if_icmp .ne 7, 3) := by decide +kernel
theorem dL_isThereAndBack_175 : decode cL_isThereAndBack 175 = .ok (.iconst 1, 1) := by decide +kernel
theorem dL_isThereAndBack_176 : decode cL_isThereAndBack 176 = .ok (.goto 4, 3) := by decide +kernel
theorem dL_isThereAndBack_179 : decode cL_isThereAndBack 179 = .ok (.iconst 0, 1) := by decide +kernel
theorem dL_isThereAndBack_180 : decode cL_isThereAndBack 180 = .ok (.ireturn, 1) := by decide +kernel
set_option maxRecDepth 20000 in
theorem ggL_isTakenBack_X1_nextOf : GoodIn wsL_isTakenBack wsX1_nextOf := goodIn_ca (goodIn_r _ [5, 6, 7, 4, 8, 9, 10, 11, 12, 13, 14, 15, 82, 83, 84, 85, 86, 87, 88] (by decide +kernel) (by decide +kernel)) (goodIn_sub (fun _ h => List.mem_cons_of_mem _ (List.mem_append_left _ (List.mem_append_right _ h))) (by decide +kernel))
set_option maxRecDepth 20000 in
theorem gL_isTakenBack_X1_nextOf : GoodIn wsL_isTakenBack (wsV RL 51 RX1 yX1_nextOf wsX1_nextOf) := goodIn_app (goodIn_of _ (by decide +kernel)) ggL_isTakenBack_X1_nextOf
set_option maxRecDepth 20000 in
theorem ggL_isTakenBack_X1_placeOf : GoodIn wsL_isTakenBack wsX1_placeOf := goodIn_r _ [19, 15, 82, 83, 84, 85, 86, 87, 88] (by decide +kernel) (by decide +kernel)
set_option maxRecDepth 20000 in
theorem gL_isTakenBack_X1_placeOf : GoodIn wsL_isTakenBack (wsV RL 30 RX1 yX1_placeOf wsX1_placeOf) := goodIn_app (goodIn_of _ (by decide +kernel)) ggL_isTakenBack_X1_placeOf
set_option maxRecDepth 20000 in
theorem ggL_isTakenBack_X1_inJug : GoodIn wsL_isTakenBack wsX1_inJug := goodIn_r _ [23, 24, 25, 26, 4, 27, 28, 29, 30, 31, 15, 32, 33, 34, 35, 82, 83, 84, 85, 86, 87, 88] (by decide +kernel) (by decide +kernel)
set_option maxRecDepth 20000 in
theorem gL_isTakenBack_X1_inJug : GoodIn wsL_isTakenBack (wsV RL 33 RX1 yX1_inJug wsX1_inJug) := goodIn_app (goodIn_of _ (by decide +kernel)) ggL_isTakenBack_X1_inJug
set_option maxRecDepth 20000 in
theorem ggL_isTakenBack_X1_drunk : GoodIn wsL_isTakenBack wsX1_drunk := goodIn_r _ [39, 24, 25, 26, 4, 27, 28, 29, 30, 31, 15, 32, 33, 34, 35, 82, 83, 84, 85, 86, 87, 88] (by decide +kernel) (by decide +kernel)
set_option maxRecDepth 20000 in
theorem gL_isTakenBack_X1_drunk : GoodIn wsL_isTakenBack (wsV RL 45 RX1 yX1_drunk wsX1_drunk) := goodIn_app (goodIn_of _ (by decide +kernel)) ggL_isTakenBack_X1_drunk
set_option maxRecDepth 20000 in
theorem ggL_isTakenBack_X1_drink : GoodIn wsL_isTakenBack wsX1_drink := goodIn_ca (goodIn_ca (goodIn_r _ [43, 44, 45, 6, 7, 4, 8, 9, 10, 11, 12, 13, 14, 15, 46, 47, 48, 49, 50, 51, 52, 53, 54, 55, 56, 57, 58, 59, 60, 61, 62, 63, 64, 65, 66, 67, 68, 69, 70, 71, 72, 73, 74, 75, 76, 82, 83, 84, 85, 86, 87, 88] (by decide +kernel) (by decide +kernel)) (goodIn_sub (fun _ h => List.mem_cons_of_mem _ (List.mem_append_right _ h)) (by decide +kernel))) (goodIn_sub (fun _ h => List.mem_cons_of_mem _ (List.mem_append_left _ (List.mem_append_right _ h))) (by decide +kernel))
set_option maxRecDepth 20000 in
theorem gL_isTakenBack_X1_drink : GoodIn wsL_isTakenBack (wsV RL 64 RX1 yX1_drink wsX1_drink) := goodIn_app (goodIn_of _ (by decide +kernel)) ggL_isTakenBack_X1_drink
set_option maxRecDepth 20000 in
theorem ggL_isTakenBack_X1_giveBack : GoodIn wsL_isTakenBack wsX1_giveBack := goodIn_ca (goodIn_r _ [80, 44, 45, 81, 17, 18, 4, 19, 15, 28, 29, 30, 31, 32, 33, 34, 35, 46, 47, 48, 49, 50, 51, 52, 53, 54, 55, 56, 57, 58, 59, 60, 61, 62, 63, 64, 65, 66, 67, 68, 69, 70, 71, 72, 73, 74, 75, 76, 24, 25, 26, 27, 82, 83, 84, 85, 86, 87, 88] (by decide +kernel) (by decide +kernel)) (goodIn_sub (fun _ h => List.mem_cons_of_mem _ (List.mem_append_right _ h)) (by decide +kernel))
set_option maxRecDepth 20000 in
theorem gL_isTakenBack_X1_giveBack : GoodIn wsL_isTakenBack (wsV RL 67 RX1 yX1_giveBack wsX1_giveBack) := goodIn_app (goodIn_of _ (by decide +kernel)) ggL_isTakenBack_X1_giveBack
theorem dL_isTakenBack_0 : decode cL_isTakenBack 0 = .ok (.aload_n 0, 1) := by decide +kernel
theorem dL_isTakenBack_1 : decode cL_isTakenBack 1 = .ok (.iload_n 1, 1) := by decide +kernel
theorem dL_isTakenBack_2 : decode cL_isTakenBack 2 = .ok (.invokevirtual 51, 3) := by decide +kernel
theorem dL_isTakenBack_5 : decode cL_isTakenBack 5 = .ok (.istore_n 2, 1) := by decide +kernel
theorem dL_isTakenBack_6 : decode cL_isTakenBack 6 = .ok (.iload_n 2, 1) := by decide +kernel
theorem dL_isTakenBack_7 : decode cL_isTakenBack 7 = .ok (.ifCond .ne 5, 3) := by decide +kernel
theorem dL_isTakenBack_10 : decode cL_isTakenBack 10 = .ok (.iconst 1, 1) := by decide +kernel
theorem dL_isTakenBack_11 : decode cL_isTakenBack 11 = .ok (.ireturn, 1) := by decide +kernel
theorem dL_isTakenBack_12 : decode cL_isTakenBack 12 = .ok (.aload_n 0, 1) := by decide +kernel
theorem dL_isTakenBack_13 : decode cL_isTakenBack 13 = .ok (.iload_n 2, 1) := by decide +kernel
theorem dL_isTakenBack_14 : decode cL_isTakenBack 14 = .ok (.invokevirtual 30, 3) := by decide +kernel
theorem dL_isTakenBack_17 : decode cL_isTakenBack 17 = .ok (.istore_n 3, 1) := by decide +kernel
theorem dL_isTakenBack_18 : decode cL_isTakenBack 18 = .ok (.aload_n 0, 1) := by decide +kernel
theorem dL_isTakenBack_19 : decode cL_isTakenBack 19 = .ok (.invokevirtual 33, 3) := by decide +kernel
theorem dL_isTakenBack_22 : decode cL_isTakenBack 22 = .ok (.istore 4, 2) := by decide +kernel
theorem dL_isTakenBack_24 : decode cL_isTakenBack 24 = .ok (.aload_n 0, 1) := by decide +kernel
theorem dL_isTakenBack_25 : decode cL_isTakenBack 25 = .ok (.invokevirtual 45, 3) := by decide +kernel
theorem dL_isTakenBack_28 : decode cL_isTakenBack 28 = .ok (.istore 5, 2) := by decide +kernel
theorem dL_isTakenBack_30 : decode cL_isTakenBack 30 = .ok (.aload_n 0, 1) := by decide +kernel
theorem dL_isTakenBack_31 : decode cL_isTakenBack 31 = .ok (.iload_n 1, 1) := by decide +kernel
theorem dL_isTakenBack_32 : decode cL_isTakenBack 32 = .ok (.invokevirtual 64, 3) := by decide +kernel
theorem dL_isTakenBack_35 : decode cL_isTakenBack 35 = .ok (.iload_n 2, 1) := by decide +kernel
theorem dL_isTakenBack_36 : decode cL_isTakenBack 36 = .ok (.if_icmp .ne 69, 3) := by decide +kernel
theorem dL_isTakenBack_39 : decode cL_isTakenBack 39 = .ok (.aload_n 0, 1) := by decide +kernel
theorem dL_isTakenBack_40 : decode cL_isTakenBack 40 = .ok (.iload_n 2, 1) := by decide +kernel
theorem dL_isTakenBack_41 : decode cL_isTakenBack 41 = .ok (.invokevirtual 30, 3) := by decide +kernel
theorem dL_isTakenBack_44 : decode cL_isTakenBack 44 = .ok (.bipush 9, 2) := by decide +kernel
theorem dL_isTakenBack_46 : decode cL_isTakenBack 46 = .ok (.if_icmp .ne 59, 3) := by decide +kernel
theorem dL_isTakenBack_49 : decode cL_isTakenBack 49 = .ok (.aload_n 0, 1) := by decide +kernel
theorem dL_isTakenBack_50 : decode cL_isTakenBack 50 = .ok (.invokevirtual 45, 3) := by decide +kernel
theorem dL_isTakenBack_53 : decode cL_isTakenBack 53 = .ok (.iload 5, 2) := by decide +kernel
theorem dL_isTakenBack_55 : decode cL_isTakenBack 55 = .ok (.iconst 1, 1) := by decide +kernel
theorem dL_isTakenBack_56 : decode cL_isTakenBack 56 = .ok (.iadd, 1) := by decide +kernel
theorem dL_isTakenBack_57 : decode cL_isTakenBack 57 = .ok (.if_icmp .ne 48, 3) := by decide +kernel
theorem dL_isTakenBack_60 : decode cL_isTakenBack 60 = .ok (.aload_n 0, 1) := by decide +kernel
theorem dL_isTakenBack_61 : decode cL_isTakenBack 61 = .ok (.iload_n 2, 1) := by decide +kernel
theorem dL_isTakenBack_62 : decode cL_isTakenBack 62 = .ok (.invokevirtual 67, 3) := by decide +kernel
theorem dL_isTakenBack_65 : decode cL_isTakenBack 65 = .ok (.iload 4, 2) := by decide +kernel
theorem dL_isTakenBack_67 : decode cL_isTakenBack 67 = .ok (.iload_n 3, 1) := by decide +kernel
theorem dL_isTakenBack_68 : decode cL_isTakenBack 68 = .ok (.bipush 8, 2) := by decide +kernel
theorem dL_isTakenBack_70 : decode cL_isTakenBack 70 = .ok (.if_icmp .ne 7, 3) := by decide +kernel
theorem dL_isTakenBack_73 : decode cL_isTakenBack 73 = .ok (.iconst 0, 1) := by decide +kernel
theorem dL_isTakenBack_74 : decode cL_isTakenBack 74 = .ok (.goto 4, 3) := by decide +kernel
theorem dL_isTakenBack_77 : decode cL_isTakenBack 77 = .ok (.iconst 1, 1) := by decide +kernel
theorem dL_isTakenBack_78 : decode cL_isTakenBack 78 = .ok (.iadd, 1) := by decide +kernel
theorem dL_isTakenBack_79 : decode cL_isTakenBack 79 = .ok (.if_icmp .ne 26, 3) := by decide +kernel
theorem dL_isTakenBack_82 : decode cL_isTakenBack 82 = .ok (.aload_n 0, 1) := by decide +kernel
theorem dL_isTakenBack_83 : decode cL_isTakenBack 83 = .ok (.iload_n 2, 1) := by decide +kernel
theorem dL_isTakenBack_84 : decode cL_isTakenBack 84 = .ok (.invokevirtual 30, 3) := by decide +kernel
theorem dL_isTakenBack_87 : decode cL_isTakenBack 87 = .ok (.bipush 8, 2) := by decide +kernel
theorem dL_isTakenBack_89 : decode cL_isTakenBack 89 = .ok (.if_icmp .ne 16, 3) := by decide +kernel
theorem dL_isTakenBack_92 : decode cL_isTakenBack 92 = .ok (.aload_n 0, 1) := by decide +kernel
theorem dL_isTakenBack_93 : decode cL_isTakenBack 93 = .ok (.invokevirtual 45, 3) := by decide +kernel
theorem dL_isTakenBack_96 : decode cL_isTakenBack 96 = .ok (.iload 5, 2) := by decide +kernel
theorem dL_isTakenBack_98 : decode cL_isTakenBack 98 = .ok (.if_icmp .ne 7, 3) := by decide +kernel
theorem dL_isTakenBack_101 : decode cL_isTakenBack 101 = .ok (.iconst 1, 1) := by decide +kernel
theorem dL_isTakenBack_102 : decode cL_isTakenBack 102 = .ok (.goto 4, 3) := by decide +kernel
theorem dL_isTakenBack_105 : decode cL_isTakenBack 105 = .ok (.iconst 0, 1) := by decide +kernel
theorem dL_isTakenBack_106 : decode cL_isTakenBack 106 = .ok (.istore 6, 2) := by decide +kernel
theorem dL_isTakenBack_108 : decode cL_isTakenBack 108 = .ok (.iload 6, 2) := by decide +kernel
theorem dL_isTakenBack_110 : decode cL_isTakenBack 110 = .ok (.ifCond .eq 22, 3) := by decide +kernel
theorem dL_isTakenBack_113 : decode cL_isTakenBack 113 = .ok (.iload_n 3, 1) := by decide +kernel
theorem dL_isTakenBack_114 : decode cL_isTakenBack 114 = .ok (.bipush 8, 2) := by decide +kernel
theorem dL_isTakenBack_116 : decode cL_isTakenBack 116 = .ok (.if_icmp .ne 12, 3) := by decide +kernel
theorem dL_isTakenBack_119 : decode cL_isTakenBack 119 = .ok (.aload_n 0, 1) := by decide +kernel
theorem dL_isTakenBack_120 : decode cL_isTakenBack 120 = .ok (.iload_n 1, 1) := by decide +kernel
theorem dL_isTakenBack_121 : decode cL_isTakenBack 121 = .ok (.invokevirtual 51, 3) := by decide +kernel
theorem dL_isTakenBack_124 : decode cL_isTakenBack 124 = .ok (.iload_n 2, 1) := by decide +kernel
theorem dL_isTakenBack_125 : decode cL_isTakenBack 125 = .ok (.if_icmp .ne 7, 3) := by decide +kernel
theorem dL_isTakenBack_128 : decode cL_isTakenBack 128 = .ok (.iconst 1, 1) := by decide +kernel
theorem dL_isTakenBack_129 : decode cL_isTakenBack 129 = .ok (.goto 4, 3) := by decide +kernel
theorem dL_isTakenBack_132 : decode cL_isTakenBack 132 = .ok (.iconst 0, 1) := by decide +kernel
theorem dL_isTakenBack_133 : decode cL_isTakenBack 133 = .ok (.ireturn, 1) := by decide +kernel
set_option maxRecDepth 20000 in
theorem ggL_isPassedRound_X1_inGoblet : GoodIn wsL_isPassedRound wsX1_inGoblet := goodIn_ca (goodIn_r _ [5, 6, 7, 4, 8, 9, 10, 11, 12, 13, 14, 15, 16, 17, 18, 19, 20, 21, 22, 23, 71, 72, 73, 74, 75, 76, 77] (by decide +kernel) (by decide +kernel)) (goodIn_sub (fun _ h => List.mem_cons_of_mem _ (List.mem_append_left _ (List.mem_append_right _ h))) (by decide +kernel))
set_option maxRecDepth 20000 in
theorem gL_isPassedRound_X1_inGoblet : GoodIn wsL_isPassedRound (wsV RL 8 RX1 yX1_inGoblet wsX1_inGoblet) := goodIn_app (goodIn_of _ (by decide +kernel)) ggL_isPassedRound_X1_inGoblet
set_option maxRecDepth 20000 in
theorem ggL_isPassedRound_X1_inJug : GoodIn wsL_isPassedRound wsX1_inJug := goodIn_r _ [27, 11, 12, 13, 4, 14, 15, 16, 17, 18, 19, 20, 21, 22, 23, 71, 72, 73, 74, 75, 76, 77] (by decide +kernel) (by decide +kernel)
set_option maxRecDepth 20000 in
theorem gL_isPassedRound_X1_inJug : GoodIn wsL_isPassedRound (wsV RL 33 RX1 yX1_inJug wsX1_inJug) := goodIn_app (goodIn_of _ (by decide +kernel)) ggL_isPassedRound_X1_inJug
set_option maxRecDepth 20000 in
theorem ggL_isPassedRound_X1_share : GoodIn wsL_isPassedRound wsX1_share := goodIn_ca (goodIn_ca (goodIn_r _ [31, 32, 33, 34, 35, 22, 36, 6, 7, 4, 8, 9, 10, 37, 38, 39, 11, 12, 13, 14, 15, 16, 17, 18, 19, 20, 21, 23, 40, 41, 42, 43, 44, 45, 46, 47, 48, 49, 50, 51, 52, 53, 54, 55, 56, 57, 58, 59, 60, 61, 62, 63, 64, 65, 66, 67, 68, 69, 70, 71, 72, 73, 74, 75, 76, 77] (by decide +kernel) (by decide +kernel)) (goodIn_sub (fun _ h => List.mem_cons_of_mem _ (List.mem_append_right _ h)) (by decide +kernel))) (goodIn_sub (fun _ h => List.mem_cons_of_mem _ (List.mem_append_left _ (List.mem_append_right _ h))) (by decide +kernel))
set_option maxRecDepth 20000 in
theorem gL_isPassedRound_X1_share : GoodIn wsL_isPassedRound (wsV RL 70 RX1 yX1_share wsX1_share) := goodIn_app (goodIn_of _ (by decide +kernel)) ggL_isPassedRound_X1_share
theorem dL_isPassedRound_0 : decode cL_isPassedRound 0 = .ok (.aload_n 0, 1) := by decide +kernel
theorem dL_isPassedRound_1 : decode cL_isPassedRound 1 = .ok (.iload_n 1, 1) := by decide +kernel
theorem dL_isPassedRound_2 : decode cL_isPassedRound 2 = .ok (.invokevirtual 8, 3) := by decide +kernel
theorem dL_isPassedRound_5 : decode cL_isPassedRound 5 = .ok (.istore 4, 2) := by decide +kernel
theorem dL_isPassedRound_7 : decode cL_isPassedRound 7 = .ok (.aload_n 0, 1) := by decide +kernel
theorem dL_isPassedRound_8 : decode cL_isPassedRound 8 = .ok (.iload_n 2, 1) := by decide +kernel
theorem dL_isPassedRound_9 : decode cL_isPassedRound 9 = .ok (.invokevirtual 8, 3) := by decide +kernel
theorem dL_isPassedRound_12 : decode cL_isPassedRound 12 = .ok (.istore 5, 2) := by decide +kernel
theorem dL_isPassedRound_14 : decode cL_isPassedRound 14 = .ok (.aload_n 0, 1) := by decide +kernel
theorem dL_isPassedRound_15 : decode cL_isPassedRound 15 = .ok (.invokevirtual 33, 3) := by decide +kernel
theorem dL_isPassedRound_18 : decode cL_isPassedRound 18 = .ok (.istore 6, 2) := by decide +kernel
theorem dL_isPassedRound_20 : decode cL_isPassedRound 20 = .ok (.aload_n 0, 1) := by decide +kernel
theorem dL_isPassedRound_21 : decode cL_isPassedRound 21 = .ok (.iload_n 1, 1) := by decide +kernel
theorem dL_isPassedRound_22 : decode cL_isPassedRound 22 = .ok (.iload_n 2, 1) := by decide +kernel
theorem dL_isPassedRound_23 : decode cL_isPassedRound 23 = .ok (.iload_n 3, 1) := by decide +kernel
theorem dL_isPassedRound_24 : decode cL_isPassedRound 24 = .ok (.invokevirtual 70, 3) := by decide +kernel
theorem dL_isPassedRound_27 : decode cL_isPassedRound 27 = .ok (.istore 7, 2) := by decide +kernel
theorem dL_isPassedRound_29 : decode cL_isPassedRound 29 = .ok (.iload 7, 2) := by decide +kernel
theorem dL_isPassedRound_31 : decode cL_isPassedRound 31 = .ok (.iload 4, 2) := by decide +kernel
theorem dL_isPassedRound_33 : decode cL_isPassedRound 33 = .ok (.iload_n 3, 1) := by decide +kernel
theorem dL_isPassedRound_34 : decode cL_isPassedRound 34 = .ok (.if_icmp .ge 8, 3) := by decide +kernel
theorem dL_isPassedRound_37 : decode cL_isPassedRound 37 = .ok (.iload 4, 2) := by decide +kernel
theorem dL_isPassedRound_39 : decode cL_isPassedRound 39 = .ok (.goto 4, 3) := by decide +kernel
theorem dL_isPassedRound_42 : decode cL_isPassedRound 42 = .ok (.iload_n 3, 1) := by decide +kernel
theorem dL_isPassedRound_43 : decode cL_isPassedRound 43 = .ok (.if_icmp .ne 33, 3) := by decide +kernel
theorem dL_isPassedRound_46 : decode cL_isPassedRound 46 = .ok (.aload_n 0, 1) := by decide +kernel
theorem dL_isPassedRound_47 : decode cL_isPassedRound 47 = .ok (.iload_n 1, 1) := by decide +kernel
theorem dL_isPassedRound_48 : decode cL_isPassedRound 48 = .ok (.invokevirtual 8, 3) := by decide +kernel
theorem dL_isPassedRound_51 : decode cL_isPassedRound 51 = .ok (.iload 4, 2) := by decide +kernel
theorem dL_isPassedRound_53 : decode cL_isPassedRound 53 = .ok (.iload 7, 2) := by decide +kernel
theorem dL_isPassedRound_55 : decode cL_isPassedRound 55 = .ok (.isub, 1) := by decide +kernel
theorem dL_isPassedRound_56 : decode cL_isPassedRound 56 = .ok (.if_icmp .ne 20, 3) := by decide +kernel
theorem dL_isPassedRound_59 : decode cL_isPassedRound 59 = .ok (.aload_n 0, 1) := by decide +kernel
theorem dL_isPassedRound_60 : decode cL_isPassedRound 60 = .ok (.iload_n 2, 1) := by decide +kernel
theorem dL_isPassedRound_61 : decode cL_isPassedRound 61 = .ok (.invokevirtual 8, 3) := by decide +kernel
theorem dL_isPassedRound_64 : decode cL_isPassedRound 64 = .ok (.iload 5, 2) := by decide +kernel
theorem dL_isPassedRound_66 : decode cL_isPassedRound 66 = .ok (.iload 7, 2) := by decide +kernel
theorem dL_isPassedRound_68 : decode cL_isPassedRound 68 = .ok (.iadd, 1) := by decide +kernel
theorem dL_isPassedRound_69 : decode cL_isPassedRound 69 = .ok (.if_icmp .ne 7, 3) := by decide +kernel
theorem dL_isPassedRound_72 : decode cL_isPassedRound 72 = .ok (.iconst 1, 1) := by decide +kernel
theorem dL_isPassedRound_73 : decode cL_isPassedRound 73 = .ok (.goto 4, 3) := by decide +kernel
theorem dL_isPassedRound_76 : decode cL_isPassedRound 76 = .ok (.iconst 0, 1) := by decide +kernel
theorem dL_isPassedRound_77 : decode cL_isPassedRound 77 = .ok (.istore 8, 2) := by decide +kernel
theorem dL_isPassedRound_79 : decode cL_isPassedRound 79 = .ok (.iload 8, 2) := by decide +kernel
theorem dL_isPassedRound_81 : decode cL_isPassedRound 81 = .ok (.ifCond .eq 54, 3) := by decide +kernel
theorem dL_isPassedRound_84 : decode cL_isPassedRound 84 = .ok (.iload 7, 2) := by decide +kernel
theorem dL_isPassedRound_86 : decode cL_isPassedRound 86 = .ok (.ifCond .eq 36, 3) := by decide +kernel
theorem dL_isPassedRound_89 : decode cL_isPassedRound 89 = .ok (.aload_n 0, 1) := by decide +kernel
theorem dL_isPassedRound_90 : decode cL_isPassedRound 90 = .ok (.iload_n 2, 1) := by decide +kernel
theorem dL_isPassedRound_91 : decode cL_isPassedRound 91 = .ok (.iload_n 1, 1) := by decide +kernel
theorem dL_isPassedRound_92 : decode cL_isPassedRound 92 = .ok (.iload 7, 2) := by decide +kernel
theorem dL_isPassedRound_94 : decode cL_isPassedRound 94 = .ok (.invokevirtual 70, 3) := by decide +kernel
theorem dL_isPassedRound_97 : decode cL_isPassedRound 97 = .ok (.iload 7, 2) := by decide +kernel
theorem dL_isPassedRound_99 : decode cL_isPassedRound 99 = .ok (.if_icmp .ne 36, 3) := by decide +kernel
theorem dL_isPassedRound_102 : decode cL_isPassedRound 102 = .ok (.aload_n 0, 1) := by decide +kernel
theorem dL_isPassedRound_103 : decode cL_isPassedRound 103 = .ok (.iload_n 1, 1) := by decide +kernel
theorem dL_isPassedRound_104 : decode cL_isPassedRound 104 = .ok (.invokevirtual 8, 3) := by decide +kernel
theorem dL_isPassedRound_107 : decode cL_isPassedRound 107 = .ok (.iload 4, 2) := by decide +kernel
theorem dL_isPassedRound_109 : decode cL_isPassedRound 109 = .ok (.if_icmp .ne 26, 3) := by decide +kernel
theorem dL_isPassedRound_112 : decode cL_isPassedRound 112 = .ok (.aload_n 0, 1) := by decide +kernel
theorem dL_isPassedRound_113 : decode cL_isPassedRound 113 = .ok (.iload_n 2, 1) := by decide +kernel
theorem dL_isPassedRound_114 : decode cL_isPassedRound 114 = .ok (.invokevirtual 8, 3) := by decide +kernel
theorem dL_isPassedRound_117 : decode cL_isPassedRound 117 = .ok (.iload 5, 2) := by decide +kernel
theorem dL_isPassedRound_119 : decode cL_isPassedRound 119 = .ok (.if_icmp .ne 16, 3) := by decide +kernel
theorem dL_isPassedRound_122 : decode cL_isPassedRound 122 = .ok (.aload_n 0, 1) := by decide +kernel
theorem dL_isPassedRound_123 : decode cL_isPassedRound 123 = .ok (.invokevirtual 33, 3) := by decide +kernel
theorem dL_isPassedRound_126 : decode cL_isPassedRound 126 = .ok (.iload 6, 2) := by decide +kernel
theorem dL_isPassedRound_128 : decode cL_isPassedRound 128 = .ok (.if_icmp .ne 7, 3) := by decide +kernel
theorem dL_isPassedRound_131 : decode cL_isPassedRound 131 = .ok (.iconst 1, 1) := by decide +kernel
theorem dL_isPassedRound_132 : decode cL_isPassedRound 132 = .ok (.goto 4, 3) := by decide +kernel
theorem dL_isPassedRound_135 : decode cL_isPassedRound 135 = .ok (.iconst 0, 1) := by decide +kernel
theorem dL_isPassedRound_136 : decode cL_isPassedRound 136 = .ok (.ireturn, 1) := by decide +kernel
set_option maxRecDepth 20000 in
theorem ggL_law_X1_init : GoodIn wsL_law wsX1_init := goodIn_r _ [5, 6, 7, 8, 9, 10, 11, 12, 13, 14, 15, 16, 17, 18, 19, 20, 21, 200, 201, 202, 203, 197, 198, 199] (by decide +kernel) (by decide +kernel)
set_option maxRecDepth 20000 in
theorem gL_law_X1_init : GoodIn wsL_law (wsX1_init) := ggL_law_X1_init
set_option maxRecDepth 20000 in
theorem ggL_law_L_drawn : GoodIn wsL_law wsL_drawn := goodIn_r _ [25, 26] (by decide +kernel) (by decide +kernel)
set_option maxRecDepth 20000 in
theorem gL_law_L_drawn : GoodIn wsL_law (va_wsS RL 75 yL_drawn wsL_drawn) := goodIn_app (goodIn_of _ (by decide +kernel)) ggL_law_L_drawn
set_option maxRecDepth 20000 in
theorem ggL_law_X1_inJug : GoodIn wsL_law wsX1_inJug := goodIn_r _ [30, 31, 32, 33, 2, 34, 35, 36, 37, 38, 12, 39, 40, 41, 42, 197, 198, 199, 200, 201, 202, 203] (by decide +kernel) (by decide +kernel)
set_option maxRecDepth 20000 in
theorem gL_law_X1_inJug : GoodIn wsL_law (wsV RL 33 RX1 yX1_inJug wsX1_inJug) := goodIn_app (goodIn_of _ (by decide +kernel)) ggL_law_X1_inJug
set_option maxRecDepth 20000 in
theorem ggL_law_X1_pour : GoodIn wsL_law wsX1_pour := goodIn_ca (goodIn_ca (goodIn_ca (goodIn_r _ [46, 47, 48, 49, 50, 2, 51, 52, 53, 54, 55, 56, 57, 58, 59, 60, 61, 62, 12, 63, 64, 65, 66, 67, 11, 68, 69, 18, 70, 10, 19, 20, 21, 71, 72, 73, 74, 75, 15, 16, 17, 7, 8, 76, 77, 78, 79, 80, 81, 82, 197, 198, 199, 200, 201, 202, 203] (by decide +kernel) (by decide +kernel)) (goodIn_sub (fun _ h => List.mem_append_left _ (List.mem_append_left _ (List.mem_append_right _ h))) (by decide +kernel))) (goodIn_sub (fun _ h => List.mem_append_left _ (List.mem_append_right _ h)) (by decide +kernel))) (goodIn_sub (fun _ h => List.mem_append_right _ h) (by decide +kernel))
set_option maxRecDepth 20000 in
theorem gL_law_X1_pour : GoodIn wsL_law (wsV RL 57 RX1 yX1_pour wsX1_pour) := goodIn_app (goodIn_of _ (by decide +kernel)) ggL_law_X1_pour
set_option maxRecDepth 20000 in
theorem ggL_law_X1_nextOf : GoodIn wsL_law wsX1_nextOf := goodIn_ca (goodIn_r _ [86, 49, 50, 2, 51, 52, 53, 59, 60, 61, 62, 12, 197, 198, 199, 200, 201, 202, 203] (by decide +kernel) (by decide +kernel)) (goodIn_sub (fun _ h => List.mem_append_left _ (List.mem_append_right _ h)) (by decide +kernel))
set_option maxRecDepth 20000 in
theorem gL_law_X1_nextOf : GoodIn wsL_law (wsV RL 51 RX1 yX1_nextOf wsX1_nextOf) := goodIn_app (goodIn_of _ (by decide +kernel)) ggL_law_X1_nextOf
set_option maxRecDepth 20000 in
theorem ggL_law_X1_drink : GoodIn wsL_law wsX1_drink := goodIn_ca (goodIn_ca (goodIn_r _ [90, 47, 48, 49, 50, 2, 51, 52, 53, 59, 60, 61, 62, 12, 63, 64, 65, 66, 67, 11, 68, 69, 18, 70, 10, 19, 20, 21, 71, 72, 73, 74, 75, 15, 16, 17, 7, 8, 76, 77, 78, 79, 80, 81, 82, 197, 198, 199, 200, 201, 202, 203] (by decide +kernel) (by decide +kernel)) (goodIn_sub (fun _ h => List.mem_append_left _ (List.mem_append_left _ (List.mem_append_right _ h))) (by decide +kernel))) (goodIn_sub (fun _ h => List.mem_append_left _ (List.mem_append_right _ h)) (by decide +kernel))
set_option maxRecDepth 20000 in
theorem gL_law_X1_drink : GoodIn wsL_law (wsV RL 64 RX1 yX1_drink wsX1_drink) := goodIn_app (goodIn_of _ (by decide +kernel)) ggL_law_X1_drink
set_option maxRecDepth 20000 in
theorem ggL_law_X1_inGoblet : GoodIn wsL_law wsX1_inGoblet := goodIn_ca (goodIn_r _ [94, 49, 50, 2, 51, 52, 53, 31, 32, 33, 34, 35, 36, 37, 38, 12, 39, 40, 41, 42, 197, 198, 199, 200, 201, 202, 203] (by decide +kernel) (by decide +kernel)) (goodIn_sub (fun _ h => List.mem_append_left _ (List.mem_append_right _ h)) (by decide +kernel))
set_option maxRecDepth 20000 in
theorem gL_law_X1_inGoblet : GoodIn wsL_law (wsV RL 8 RX1 yX1_inGoblet wsX1_inGoblet) := goodIn_app (goodIn_of _ (by decide +kernel)) ggL_law_X1_inGoblet
set_option maxRecDepth 20000 in
theorem ggL_law_X1_spilt : GoodIn wsL_law wsX1_spilt := goodIn_r _ [98, 31, 32, 33, 2, 34, 35, 36, 37, 38, 12, 39, 40, 41, 42, 197, 198, 199, 200, 201, 202, 203] (by decide +kernel) (by decide +kernel)
set_option maxRecDepth 20000 in
theorem gL_law_X1_spilt : GoodIn wsL_law (wsV RL 48 RX1 yX1_spilt wsX1_spilt) := goodIn_app (goodIn_of _ (by decide +kernel)) ggL_law_X1_spilt
set_option maxRecDepth 20000 in
theorem ggL_law_X1_spill : GoodIn wsL_law wsX1_spill := goodIn_ca (goodIn_r _ [102, 49, 50, 2, 51, 52, 53, 103, 104, 105, 106, 63, 64, 65, 66, 12, 67, 11, 68, 69, 18, 70, 10, 19, 20, 21, 71, 72, 73, 74, 75, 15, 16, 17, 7, 8, 76, 77, 78, 79, 80, 81, 82, 197, 198, 199, 200, 201, 202, 203] (by decide +kernel) (by decide +kernel)) (goodIn_sub (fun _ h => List.mem_append_left _ (List.mem_append_right _ h)) (by decide +kernel))
set_option maxRecDepth 20000 in
theorem gL_law_X1_spill : GoodIn wsL_law (wsV RL 79 RX1 yX1_spill wsX1_spill) := goodIn_app (goodIn_of _ (by decide +kernel)) ggL_law_X1_spill
set_option maxRecDepth 20000 in
theorem ggL_law_X1_size : GoodIn wsL_law wsX1_size := goodIn_r _ [110, 13, 197, 198, 199] (by decide +kernel) (by decide +kernel)
set_option maxRecDepth 20000 in
theorem gL_law_X1_size : GoodIn wsL_law (wsV RL 27 RX1 yX1_size wsX1_size) := goodIn_app (goodIn_of _ (by decide +kernel)) ggL_law_X1_size
set_option maxRecDepth 20000 in
theorem ggL_law_X1_enlarge : GoodIn wsL_law wsX1_enlarge := goodIn_ca (goodIn_r _ [114, 57, 58, 13, 63, 64, 65, 2, 66, 12, 67, 11, 68, 69, 18, 70, 10, 19, 20, 21, 71, 72, 73, 74, 75, 15, 16, 17, 7, 8, 76, 77, 78, 79, 80, 81, 82, 31, 32, 33, 34, 35, 36, 37, 38, 39, 40, 41, 42, 197, 198, 199, 200, 201, 202, 203] (by decide +kernel) (by decide +kernel)) (goodIn_sub (fun _ h => List.mem_append_right _ h) (by decide +kernel))
set_option maxRecDepth 20000 in
theorem gL_law_X1_enlarge : GoodIn wsL_law (wsV RL 82 RX1 yX1_enlarge wsX1_enlarge) := goodIn_app (goodIn_of _ (by decide +kernel)) ggL_law_X1_enlarge
set_option maxRecDepth 20000 in
theorem ggL_law_X1_ranges : GoodIn wsL_law wsX1_ranges := goodIn_r _ [118, 119, 120, 121, 2, 122, 12, 197, 198, 199, 200, 201, 202, 203] (by decide +kernel) (by decide +kernel)
set_option maxRecDepth 20000 in
theorem gL_law_X1_ranges : GoodIn wsL_law (wsV RL 24 RX1 yX1_ranges wsX1_ranges) := goodIn_app (goodIn_of _ (by decide +kernel)) ggL_law_X1_ranges
set_option maxRecDepth 20000 in
theorem ggL_law_X1_rangeTo : GoodIn wsL_law wsX1_rangeTo := goodIn_ca (goodIn_r _ [126, 52, 53, 127, 128, 129, 2, 130, 12, 200, 201, 202, 203, 197, 198, 199] (by decide +kernel) (by decide +kernel)) (goodIn_sub (fun _ h => List.mem_append_left _ (List.mem_append_right _ h)) (by decide +kernel))
set_option maxRecDepth 20000 in
theorem gL_law_X1_rangeTo : GoodIn wsL_law (wsV RL 18 RX1 yX1_rangeTo wsX1_rangeTo) := goodIn_app (goodIn_of _ (by decide +kernel)) ggL_law_X1_rangeTo
set_option maxRecDepth 20000 in
theorem ggL_law_L_isThereAndBack : GoodIn wsL_law wsL_isThereAndBack := goodIn_ca (goodIn_ca (goodIn_ca (goodIn_r _ [133, 91, 92, 93, 2, 94, 49, 50, 51, 52, 53, 31, 32, 33, 34, 35, 36, 37, 38, 12, 39, 40, 41, 42, 27, 28, 29, 30, 115, 116, 117, 118, 119, 120, 121, 122, 134, 135, 136, 137, 127, 128, 129, 130, 138, 139, 140, 141, 72, 11, 73, 74, 19, 18, 43, 44, 45, 46, 47, 48, 54, 55, 56, 57, 58, 59, 60, 61, 62, 63, 64, 65, 66, 67, 68, 69, 70, 10, 20, 21, 71, 75, 15, 16, 17, 7, 8, 76, 77, 78, 79, 80, 81, 82, 83, 84, 85, 86, 142, 143, 144, 145, 146, 147, 148, 149, 103, 104, 105, 106, 197, 198, 199, 200, 201, 202, 203] (by decide +kernel) (by decide +kernel)) (goodIn_sub (fun _ h => List.mem_append_left _ (List.mem_append_right _ h)) (by decide +kernel))) (goodIn_sub (fun _ h => List.mem_append_left _ (List.mem_append_left _ (List.mem_append_right _ h))) (by decide +kernel))) (goodIn_sub (fun _ h => List.mem_append_right _ h) (by decide +kernel))
set_option maxRecDepth 20000 in
theorem gL_law_L_isThereAndBack : GoodIn wsL_law (va_wsS RL 85 yL_isThereAndBack wsL_isThereAndBack) := goodIn_app (goodIn_of _ (by decide +kernel)) ggL_law_L_isThereAndBack
set_option maxRecDepth 20000 in
theorem ggL_law_L_isTakenBack : GoodIn wsL_law wsL_isTakenBack := goodIn_ca (goodIn_ca (goodIn_r _ [152, 83, 84, 85, 2, 86, 49, 50, 51, 52, 53, 59, 60, 61, 62, 12, 153, 154, 155, 156, 27, 28, 29, 30, 31, 32, 33, 34, 35, 36, 37, 38, 39, 40, 41, 42, 157, 158, 159, 160, 87, 88, 89, 90, 47, 48, 63, 64, 65, 66, 67, 11, 68, 69, 18, 70, 10, 19, 20, 21, 71, 72, 73, 74, 75, 15, 16, 17, 7, 8, 76, 77, 78, 79, 80, 81, 82, 161, 162, 163, 164, 165, 197, 198, 199, 200, 201, 202, 203] (by decide +kernel) (by decide +kernel)) (goodIn_sub (fun _ h => List.mem_append_left _ (List.mem_append_right _ h)) (by decide +kernel))) (goodIn_sub (fun _ h => List.mem_append_left _ (List.mem_append_left _ (List.mem_append_right _ h))) (by decide +kernel))
set_option maxRecDepth 20000 in
theorem gL_law_L_isTakenBack : GoodIn wsL_law (va_wsS RL 89 yL_isTakenBack wsL_isTakenBack) := goodIn_app (goodIn_of _ (by decide +kernel)) ggL_law_L_isTakenBack
set_option maxRecDepth 20000 in
theorem ggL_law_L_isPassedRound : GoodIn wsL_law wsL_isPassedRound := goodIn_ca (goodIn_ca (goodIn_r _ [168, 91, 92, 93, 2, 94, 49, 50, 51, 52, 53, 31, 32, 33, 34, 35, 36, 37, 38, 12, 39, 40, 41, 42, 27, 28, 29, 30, 169, 170, 171, 172, 57, 58, 173, 174, 175, 54, 55, 56, 63, 64, 65, 66, 67, 11, 68, 69, 18, 70, 10, 19, 20, 21, 71, 72, 73, 74, 75, 15, 16, 17, 7, 8, 76, 77, 78, 79, 80, 81, 82, 197, 198, 199, 200, 201, 202, 203] (by decide +kernel) (by decide +kernel)) (goodIn_sub (fun _ h => List.mem_append_left _ (List.mem_append_right _ h)) (by decide +kernel))) (goodIn_sub (fun _ h => List.mem_append_right _ h) (by decide +kernel))
set_option maxRecDepth 20000 in
theorem gL_law_L_isPassedRound : GoodIn wsL_law (va_wsS RL 93 yL_isPassedRound wsL_isPassedRound) := goodIn_app (goodIn_of _ (by decide +kernel)) ggL_law_L_isPassedRound
set_option maxRecDepth 20000 in
theorem ggL_law_L_isAllSomewhere : GoodIn wsL_law wsL_isAllSomewhere := goodIn_ca (goodIn_r _ [178, 179, 180, 181, 2, 182, 12, 27, 28, 29, 30, 31, 32, 33, 34, 35, 36, 37, 38, 39, 40, 41, 42, 183, 184, 24, 185, 91, 92, 93, 94, 49, 50, 51, 52, 53, 157, 158, 159, 160, 95, 96, 97, 98, 107, 108, 109, 110, 13, 153, 154, 155, 156, 83, 84, 85, 86, 59, 60, 61, 62, 142, 143, 144, 145, 119, 120, 121, 122, 197, 198, 199, 200, 201, 202, 203] (by decide +kernel) (by decide +kernel)) (goodIn_sub (fun _ h => List.mem_append_left _ (List.mem_append_right _ h)) (by decide +kernel))
set_option maxRecDepth 20000 in
theorem gL_law_L_isAllSomewhere : GoodIn wsL_law (va_wsS RL 97 yL_isAllSomewhere wsL_isAllSomewhere) := goodIn_app (goodIn_of _ (by decide +kernel)) ggL_law_L_isAllSomewhere
set_option maxRecDepth 20000 in
theorem ggL_law_L_areRangesApart : GoodIn wsL_law wsL_areRangesApart := goodIn_ca (goodIn_r _ [188, 138, 139, 140, 2, 141, 12, 72, 11, 73, 74, 19, 18, 123, 124, 125, 126, 52, 53, 127, 128, 129, 130, 134, 135, 136, 137, 115, 116, 117, 118, 119, 120, 121, 122, 107, 108, 109, 110, 13, 153, 154, 155, 156, 27, 28, 29, 30, 31, 32, 33, 34, 35, 36, 37, 38, 39, 40, 41, 42, 197, 198, 199, 200, 201, 202, 203] (by decide +kernel) (by decide +kernel)) (goodIn_sub (fun _ h => List.mem_append_left _ (List.mem_append_right _ h)) (by decide +kernel))
set_option maxRecDepth 20000 in
theorem gL_law_L_areRangesApart : GoodIn wsL_law (va_wsS RL 101 yL_areRangesApart wsL_areRangesApart) := goodIn_app (goodIn_of _ (by decide +kernel)) ggL_law_L_areRangesApart
set_option maxRecDepth 20000 in
theorem ggL_law_X1_round : GoodIn wsL_law wsX1_round := goodIn_r _ [192, 14, 197, 198, 199] (by decide +kernel) (by decide +kernel)
set_option maxRecDepth 20000 in
theorem gL_law_X1_round : GoodIn wsL_law (wsV RL 104 RX1 yX1_round wsX1_round) := goodIn_app (goodIn_of _ (by decide +kernel)) ggL_law_X1_round
set_option maxRecDepth 20000 in
theorem ggL_law_X1_drunk : GoodIn wsL_law wsX1_drunk := goodIn_r _ [160, 31, 32, 33, 2, 34, 35, 36, 37, 38, 12, 39, 40, 41, 42, 197, 198, 199, 200, 201, 202, 203] (by decide +kernel) (by decide +kernel)
set_option maxRecDepth 20000 in
theorem gL_law_X1_drunk : GoodIn wsL_law (wsV RL 45 RX1 yX1_drunk wsX1_drunk) := goodIn_app (goodIn_of _ (by decide +kernel)) ggL_law_X1_drunk
set_option maxRecDepth 20000 in
theorem ggL_law_X1_nextRound : GoodIn wsL_law wsX1_nextRound := goodIn_ca (goodIn_r _ [196, 47, 48, 13, 14, 31, 32, 33, 2, 34, 35, 36, 37, 38, 12, 39, 40, 41, 42, 103, 104, 105, 106, 63, 64, 65, 66, 67, 11, 68, 69, 18, 70, 10, 19, 20, 21, 71, 72, 73, 74, 75, 15, 16, 17, 7, 8, 76, 77, 78, 79, 80, 81, 82, 197, 198, 199, 200, 201, 202, 203] (by decide +kernel) (by decide +kernel)) (goodIn_sub (fun _ h => List.mem_append_left _ (List.mem_append_left _ (List.mem_append_right _ h))) (by decide +kernel))
set_option maxRecDepth 20000 in
theorem gL_law_X1_nextRound : GoodIn wsL_law (wsV RL 107 RX1 yX1_nextRound wsX1_nextRound) := goodIn_app (goodIn_of _ (by decide +kernel)) ggL_law_X1_nextRound
set_option maxRecDepth 20000 in
theorem ggL_law_X1_rangeFrom : GoodIn wsL_law wsX1_rangeFrom := goodIn_ca (goodIn_r _ [137, 52, 53, 127, 128, 129, 2, 130, 12, 200, 201, 202, 203, 197, 198, 199] (by decide +kernel) (by decide +kernel)) (goodIn_sub (fun _ h => List.mem_append_left _ (List.mem_append_right _ h)) (by decide +kernel))
set_option maxRecDepth 20000 in
theorem gL_law_X1_rangeFrom : GoodIn wsL_law (wsV RL 21 RX1 yX1_rangeFrom wsX1_rangeFrom) := goodIn_app (goodIn_of _ (by decide +kernel)) ggL_law_X1_rangeFrom
set_option maxRecDepth 20000 in
theorem ggL_law_X1_lowestLeft : GoodIn wsL_law wsX1_lowestLeft := goodIn_r _ [182, 12, 197, 198, 199, 200, 201, 202, 203] (by decide +kernel) (by decide +kernel)
set_option maxRecDepth 20000 in
theorem gL_law_X1_lowestLeft : GoodIn wsL_law (wsV RL 36 RX1 yX1_lowestLeft wsX1_lowestLeft) := goodIn_app (goodIn_of _ (by decide +kernel)) ggL_law_X1_lowestLeft
theorem dL_law_0 : decode cL_law 0 = .ok (.new 9, 3) := by decide +kernel
theorem dL_law_3 : decode cL_law 3 = .ok (.dup, 1) := by decide +kernel
theorem dL_law_4 : decode cL_law 4 = .ok (.invokespecial 74, 3) := by decide +kernel
theorem dL_law_7 : decode cL_law 7 = .ok (.astore_n 1, 1) := by decide +kernel
theorem dL_law_8 : decode cL_law 8 = .ok (.iconst 1, 1) := by decide +kernel
theorem dL_law_9 : decode cL_law 9 = .ok (.istore_n 2, 1) := by decide +kernel
theorem dL_law_10 : decode cL_law 10 = .ok (.iconst 0, 1) := by decide +kernel
theorem dL_law_11 : decode cL_law 11 = .ok (.istore_n 3, 1) := by decide +kernel
theorem dL_law_12 : decode cL_law 12 = .ok (.iload_n 3, 1) := by decide +kernel
theorem dL_law_13 : decode cL_law 13 = .ok (.sipush 130, 3) := by decide +kernel
theorem dL_law_16 : decode cL_law 16 = .ok (.if_icmp .ge 348, 3) := by decide +kernel
theorem dL_law_19 : decode cL_law 19 = .ok (.iload_n 2, 1) := by decide +kernel
theorem dL_law_20 : decode cL_law 20 = .ok (.ifCond .eq 344, 3) := by decide +kernel
theorem dL_law_23 : decode cL_law 23 = .ok (.aload_n 0, 1) := by decide +kernel
theorem dL_law_24 : decode cL_law 24 = .ok (.iload_n 3, 1) := by decide +kernel
theorem dL_law_25 : decode cL_law 25 = .ok (.sipush 30000, 3) := by decide +kernel
theorem dL_law_28 : decode cL_law 28 = .ok (.invokestatic 75, 3) := by decide +kernel
theorem dL_law_31 : decode cL_law 31 = .ok (.istore 4, 2) := by decide +kernel
theorem dL_law_33 : decode cL_law 33 = .ok (.iload 4, 2) := by decide +kernel
theorem dL_law_35 : decode cL_law 35 = .ok (.bipush 16, 2) := by decide +kernel
theorem dL_law_37 : decode cL_law 37 = .ok (.idiv, 1) := by decide +kernel
theorem dL_law_38 : decode cL_law 38 = .ok (.bipush 8, 2) := by decide +kernel
theorem dL_law_40 : decode cL_law 40 = .ok (.irem, 1) := by decide +kernel
theorem dL_law_41 : decode cL_law 41 = .ok (.istore 5, 2) := by decide +kernel
theorem dL_law_43 : decode cL_law 43 = .ok (.iconst 1, 1) := by decide +kernel
theorem dL_law_44 : decode cL_law 44 = .ok (.iload 4, 2) := by decide +kernel
theorem dL_law_46 : decode cL_law 46 = .ok (.sipush 128, 3) := by decide +kernel
theorem dL_law_49 : decode cL_law 49 = .ok (.idiv, 1) := by decide +kernel
theorem dL_law_50 : decode cL_law 50 = .ok (.bipush 20, 2) := by decide +kernel
theorem dL_law_52 : decode cL_law 52 = .ok (.irem, 1) := by decide +kernel
theorem dL_law_53 : decode cL_law 53 = .ok (.iadd, 1) := by decide +kernel
theorem dL_law_54 : decode cL_law 54 = .ok (.istore 6, 2) := by decide +kernel
theorem dL_law_56 : decode cL_law 56 = .ok (.iload 4, 2) := by decide +kernel
theorem dL_law_58 : decode cL_law 58 = .ok (.bipush 16, 2) := by decide +kernel
theorem dL_law_60 : decode cL_law 60 = .ok (.irem, 1) := by decide +kernel
theorem dL_law_61 : decode cL_law 61 = .ok (.istore 7, 2) := by decide +kernel
theorem dL_law_63 : decode cL_law 63 = .ok (.iload 7, 2) := by decide +kernel
theorem dL_law_65 : decode cL_law 65 = .ok (.iconst 4, 1) := by decide +kernel
theorem dL_law_66 : decode cL_law 66 = .ok (.if_icmp .ge 30, 3) := by decide +kernel
theorem dL_law_69 : decode cL_law 69 = .ok (.aload_n 1, 1) := by decide +kernel
theorem dL_law_70 : decode cL_law 70 = .ok (.invokevirtual 33, 3) := by decide +kernel
theorem dL_law_73 : decode cL_law 73 = .ok (.ifCond .le 23, 3) := by decide +kernel
theorem dL_law_76 : decode cL_law 76 = .ok (.aload_n 1, 1) := by decide +kernel
theorem dL_law_77 : decode cL_law 77 = .ok (.iload 5, 2) := by decide +kernel
theorem dL_law_79 : decode cL_law 79 = .ok (.iload 6, 2) := by decide +kernel
theorem dL_law_81 : decode cL_law 81 = .ok (.invokevirtual 57, 3) := by decide +kernel
theorem dL_law_84 : decode cL_law 84 = .ok (.ifCond .le 7, 3) := by decide +kernel
theorem dL_law_87 : decode cL_law 87 = .ok (.iconst 1, 1) := by decide +kernel
theorem dL_law_88 : decode cL_law 88 = .ok (.goto 4, 3) := by decide +kernel
theorem dL_law_91 : decode cL_law 91 = .ok (.iconst 0, 1) := by decide +kernel
theorem dL_law_92 : decode cL_law 92 = .ok (.istore_n 2, 1) := by decide +kernel
theorem dL_law_93 : decode cL_law 93 = .ok (.goto 241, 3) := by decide +kernel
theorem dL_law_96 : decode cL_law 96 = .ok (.iload 7, 2) := by decide +kernel
theorem dL_law_98 : decode cL_law 98 = .ok (.bipush 8, 2) := by decide +kernel
theorem dL_law_100 : decode cL_law 100 = .ok (.if_icmp .ge 30, 3) := by decide +kernel
theorem dL_law_103 : decode cL_law 103 = .ok (.aload_n 1, 1) := by decide +kernel
theorem dL_law_104 : decode cL_law 104 = .ok (.iload 5, 2) := by decide +kernel
theorem dL_law_106 : decode cL_law 106 = .ok (.invokevirtual 51, 3) := by decide +kernel
theorem dL_law_109 : decode cL_law 109 = .ok (.ifCond .le 21, 3) := by decide +kernel
theorem dL_law_112 : decode cL_law 112 = .ok (.aload_n 1, 1) := by decide +kernel
theorem dL_law_113 : decode cL_law 113 = .ok (.iload 5, 2) := by decide +kernel
theorem dL_law_115 : decode cL_law 115 = .ok (.invokevirtual 64, 3) := by decide +kernel
theorem dL_law_118 : decode cL_law 118 = .ok (.ifCond .le 7, 3) := by decide +kernel
theorem dL_law_121 : decode cL_law 121 = .ok (.iconst 1, 1) := by decide +kernel
theorem dL_law_122 : decode cL_law 122 = .ok (.goto 4, 3) := by decide +kernel
theorem dL_law_125 : decode cL_law 125 = .ok (.iconst 0, 1) := by decide +kernel
theorem dL_law_126 : decode cL_law 126 = .ok (.istore_n 2, 1) := by decide +kernel
theorem dL_law_127 : decode cL_law 127 = .ok (.goto 207, 3) := by decide +kernel
theorem dL_law_130 : decode cL_law 130 = .ok (.iload 7, 2) := by decide +kernel
theorem dL_law_132 : decode cL_law 132 = .ok (.bipush 8, 2) := by decide +kernel
theorem dL_law_134 : decode cL_law 134 = .ok (.if_icmp .ne 65, 3) := by decide +kernel
theorem dL_law_137 : decode cL_law 137 = .ok (.aload_n 1, 1) := by decide +kernel
theorem dL_law_138 : decode cL_law 138 = .ok (.iload 5, 2) := by decide +kernel
theorem dL_law_140 : decode cL_law 140 = .ok (.invokevirtual 8, 3) := by decide +kernel
theorem dL_law_143 : decode cL_law 143 = .ok (.istore 8, 2) := by decide +kernel
theorem dL_law_145 : decode cL_law 145 = .ok (.aload_n 1, 1) := by decide +kernel
theorem dL_law_146 : decode cL_law 146 = .ok (.invokevirtual 48, 3) := by decide +kernel
theorem dL_law_149 : decode cL_law 149 = .ok (.istore 9, 2) := by decide +kernel
theorem dL_law_151 : decode cL_law 151 = .ok (.iload 4, 2) := by decide +kernel
theorem dL_law_153 : decode cL_law 153 = .ok (.iconst 3, 1) := by decide +kernel
theorem dL_law_154 : decode cL_law 154 = .ok (.irem, 1) := by decide +kernel
theorem dL_law_155 : decode cL_law 155 = .ok (.ifCond .gt 35, 3) := by decide +kernel
theorem dL_law_158 : decode cL_law 158 = .ok (.aload_n 1, 1) := by decide +kernel
theorem dL_law_159 : decode cL_law 159 = .ok (.iload 5, 2) := by decide +kernel
theorem dL_law_161 : decode cL_law 161 = .ok (.invokevirtual 79, 3) := by decide +kernel
theorem dL_law_164 : decode cL_law 164 = .ok (.iload 8, 2) := by decide +kernel
theorem dL_law_166 : decode cL_law 166 = .ok (.if_icmp .ne 28, 3) := by decide +kernel
theorem dL_law_169 : decode cL_law 169 = .ok (.aload_n 1, 1) := by decide +kernel
theorem dL_law_170 : decode cL_law 170 = .ok (.invokevirtual 48, 3) := by decide +kernel
theorem dL_law_173 : decode cL_law 173 = .ok (.iload 9, 2) := by decide +kernel
theorem dL_law_175 : decode cL_law 175 = .ok (.iload 8, 2) := by decide +kernel
theorem dL_law_177 : decode cL_law 177 = .ok (.iadd, 1) := by decide +kernel
theorem dL_law_178 : decode cL_law 178 = .ok (.if_icmp .ne 16, 3) := by decide +kernel
theorem dL_law_181 : decode cL_law 181 = .ok (.aload_n 1, 1) := by decide +kernel
theorem dL_law_182 : decode cL_law 182 = .ok (.iload 5, 2) := by decide +kernel
theorem dL_law_184 : decode cL_law 184 = .ok (.invokevirtual 8, 3) := by decide +kernel
theorem dL_law_187 : decode cL_law 187 = .ok (.ifCond .ne 7, 3) := by decide +kernel
theorem dL_law_190 : decode cL_law 190 = .ok (.iconst 1, 1) := by decide +kernel
theorem dL_law_191 : decode cL_law 191 = .ok (.goto 4, 3) := by decide +kernel
theorem dL_law_194 : decode cL_law 194 = .ok (.iconst 0, 1) := by decide +kernel
theorem dL_law_195 : decode cL_law 195 = .ok (.istore_n 2, 1) := by decide +kernel
theorem dL_law_196 : decode cL_law 196 = .ok (.goto 138, 3) := by decide +kernel
theorem dL_law_199 : decode cL_law 199 = .ok (.iload 7, 2) := by decide +kernel
theorem dL_law_201 : decode cL_law 201 = .ok (.bipush 9, 2) := by decide +kernel
theorem dL_law_203 : decode cL_law 203 = .ok (.if_icmp .ne 69, 3) := by decide +kernel
theorem dL_law_206 : decode cL_law 206 = .ok (.aload_n 1, 1) := by decide +kernel
theorem dL_law_207 : decode cL_law 207 = .ok (.invokevirtual 27, 3) := by decide +kernel
theorem dL_law_210 : decode cL_law 210 = .ok (.sipush 200, 3) := by decide +kernel
theorem dL_law_213 : decode cL_law 213 = .ok (.if_icmp .ge 59, 3) := by decide +kernel
theorem dL_law_216 : decode cL_law 216 = .ok (.aload_n 1, 1) := by decide +kernel
theorem dL_law_217 : decode cL_law 217 = .ok (.invokevirtual 27, 3) := by decide +kernel
theorem dL_law_220 : decode cL_law 220 = .ok (.istore 8, 2) := by decide +kernel
theorem dL_law_222 : decode cL_law 222 = .ok (.aload_n 1, 1) := by decide +kernel
theorem dL_law_223 : decode cL_law 223 = .ok (.invokevirtual 33, 3) := by decide +kernel
theorem dL_law_226 : decode cL_law 226 = .ok (.istore 9, 2) := by decide +kernel
theorem dL_law_228 : decode cL_law 228 = .ok (.aload_n 1, 1) := by decide +kernel
theorem dL_law_229 : decode cL_law 229 = .ok (.iload 8, 2) := by decide +kernel
theorem dL_law_231 : decode cL_law 231 = .ok (.iload 6, 2) := by decide +kernel
theorem dL_law_233 : decode cL_law 233 = .ok (.iadd, 1) := by decide +kernel
theorem dL_law_234 : decode cL_law 234 = .ok (.invokevirtual 82, 3) := by decide +kernel
theorem dL_law_237 : decode cL_law 237 = .ok (.iload 9, 2) := by decide +kernel
theorem dL_law_239 : decode cL_law 239 = .ok (.iload 6, 2) := by decide +kernel
theorem dL_law_241 : decode cL_law 241 = .ok (.iadd, 1) := by decide +kernel
theorem dL_law_242 : decode cL_law 242 = .ok (.if_icmp .ne 25, 3) := by decide +kernel
theorem dL_law_245 : decode cL_law 245 = .ok (.aload_n 1, 1) := by decide +kernel
theorem dL_law_246 : decode cL_law 246 = .ok (.aload_n 1, 1) := by decide +kernel
theorem dL_law_247 : decode cL_law 247 = .ok (.invokevirtual 24, 3) := by decide +kernel
theorem dL_law_250 : decode cL_law 250 = .ok (.iconst 1, 1) := by decide +kernel
theorem dL_law_251 : decode cL_law 251 = .ok (.isub, 1) := by decide +kernel
theorem dL_law_252 : decode cL_law 252 = .ok (.invokevirtual 18, 3) := by decide +kernel
theorem dL_law_255 : decode cL_law 255 = .ok (.iload 8, 2) := by decide +kernel
theorem dL_law_257 : decode cL_law 257 = .ok (.iload 6, 2) := by decide +kernel
theorem dL_law_259 : decode cL_law 259 = .ok (.iadd, 1) := by decide +kernel
theorem dL_law_260 : decode cL_law 260 = .ok (.if_icmp .ne 7, 3) := by decide +kernel
theorem dL_law_263 : decode cL_law 263 = .ok (.iconst 1, 1) := by decide +kernel
theorem dL_law_264 : decode cL_law 264 = .ok (.goto 4, 3) := by decide +kernel
theorem dL_law_267 : decode cL_law 267 = .ok (.iconst 0, 1) := by decide +kernel
theorem dL_law_268 : decode cL_law 268 = .ok (.istore_n 2, 1) := by decide +kernel
theorem dL_law_269 : decode cL_law 269 = .ok (.goto 65, 3) := by decide +kernel
theorem dL_law_272 : decode cL_law 272 = .ok (.iload 7, 2) := by decide +kernel
theorem dL_law_274 : decode cL_law 274 = .ok (.bipush 12, 2) := by decide +kernel
theorem dL_law_276 : decode cL_law 276 = .ok (.if_icmp .ge 15, 3) := by decide +kernel
theorem dL_law_279 : decode cL_law 279 = .ok (.aload_n 1, 1) := by decide +kernel
theorem dL_law_280 : decode cL_law 280 = .ok (.iload 5, 2) := by decide +kernel
theorem dL_law_282 : decode cL_law 282 = .ok (.iload 6, 2) := by decide +kernel
theorem dL_law_284 : decode cL_law 284 = .ok (.invokestatic 85, 3) := by decide +kernel
theorem dL_law_287 : decode cL_law 287 = .ok (.istore_n 2, 1) := by decide +kernel
theorem dL_law_288 : decode cL_law 288 = .ok (.goto 46, 3) := by decide +kernel
theorem dL_law_291 : decode cL_law 291 = .ok (.iload 7, 2) := by decide +kernel
theorem dL_law_293 : decode cL_law 293 = .ok (.bipush 14, 2) := by decide +kernel
theorem dL_law_295 : decode cL_law 295 = .ok (.if_icmp .ge 13, 3) := by decide +kernel
theorem dL_law_298 : decode cL_law 298 = .ok (.aload_n 1, 1) := by decide +kernel
theorem dL_law_299 : decode cL_law 299 = .ok (.iload 5, 2) := by decide +kernel
theorem dL_law_301 : decode cL_law 301 = .ok (.invokestatic 89, 3) := by decide +kernel
theorem dL_law_304 : decode cL_law 304 = .ok (.istore_n 2, 1) := by decide +kernel
theorem dL_law_305 : decode cL_law 305 = .ok (.goto 29, 3) := by decide +kernel
theorem dL_law_308 : decode cL_law 308 = .ok (.aload_n 1, 1) := by decide +kernel
theorem dL_law_309 : decode cL_law 309 = .ok (.iload 5, 2) := by decide +kernel
theorem dL_law_311 : decode cL_law 311 = .ok (.iload 5, 2) := by decide +kernel
theorem dL_law_313 : decode cL_law 313 = .ok (.iconst 1, 1) := by decide +kernel
theorem dL_law_314 : decode cL_law 314 = .ok (.iadd, 1) := by decide +kernel
theorem dL_law_315 : decode cL_law 315 = .ok (.iload 4, 2) := by decide +kernel
theorem dL_law_317 : decode cL_law 317 = .ok (.sipush 128, 3) := by decide +kernel
theorem dL_law_320 : decode cL_law 320 = .ok (.idiv, 1) := by decide +kernel
theorem dL_law_321 : decode cL_law 321 = .ok (.bipush 7, 2) := by decide +kernel
theorem dL_law_323 : decode cL_law 323 = .ok (.irem, 1) := by decide +kernel
theorem dL_law_324 : decode cL_law 324 = .ok (.iadd, 1) := by decide +kernel
theorem dL_law_325 : decode cL_law 325 = .ok (.bipush 8, 2) := by decide +kernel
theorem dL_law_327 : decode cL_law 327 = .ok (.irem, 1) := by decide +kernel
theorem dL_law_328 : decode cL_law 328 = .ok (.iload 6, 2) := by decide +kernel
theorem dL_law_330 : decode cL_law 330 = .ok (.invokestatic 93, 3) := by decide +kernel
theorem dL_law_333 : decode cL_law 333 = .ok (.istore_n 2, 1) := by decide +kernel
theorem dL_law_334 : decode cL_law 334 = .ok (.iload_n 2, 1) := by decide +kernel
theorem dL_law_335 : decode cL_law 335 = .ok (.ifCond .eq 21, 3) := by decide +kernel
theorem dL_law_338 : decode cL_law 338 = .ok (.aload_n 1, 1) := by decide +kernel
theorem dL_law_339 : decode cL_law 339 = .ok (.invokestatic 97, 3) := by decide +kernel
theorem dL_law_342 : decode cL_law 342 = .ok (.ifCond .eq 14, 3) := by decide +kernel
theorem dL_law_345 : decode cL_law 345 = .ok (.aload_n 1, 1) := by decide +kernel
theorem dL_law_346 : decode cL_law 346 = .ok (.invokestatic 101, 3) := by decide +kernel
theorem dL_law_349 : decode cL_law 349 = .ok (.ifCond .eq 7, 3) := by decide +kernel
theorem dL_law_352 : decode cL_law 352 = .ok (.iconst 1, 1) := by decide +kernel
theorem dL_law_353 : decode cL_law 353 = .ok (.goto 4, 3) := by decide +kernel
theorem dL_law_356 : decode cL_law 356 = .ok (.iconst 0, 1) := by decide +kernel
theorem dL_law_357 : decode cL_law 357 = .ok (.istore_n 2, 1) := by decide +kernel
theorem dL_law_358 : decode cL_law 358 = .ok (.iinc 3 1, 3) := by decide +kernel
theorem dL_law_361 : decode cL_law 361 = .ok (.goto (-349), 3) := by decide +kernel
theorem dL_law_364 : decode cL_law 364 = .ok (.iconst 0, 1) := by decide +kernel
theorem dL_law_365 : decode cL_law 365 = .ok (.istore_n 3, 1) := by decide +kernel
theorem dL_law_366 : decode cL_law 366 = .ok (.iload_n 3, 1) := by decide +kernel
theorem dL_law_367 : decode cL_law 367 = .ok (.bipush 8, 2) := by decide +kernel
theorem dL_law_369 : decode cL_law 369 = .ok (.if_icmp .ge 42, 3) := by decide +kernel
theorem dL_law_372 : decode cL_law 372 = .ok (.iload_n 2, 1) := by decide +kernel
theorem dL_law_373 : decode cL_law 373 = .ok (.ifCond .eq 38, 3) := by decide +kernel
theorem dL_law_376 : decode cL_law 376 = .ok (.iload_n 2, 1) := by decide +kernel
theorem dL_law_377 : decode cL_law 377 = .ok (.ifCond .eq 28, 3) := by decide +kernel
theorem dL_law_380 : decode cL_law 380 = .ok (.aload_n 1, 1) := by decide +kernel
theorem dL_law_381 : decode cL_law 381 = .ok (.iload_n 3, 1) := by decide +kernel
theorem dL_law_382 : decode cL_law 382 = .ok (.invokevirtual 51, 3) := by decide +kernel
theorem dL_law_385 : decode cL_law 385 = .ok (.ifCond .le 20, 3) := by decide +kernel
theorem dL_law_388 : decode cL_law 388 = .ok (.aload_n 1, 1) := by decide +kernel
theorem dL_law_389 : decode cL_law 389 = .ok (.iload_n 3, 1) := by decide +kernel
theorem dL_law_390 : decode cL_law 390 = .ok (.invokevirtual 64, 3) := by decide +kernel
theorem dL_law_393 : decode cL_law 393 = .ok (.ifCond .le 7, 3) := by decide +kernel
theorem dL_law_396 : decode cL_law 396 = .ok (.iconst 1, 1) := by decide +kernel
theorem dL_law_397 : decode cL_law 397 = .ok (.goto 4, 3) := by decide +kernel
theorem dL_law_400 : decode cL_law 400 = .ok (.iconst 0, 1) := by decide +kernel
theorem dL_law_401 : decode cL_law 401 = .ok (.istore_n 2, 1) := by decide +kernel
theorem dL_law_402 : decode cL_law 402 = .ok (.goto (-26), 3) := by decide +kernel
theorem dL_law_405 : decode cL_law 405 = .ok (.iinc 3 1, 3) := by decide +kernel
theorem dL_law_408 : decode cL_law 408 = .ok (.goto (-42), 3) := by decide +kernel
theorem dL_law_411 : decode cL_law 411 = .ok (.aload_n 1, 1) := by decide +kernel
theorem dL_law_412 : decode cL_law 412 = .ok (.invokevirtual 104, 3) := by decide +kernel
theorem dL_law_415 : decode cL_law 415 = .ok (.istore_n 3, 1) := by decide +kernel
theorem dL_law_416 : decode cL_law 416 = .ok (.iload_n 2, 1) := by decide +kernel
theorem dL_law_417 : decode cL_law 417 = .ok (.ifCond .eq 77, 3) := by decide +kernel
theorem dL_law_420 : decode cL_law 420 = .ok (.aload_n 1, 1) := by decide +kernel
theorem dL_law_421 : decode cL_law 421 = .ok (.invokevirtual 33, 3) := by decide +kernel
theorem dL_law_424 : decode cL_law 424 = .ok (.ifCond .ne 70, 3) := by decide +kernel
theorem dL_law_427 : decode cL_law 427 = .ok (.aload_n 1, 1) := by decide +kernel
theorem dL_law_428 : decode cL_law 428 = .ok (.invokevirtual 45, 3) := by decide +kernel
theorem dL_law_431 : decode cL_law 431 = .ok (.aload_n 1, 1) := by decide +kernel
theorem dL_law_432 : decode cL_law 432 = .ok (.invokevirtual 48, 3) := by decide +kernel
theorem dL_law_435 : decode cL_law 435 = .ok (.iadd, 1) := by decide +kernel
theorem dL_law_436 : decode cL_law 436 = .ok (.aload_n 1, 1) := by decide +kernel
theorem dL_law_437 : decode cL_law 437 = .ok (.invokevirtual 27, 3) := by decide +kernel
theorem dL_law_440 : decode cL_law 440 = .ok (.if_icmp .ne 54, 3) := by decide +kernel
theorem dL_law_443 : decode cL_law 443 = .ok (.aload_n 1, 1) := by decide +kernel
theorem dL_law_444 : decode cL_law 444 = .ok (.invokevirtual 107, 3) := by decide +kernel
theorem dL_law_447 : decode cL_law 447 = .ok (.iload_n 3, 1) := by decide +kernel
theorem dL_law_448 : decode cL_law 448 = .ok (.iconst 1, 1) := by decide +kernel
theorem dL_law_449 : decode cL_law 449 = .ok (.iadd, 1) := by decide +kernel
theorem dL_law_450 : decode cL_law 450 = .ok (.if_icmp .ne 44, 3) := by decide +kernel
theorem dL_law_453 : decode cL_law 453 = .ok (.aload_n 1, 1) := by decide +kernel
theorem dL_law_454 : decode cL_law 454 = .ok (.invokevirtual 24, 3) := by decide +kernel
theorem dL_law_457 : decode cL_law 457 = .ok (.iconst 1, 1) := by decide +kernel
theorem dL_law_458 : decode cL_law 458 = .ok (.if_icmp .ne 36, 3) := by decide +kernel
theorem dL_law_461 : decode cL_law 461 = .ok (.aload_n 1, 1) := by decide +kernel
theorem dL_law_462 : decode cL_law 462 = .ok (.iconst 0, 1) := by decide +kernel
theorem dL_law_463 : decode cL_law 463 = .ok (.invokevirtual 21, 3) := by decide +kernel
theorem dL_law_466 : decode cL_law 466 = .ok (.iconst 1, 1) := by decide +kernel
theorem dL_law_467 : decode cL_law 467 = .ok (.if_icmp .ne 27, 3) := by decide +kernel
theorem dL_law_470 : decode cL_law 470 = .ok (.aload_n 1, 1) := by decide +kernel
theorem dL_law_471 : decode cL_law 471 = .ok (.iconst 0, 1) := by decide +kernel
theorem dL_law_472 : decode cL_law 472 = .ok (.invokevirtual 18, 3) := by decide +kernel
theorem dL_law_475 : decode cL_law 475 = .ok (.aload_n 1, 1) := by decide +kernel
theorem dL_law_476 : decode cL_law 476 = .ok (.invokevirtual 27, 3) := by decide +kernel
theorem dL_law_479 : decode cL_law 479 = .ok (.if_icmp .ne 15, 3) := by decide +kernel
theorem dL_law_482 : decode cL_law 482 = .ok (.aload_n 1, 1) := by decide +kernel
theorem dL_law_483 : decode cL_law 483 = .ok (.invokevirtual 36, 3) := by decide +kernel
theorem dL_law_486 : decode cL_law 486 = .ok (.iconst 1, 1) := by decide +kernel
theorem dL_law_487 : decode cL_law 487 = .ok (.if_icmp .ne 7, 3) := by decide +kernel
theorem dL_law_490 : decode cL_law 490 = .ok (.iconst 1, 1) := by decide +kernel
theorem dL_law_491 : decode cL_law 491 = .ok (.goto 4, 3) := by decide +kernel
theorem dL_law_494 : decode cL_law 494 = .ok (.iconst 0, 1) := by decide +kernel
theorem dL_law_495 : decode cL_law 495 = .ok (.ireturn, 1) := by decide +kernel
