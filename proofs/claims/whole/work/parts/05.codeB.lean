theorem dX2_init_0 : decode cX2_init 0 = .ok (.aload_n 0, 1) := by decide +kernel
theorem dX2_init_1 : decode cX2_init 1 = .ok (.invokespecial 1, 3) := by decide +kernel
theorem dX2_init_4 : decode cX2_init 4 = .ok (.aload_n 0, 1) := by decide +kernel
theorem dX2_init_5 : decode cX2_init 5 = .ok (.sipush 5002, 3) := by decide +kernel
theorem dX2_init_8 : decode cX2_init 8 = .ok (.newarray .int, 2) := by decide +kernel
theorem dX2_init_10 : decode cX2_init 10 = .ok (.putfield 7, 3) := by decide +kernel
theorem dX2_init_13 : decode cX2_init 13 = .ok (.aload_n 0, 1) := by decide +kernel
theorem dX2_init_14 : decode cX2_init 14 = .ok (.bipush 100, 2) := by decide +kernel
theorem dX2_init_16 : decode cX2_init 16 = .ok (.putfield 13, 3) := by decide +kernel
theorem dX2_init_19 : decode cX2_init 19 = .ok (.aload_n 0, 1) := by decide +kernel
theorem dX2_init_20 : decode cX2_init 20 = .ok (.iconst 1, 1) := by decide +kernel
theorem dX2_init_21 : decode cX2_init 21 = .ok (.putfield 17, 3) := by decide +kernel
theorem dX2_init_24 : decode cX2_init 24 = .ok (.iconst 1, 1) := by decide +kernel
theorem dX2_init_25 : decode cX2_init 25 = .ok (.istore_n 1, 1) := by decide +kernel
theorem dX2_init_26 : decode cX2_init 26 = .ok (.iload_n 1, 1) := by decide +kernel
theorem dX2_init_27 : decode cX2_init 27 = .ok (.aload_n 0, 1) := by decide +kernel
theorem dX2_init_28 : decode cX2_init 28 = .ok (.getfield 13, 3) := by decide +kernel
theorem dX2_init_31 : decode cX2_init 31 = .ok (.if_icmp .gt 17, 3) := by decide +kernel
theorem dX2_init_34 : decode cX2_init 34 = .ok (.aload_n 0, 1) := by decide +kernel
theorem dX2_init_35 : decode cX2_init 35 = .ok (.getfield 7, 3) := by decide +kernel
theorem dX2_init_38 : decode cX2_init 38 = .ok (.iload_n 1, 1) := by decide +kernel
theorem dX2_init_39 : decode cX2_init 39 = .ok (.bipush 8, 2) := by decide +kernel
theorem dX2_init_41 : decode cX2_init 41 = .ok (.iastore, 1) := by decide +kernel
theorem dX2_init_42 : decode cX2_init 42 = .ok (.iinc 1 1, 3) := by decide +kernel
theorem dX2_init_45 : decode cX2_init 45 = .ok (.goto (-19), 3) := by decide +kernel
theorem dX2_init_48 : decode cX2_init 48 = .ok (.return_, 1) := by decide +kernel
theorem dX2_thrown_0 : decode cX2_thrown 0 = .ok (.aload_n 0, 1) := by decide +kernel
theorem dX2_thrown_1 : decode cX2_thrown 1 = .ok (.getfield 20, 3) := by decide +kernel
theorem dX2_thrown_4 : decode cX2_thrown 4 = .ok (.ireturn, 1) := by decide +kernel
theorem dX2_isGoblet_0 : decode cX2_isGoblet 0 = .ok (.iload_n 0, 1) := by decide +kernel
theorem dX2_isGoblet_1 : decode cX2_isGoblet 1 = .ok (.ifCond .lt 13, 3) := by decide +kernel
theorem dX2_isGoblet_4 : decode cX2_isGoblet 4 = .ok (.iload_n 0, 1) := by decide +kernel
theorem dX2_isGoblet_5 : decode cX2_isGoblet 5 = .ok (.bipush 8, 2) := by decide +kernel
theorem dX2_isGoblet_7 : decode cX2_isGoblet 7 = .ok (.if_icmp .ge 7, 3) := by decide +kernel
theorem dX2_isGoblet_10 : decode cX2_isGoblet 10 = .ok (.iconst 1, 1) := by decide +kernel
theorem dX2_isGoblet_11 : decode cX2_isGoblet 11 = .ok (.goto 4, 3) := by decide +kernel
theorem dX2_isGoblet_14 : decode cX2_isGoblet 14 = .ok (.iconst 0, 1) := by decide +kernel
theorem dX2_isGoblet_15 : decode cX2_isGoblet 15 = .ok (.ireturn, 1) := by decide +kernel
theorem dX2_howMany_0 : decode cX2_howMany 0 = .ok (.iconst 0, 1) := by decide +kernel
theorem dX2_howMany_1 : decode cX2_howMany 1 = .ok (.istore_n 2, 1) := by decide +kernel
theorem dX2_howMany_2 : decode cX2_howMany 2 = .ok (.iconst 1, 1) := by decide +kernel
theorem dX2_howMany_3 : decode cX2_howMany 3 = .ok (.istore_n 3, 1) := by decide +kernel
theorem dX2_howMany_4 : decode cX2_howMany 4 = .ok (.iload_n 3, 1) := by decide +kernel
theorem dX2_howMany_5 : decode cX2_howMany 5 = .ok (.aload_n 0, 1) := by decide +kernel
theorem dX2_howMany_6 : decode cX2_howMany 6 = .ok (.getfield 13, 3) := by decide +kernel
theorem dX2_howMany_9 : decode cX2_howMany 9 = .ok (.if_icmp .gt 27, 3) := by decide +kernel
theorem dX2_howMany_12 : decode cX2_howMany 12 = .ok (.iload_n 2, 1) := by decide +kernel
theorem dX2_howMany_13 : decode cX2_howMany 13 = .ok (.aload_n 0, 1) := by decide +kernel
theorem dX2_howMany_14 : decode cX2_howMany 14 = .ok (.getfield 7, 3) := by decide +kernel
theorem dX2_howMany_17 : decode cX2_howMany 17 = .ok (.iload_n 3, 1) := by decide +kernel
theorem dX2_howMany_18 : decode cX2_howMany 18 = .ok (.iaload, 1) := by decide +kernel
theorem dX2_howMany_19 : decode cX2_howMany 19 = .ok (.iload_n 1, 1) := by decide +kernel
theorem dX2_howMany_20 : decode cX2_howMany 20 = .ok (.if_icmp .ne 7, 3) := by decide +kernel
theorem dX2_howMany_23 : decode cX2_howMany 23 = .ok (.iconst 1, 1) := by decide +kernel
theorem dX2_howMany_24 : decode cX2_howMany 24 = .ok (.goto 4, 3) := by decide +kernel
theorem dX2_howMany_27 : decode cX2_howMany 27 = .ok (.iconst 0, 1) := by decide +kernel
theorem dX2_howMany_28 : decode cX2_howMany 28 = .ok (.iadd, 1) := by decide +kernel
theorem dX2_howMany_29 : decode cX2_howMany 29 = .ok (.istore_n 2, 1) := by decide +kernel
theorem dX2_howMany_30 : decode cX2_howMany 30 = .ok (.iinc 3 1, 3) := by decide +kernel
theorem dX2_howMany_33 : decode cX2_howMany 33 = .ok (.goto (-29), 3) := by decide +kernel
theorem dX2_howMany_36 : decode cX2_howMany 36 = .ok (.iload_n 2, 1) := by decide +kernel
theorem dX2_howMany_37 : decode cX2_howMany 37 = .ok (.ireturn, 1) := by decide +kernel
theorem dX2_lowest_0 : decode cX2_lowest 0 = .ok (.iconst 1, 1) := by decide +kernel
theorem dX2_lowest_1 : decode cX2_lowest 1 = .ok (.istore_n 2, 1) := by decide +kernel
theorem dX2_lowest_2 : decode cX2_lowest 2 = .ok (.iload_n 2, 1) := by decide +kernel
theorem dX2_lowest_3 : decode cX2_lowest 3 = .ok (.aload_n 0, 1) := by decide +kernel
theorem dX2_lowest_4 : decode cX2_lowest 4 = .ok (.getfield 13, 3) := by decide +kernel
theorem dX2_lowest_7 : decode cX2_lowest 7 = .ok (.if_icmp .gt 19, 3) := by decide +kernel
theorem dX2_lowest_10 : decode cX2_lowest 10 = .ok (.aload_n 0, 1) := by decide +kernel
theorem dX2_lowest_11 : decode cX2_lowest 11 = .ok (.getfield 7, 3) := by decide +kernel
theorem dX2_lowest_14 : decode cX2_lowest 14 = .ok (.iload_n 2, 1) := by decide +kernel
theorem dX2_lowest_15 : decode cX2_lowest 15 = .ok (.iaload, 1) := by decide +kernel
theorem dX2_lowest_16 : decode cX2_lowest 16 = .ok (.iload_n 1, 1) := by decide +kernel
theorem dX2_lowest_17 : decode cX2_lowest 17 = .ok (.if_icmp .eq 9, 3) := by decide +kernel
theorem dX2_lowest_20 : decode cX2_lowest 20 = .ok (.iinc 2 1, 3) := by decide +kernel
theorem dX2_lowest_23 : decode cX2_lowest 23 = .ok (.goto (-21), 3) := by decide +kernel
theorem dX2_lowest_26 : decode cX2_lowest 26 = .ok (.iload_n 2, 1) := by decide +kernel
theorem dX2_lowest_27 : decode cX2_lowest 27 = .ok (.aload_n 0, 1) := by decide +kernel
theorem dX2_lowest_28 : decode cX2_lowest 28 = .ok (.getfield 13, 3) := by decide +kernel
theorem dX2_lowest_31 : decode cX2_lowest 31 = .ok (.if_icmp .le 7, 3) := by decide +kernel
theorem dX2_lowest_34 : decode cX2_lowest 34 = .ok (.iconst 0, 1) := by decide +kernel
theorem dX2_lowest_35 : decode cX2_lowest 35 = .ok (.goto 4, 3) := by decide +kernel
theorem dX2_lowest_38 : decode cX2_lowest 38 = .ok (.iload_n 2, 1) := by decide +kernel
theorem dX2_lowest_39 : decode cX2_lowest 39 = .ok (.ireturn, 1) := by decide +kernel
theorem dX2_moves_0 : decode cX2_moves 0 = .ok (.iconst 0, 1) := by decide +kernel
theorem dX2_moves_1 : decode cX2_moves 1 = .ok (.istore_n 3, 1) := by decide +kernel
theorem dX2_moves_2 : decode cX2_moves 2 = .ok (.iconst 1, 1) := by decide +kernel
theorem dX2_moves_3 : decode cX2_moves 3 = .ok (.istore 4, 2) := by decide +kernel
theorem dX2_moves_5 : decode cX2_moves 5 = .ok (.iload 4, 2) := by decide +kernel
theorem dX2_moves_7 : decode cX2_moves 7 = .ok (.aload_n 0, 1) := by decide +kernel
theorem dX2_moves_8 : decode cX2_moves 8 = .ok (.getfield 13, 3) := by decide +kernel
theorem dX2_moves_11 : decode cX2_moves 11 = .ok (.if_icmp .gt 31, 3) := by decide +kernel
theorem dX2_moves_14 : decode cX2_moves 14 = .ok (.aload_n 0, 1) := by decide +kernel
theorem dX2_moves_15 : decode cX2_moves 15 = .ok (.getfield 7, 3) := by decide +kernel
theorem dX2_moves_18 : decode cX2_moves 18 = .ok (.iload 4, 2) := by decide +kernel
theorem dX2_moves_20 : decode cX2_moves 20 = .ok (.iaload, 1) := by decide +kernel
theorem dX2_moves_21 : decode cX2_moves 21 = .ok (.iload_n 1, 1) := by decide +kernel
theorem dX2_moves_22 : decode cX2_moves 22 = .ok (.if_icmp .ne 14, 3) := by decide +kernel
theorem dX2_moves_25 : decode cX2_moves 25 = .ok (.aload_n 0, 1) := by decide +kernel
theorem dX2_moves_26 : decode cX2_moves 26 = .ok (.getfield 7, 3) := by decide +kernel
theorem dX2_moves_29 : decode cX2_moves 29 = .ok (.iload 4, 2) := by decide +kernel
theorem dX2_moves_31 : decode cX2_moves 31 = .ok (.iload_n 2, 1) := by decide +kernel
theorem dX2_moves_32 : decode cX2_moves 32 = .ok (.iastore, 1) := by decide +kernel
theorem dX2_moves_33 : decode cX2_moves 33 = .ok (.iinc 3 1, 3) := by decide +kernel
theorem dX2_moves_36 : decode cX2_moves 36 = .ok (.iinc 4 1, 3) := by decide +kernel
theorem dX2_moves_39 : decode cX2_moves 39 = .ok (.goto (-34), 3) := by decide +kernel
theorem dX2_moves_42 : decode cX2_moves 42 = .ok (.iload_n 3, 1) := by decide +kernel
theorem dX2_moves_43 : decode cX2_moves 43 = .ok (.ireturn, 1) := by decide +kernel
theorem dX2_begins_0 : decode cX2_begins 0 = .ok (.aload_n 0, 1) := by decide +kernel
theorem dX2_begins_1 : decode cX2_begins 1 = .ok (.getfield 7, 3) := by decide +kernel
theorem dX2_begins_4 : decode cX2_begins 4 = .ok (.iload_n 1, 1) := by decide +kernel
theorem dX2_begins_5 : decode cX2_begins 5 = .ok (.iaload, 1) := by decide +kernel
theorem dX2_begins_6 : decode cX2_begins 6 = .ok (.iload_n 2, 1) := by decide +kernel
theorem dX2_begins_7 : decode cX2_begins 7 = .ok (.if_icmp .ne 24, 3) := by decide +kernel
theorem dX2_begins_10 : decode cX2_begins 10 = .ok (.iload_n 1, 1) := by decide +kernel
theorem dX2_begins_11 : decode cX2_begins 11 = .ok (.iconst 1, 1) := by decide +kernel
theorem dX2_begins_12 : decode cX2_begins 12 = .ok (.if_icmp .eq 15, 3) := by decide +kernel
theorem dX2_begins_15 : decode cX2_begins 15 = .ok (.aload_n 0, 1) := by decide +kernel
theorem dX2_begins_16 : decode cX2_begins 16 = .ok (.getfield 7, 3) := by decide +kernel
theorem dX2_begins_19 : decode cX2_begins 19 = .ok (.iload_n 1, 1) := by decide +kernel
theorem dX2_begins_20 : decode cX2_begins 20 = .ok (.iconst 1, 1) := by decide +kernel
theorem dX2_begins_21 : decode cX2_begins 21 = .ok (.isub, 1) := by decide +kernel
theorem dX2_begins_22 : decode cX2_begins 22 = .ok (.iaload, 1) := by decide +kernel
theorem dX2_begins_23 : decode cX2_begins 23 = .ok (.iload_n 2, 1) := by decide +kernel
theorem dX2_begins_24 : decode cX2_begins 24 = .ok (.if_icmp .eq 7, 3) := by decide +kernel
theorem dX2_begins_27 : decode cX2_begins 27 = .ok (.iconst 1, 1) := by decide +kernel
theorem dX2_begins_28 : decode cX2_begins 28 = .ok (.goto 4, 3) := by decide +kernel
theorem dX2_begins_31 : decode cX2_begins 31 = .ok (.iconst 0, 1) := by decide +kernel
theorem dX2_begins_32 : decode cX2_begins 32 = .ok (.ireturn, 1) := by decide +kernel
theorem dX2_ends_0 : decode cX2_ends 0 = .ok (.aload_n 0, 1) := by decide +kernel
theorem dX2_ends_1 : decode cX2_ends 1 = .ok (.getfield 7, 3) := by decide +kernel
theorem dX2_ends_4 : decode cX2_ends 4 = .ok (.iload_n 1, 1) := by decide +kernel
theorem dX2_ends_5 : decode cX2_ends 5 = .ok (.iaload, 1) := by decide +kernel
theorem dX2_ends_6 : decode cX2_ends 6 = .ok (.iload_n 2, 1) := by decide +kernel
theorem dX2_ends_7 : decode cX2_ends 7 = .ok (.if_icmp .ne 27, 3) := by decide +kernel
theorem dX2_ends_10 : decode cX2_ends 10 = .ok (.iload_n 1, 1) := by decide +kernel
theorem dX2_ends_11 : decode cX2_ends 11 = .ok (.aload_n 0, 1) := by decide +kernel
theorem dX2_ends_12 : decode cX2_ends 12 = .ok (.getfield 13, 3) := by decide +kernel
theorem dX2_ends_15 : decode cX2_ends 15 = .ok (.if_icmp .eq 15, 3) := by decide +kernel
theorem dX2_ends_18 : decode cX2_ends 18 = .ok (.aload_n 0, 1) := by decide +kernel
theorem dX2_ends_19 : decode cX2_ends 19 = .ok (.getfield 7, 3) := by decide +kernel
theorem dX2_ends_22 : decode cX2_ends 22 = .ok (.iload_n 1, 1) := by decide +kernel
theorem dX2_ends_23 : decode cX2_ends 23 = .ok (.iconst 1, 1) := by decide +kernel
theorem dX2_ends_24 : decode cX2_ends 24 = .ok (.iadd, 1) := by decide +kernel
theorem dX2_ends_25 : decode cX2_ends 25 = .ok (.iaload, 1) := by decide +kernel
theorem dX2_ends_26 : decode cX2_ends 26 = .ok (.iload_n 2, 1) := by decide +kernel
theorem dX2_ends_27 : decode cX2_ends 27 = .ok (.if_icmp .eq 7, 3) := by decide +kernel
theorem dX2_ends_30 : decode cX2_ends 30 = .ok (.iconst 1, 1) := by decide +kernel
theorem dX2_ends_31 : decode cX2_ends 31 = .ok (.goto 4, 3) := by decide +kernel
theorem dX2_ends_34 : decode cX2_ends 34 = .ok (.iconst 0, 1) := by decide +kernel
theorem dX2_ends_35 : decode cX2_ends 35 = .ok (.ireturn, 1) := by decide +kernel
set_option maxRecDepth 20000 in
theorem ggX2_rangesIn_X2_begins : GoodIn wsX2_rangesIn wsX2_begins := goodIn_r _ [6, 7, 8, 9, 10, 11] (by decide +kernel) (by decide +kernel)
set_option maxRecDepth 20000 in
theorem gX2_rangesIn_X2_begins : GoodIn wsX2_rangesIn (wsV RX2 23 RX2 yX2_begins wsX2_begins) := goodIn_app (goodIn_of _ (by decide +kernel)) ggX2_rangesIn_X2_begins
theorem dX2_rangesIn_0 : decode cX2_rangesIn 0 = .ok (.iconst 0, 1) := by decide +kernel
theorem dX2_rangesIn_1 : decode cX2_rangesIn 1 = .ok (.istore_n 2, 1) := by decide +kernel
theorem dX2_rangesIn_2 : decode cX2_rangesIn 2 = .ok (.iconst 1, 1) := by decide +kernel
theorem dX2_rangesIn_3 : decode cX2_rangesIn 3 = .ok (.istore_n 3, 1) := by decide +kernel
theorem dX2_rangesIn_4 : decode cX2_rangesIn 4 = .ok (.iload_n 3, 1) := by decide +kernel
theorem dX2_rangesIn_5 : decode cX2_rangesIn 5 = .ok (.aload_n 0, 1) := by decide +kernel
theorem dX2_rangesIn_6 : decode cX2_rangesIn 6 = .ok (.getfield 13, 3) := by decide +kernel
theorem dX2_rangesIn_9 : decode cX2_rangesIn 9 = .ok (.if_icmp .gt 26, 3) := by decide +kernel
theorem dX2_rangesIn_12 : decode cX2_rangesIn 12 = .ok (.iload_n 2, 1) := by decide +kernel
theorem dX2_rangesIn_13 : decode cX2_rangesIn 13 = .ok (.aload_n 0, 1) := by decide +kernel
theorem dX2_rangesIn_14 : decode cX2_rangesIn 14 = .ok (.iload_n 3, 1) := by decide +kernel
theorem dX2_rangesIn_15 : decode cX2_rangesIn 15 = .ok (.iload_n 1, 1) := by decide +kernel
theorem dX2_rangesIn_16 : decode cX2_rangesIn 16 = .ok (.invokevirtual 23, 3) := by decide +kernel
theorem dX2_rangesIn_19 : decode cX2_rangesIn 19 = .ok (.ifCond .eq 7, 3) := by decide +kernel
theorem dX2_rangesIn_22 : decode cX2_rangesIn 22 = .ok (.iconst 1, 1) := by decide +kernel
theorem dX2_rangesIn_23 : decode cX2_rangesIn 23 = .ok (.goto 4, 3) := by decide +kernel
theorem dX2_rangesIn_26 : decode cX2_rangesIn 26 = .ok (.iconst 0, 1) := by decide +kernel
theorem dX2_rangesIn_27 : decode cX2_rangesIn 27 = .ok (.iadd, 1) := by decide +kernel
theorem dX2_rangesIn_28 : decode cX2_rangesIn 28 = .ok (.istore_n 2, 1) := by decide +kernel
theorem dX2_rangesIn_29 : decode cX2_rangesIn 29 = .ok (.iinc 3 1, 3) := by decide +kernel
theorem dX2_rangesIn_32 : decode cX2_rangesIn 32 = .ok (.goto (-28), 3) := by decide +kernel
theorem dX2_rangesIn_35 : decode cX2_rangesIn 35 = .ok (.iload_n 2, 1) := by decide +kernel
theorem dX2_rangesIn_36 : decode cX2_rangesIn 36 = .ok (.ireturn, 1) := by decide +kernel
set_option maxRecDepth 20000 in
theorem ggX2_enlarge_X2_howMany : GoodIn wsX2_enlarge wsX2_howMany := goodIn_r _ [8, 1, 3, 9, 10, 11, 12] (by decide +kernel) (by decide +kernel)
set_option maxRecDepth 20000 in
theorem gX2_enlarge_X2_howMany : GoodIn wsX2_enlarge (wsV RX2 27 RX2 yX2_howMany wsX2_howMany) := goodIn_app (goodIn_of _ (by decide +kernel)) ggX2_enlarge_X2_howMany
theorem dX2_enlarge_0 : decode cX2_enlarge 0 = .ok (.aload_n 0, 1) := by decide +kernel
theorem dX2_enlarge_1 : decode cX2_enlarge 1 = .ok (.iload_n 1, 1) := by decide +kernel
theorem dX2_enlarge_2 : decode cX2_enlarge 2 = .ok (.aload_n 0, 1) := by decide +kernel
theorem dX2_enlarge_3 : decode cX2_enlarge 3 = .ok (.getfield 13, 3) := by decide +kernel
theorem dX2_enlarge_6 : decode cX2_enlarge 6 = .ok (.if_icmp .le 14, 3) := by decide +kernel
theorem dX2_enlarge_9 : decode cX2_enlarge 9 = .ok (.iload_n 1, 1) := by decide +kernel
theorem dX2_enlarge_10 : decode cX2_enlarge 10 = .ok (.sipush 5000, 3) := by decide +kernel
theorem dX2_enlarge_13 : decode cX2_enlarge 13 = .ok (.if_icmp .gt 7, 3) := by decide +kernel
theorem dX2_enlarge_16 : decode cX2_enlarge 16 = .ok (.iconst 0, 1) := by decide +kernel
theorem dX2_enlarge_17 : decode cX2_enlarge 17 = .ok (.goto 4, 3) := by decide +kernel
theorem dX2_enlarge_20 : decode cX2_enlarge 20 = .ok (.iconst 1, 1) := by decide +kernel
theorem dX2_enlarge_21 : decode cX2_enlarge 21 = .ok (.putfield 20, 3) := by decide +kernel
theorem dX2_enlarge_24 : decode cX2_enlarge 24 = .ok (.aload_n 0, 1) := by decide +kernel
theorem dX2_enlarge_25 : decode cX2_enlarge 25 = .ok (.getfield 20, 3) := by decide +kernel
theorem dX2_enlarge_28 : decode cX2_enlarge 28 = .ok (.ifCond .eq 5, 3) := by decide +kernel
theorem dX2_enlarge_31 : decode cX2_enlarge 31 = .ok (.iconst 0, 1) := by decide +kernel
theorem dX2_enlarge_32 : decode cX2_enlarge 32 = .ok (.ireturn, 1) := by decide +kernel
theorem dX2_enlarge_33 : decode cX2_enlarge 33 = .ok (.aload_n 0, 1) := by decide +kernel
theorem dX2_enlarge_34 : decode cX2_enlarge 34 = .ok (.getfield 13, 3) := by decide +kernel
theorem dX2_enlarge_37 : decode cX2_enlarge 37 = .ok (.iconst 1, 1) := by decide +kernel
theorem dX2_enlarge_38 : decode cX2_enlarge 38 = .ok (.iadd, 1) := by decide +kernel
theorem dX2_enlarge_39 : decode cX2_enlarge 39 = .ok (.istore_n 2, 1) := by decide +kernel
theorem dX2_enlarge_40 : decode cX2_enlarge 40 = .ok (.iload_n 2, 1) := by decide +kernel
theorem dX2_enlarge_41 : decode cX2_enlarge 41 = .ok (.iload_n 1, 1) := by decide +kernel
theorem dX2_enlarge_42 : decode cX2_enlarge 42 = .ok (.if_icmp .gt 17, 3) := by decide +kernel
theorem dX2_enlarge_45 : decode cX2_enlarge 45 = .ok (.aload_n 0, 1) := by decide +kernel
theorem dX2_enlarge_46 : decode cX2_enlarge 46 = .ok (.getfield 7, 3) := by decide +kernel
theorem dX2_enlarge_49 : decode cX2_enlarge 49 = .ok (.iload_n 2, 1) := by decide +kernel
theorem dX2_enlarge_50 : decode cX2_enlarge 50 = .ok (.bipush 8, 2) := by decide +kernel
theorem dX2_enlarge_52 : decode cX2_enlarge 52 = .ok (.iastore, 1) := by decide +kernel
theorem dX2_enlarge_53 : decode cX2_enlarge 53 = .ok (.iinc 2 1, 3) := by decide +kernel
theorem dX2_enlarge_56 : decode cX2_enlarge 56 = .ok (.goto (-16), 3) := by decide +kernel
theorem dX2_enlarge_59 : decode cX2_enlarge 59 = .ok (.aload_n 0, 1) := by decide +kernel
theorem dX2_enlarge_60 : decode cX2_enlarge 60 = .ok (.iload_n 1, 1) := by decide +kernel
theorem dX2_enlarge_61 : decode cX2_enlarge 61 = .ok (.putfield 13, 3) := by decide +kernel
theorem dX2_enlarge_64 : decode cX2_enlarge 64 = .ok (.aload_n 0, 1) := by decide +kernel
theorem dX2_enlarge_65 : decode cX2_enlarge 65 = .ok (.bipush 8, 2) := by decide +kernel
theorem dX2_enlarge_67 : decode cX2_enlarge 67 = .ok (.invokevirtual 27, 3) := by decide +kernel
theorem dX2_enlarge_70 : decode cX2_enlarge 70 = .ok (.ireturn, 1) := by decide +kernel
set_option maxRecDepth 20000 in
theorem ggX2_pour_X2_isGoblet : GoodIn wsX2_pour wsX2_isGoblet := goodIn_r _ [7] (by decide +kernel) (by decide +kernel)
set_option maxRecDepth 20000 in
theorem gX2_pour_X2_isGoblet : GoodIn wsX2_pour (va_wsS RX2 31 yX2_isGoblet wsX2_isGoblet) := goodIn_app (goodIn_of _ (by decide +kernel)) ggX2_pour_X2_isGoblet
set_option maxRecDepth 20000 in
theorem ggX2_pour_X2_lowest : GoodIn wsX2_pour wsX2_lowest := goodIn_r _ [11, 2, 3, 12, 13, 14, 15] (by decide +kernel) (by decide +kernel)
set_option maxRecDepth 20000 in
theorem gX2_pour_X2_lowest : GoodIn wsX2_pour (wsV RX2 35 RX2 yX2_lowest wsX2_lowest) := goodIn_app (goodIn_of _ (by decide +kernel)) ggX2_pour_X2_lowest
theorem dX2_pour_0 : decode cX2_pour 0 = .ok (.aload_n 0, 1) := by decide +kernel
theorem dX2_pour_1 : decode cX2_pour 1 = .ok (.iload_n 1, 1) := by decide +kernel
theorem dX2_pour_2 : decode cX2_pour 2 = .ok (.invokestatic 31, 3) := by decide +kernel
theorem dX2_pour_5 : decode cX2_pour 5 = .ok (.ifCond .ne 7, 3) := by decide +kernel
theorem dX2_pour_8 : decode cX2_pour 8 = .ok (.iconst 1, 1) := by decide +kernel
theorem dX2_pour_9 : decode cX2_pour 9 = .ok (.goto 33, 3) := by decide +kernel
theorem dX2_pour_12 : decode cX2_pour 12 = .ok (.iload_n 2, 1) := by decide +kernel
theorem dX2_pour_13 : decode cX2_pour 13 = .ok (.iconst 1, 1) := by decide +kernel
theorem dX2_pour_14 : decode cX2_pour 14 = .ok (.if_icmp .lt 10, 3) := by decide +kernel
theorem dX2_pour_17 : decode cX2_pour 17 = .ok (.iload_n 2, 1) := by decide +kernel
theorem dX2_pour_18 : decode cX2_pour 18 = .ok (.sipush 200, 3) := by decide +kernel
theorem dX2_pour_21 : decode cX2_pour 21 = .ok (.if_icmp .le 7, 3) := by decide +kernel
theorem dX2_pour_24 : decode cX2_pour 24 = .ok (.iconst 2, 1) := by decide +kernel
theorem dX2_pour_25 : decode cX2_pour 25 = .ok (.goto 17, 3) := by decide +kernel
theorem dX2_pour_28 : decode cX2_pour 28 = .ok (.aload_n 0, 1) := by decide +kernel
theorem dX2_pour_29 : decode cX2_pour 29 = .ok (.bipush 8, 2) := by decide +kernel
theorem dX2_pour_31 : decode cX2_pour 31 = .ok (.invokevirtual 35, 3) := by decide +kernel
theorem dX2_pour_34 : decode cX2_pour 34 = .ok (.ifCond .ne 7, 3) := by decide +kernel
theorem dX2_pour_37 : decode cX2_pour 37 = .ok (.iconst 3, 1) := by decide +kernel
theorem dX2_pour_38 : decode cX2_pour 38 = .ok (.goto 4, 3) := by decide +kernel
theorem dX2_pour_41 : decode cX2_pour 41 = .ok (.iconst 0, 1) := by decide +kernel
theorem dX2_pour_42 : decode cX2_pour 42 = .ok (.putfield 20, 3) := by decide +kernel
theorem dX2_pour_45 : decode cX2_pour 45 = .ok (.iconst 0, 1) := by decide +kernel
theorem dX2_pour_46 : decode cX2_pour 46 = .ok (.istore_n 3, 1) := by decide +kernel
theorem dX2_pour_47 : decode cX2_pour 47 = .ok (.iconst 1, 1) := by decide +kernel
theorem dX2_pour_48 : decode cX2_pour 48 = .ok (.istore 4, 2) := by decide +kernel
theorem dX2_pour_50 : decode cX2_pour 50 = .ok (.iload 4, 2) := by decide +kernel
theorem dX2_pour_52 : decode cX2_pour 52 = .ok (.aload_n 0, 1) := by decide +kernel
theorem dX2_pour_53 : decode cX2_pour 53 = .ok (.getfield 13, 3) := by decide +kernel
theorem dX2_pour_56 : decode cX2_pour 56 = .ok (.if_icmp .gt 44, 3) := by decide +kernel
theorem dX2_pour_59 : decode cX2_pour 59 = .ok (.aload_n 0, 1) := by decide +kernel
theorem dX2_pour_60 : decode cX2_pour 60 = .ok (.getfield 20, 3) := by decide +kernel
theorem dX2_pour_63 : decode cX2_pour 63 = .ok (.ifCond .ne 37, 3) := by decide +kernel
theorem dX2_pour_66 : decode cX2_pour 66 = .ok (.iload_n 3, 1) := by decide +kernel
theorem dX2_pour_67 : decode cX2_pour 67 = .ok (.iload_n 2, 1) := by decide +kernel
theorem dX2_pour_68 : decode cX2_pour 68 = .ok (.if_icmp .ge 32, 3) := by decide +kernel
theorem dX2_pour_71 : decode cX2_pour 71 = .ok (.aload_n 0, 1) := by decide +kernel
theorem dX2_pour_72 : decode cX2_pour 72 = .ok (.getfield 7, 3) := by decide +kernel
theorem dX2_pour_75 : decode cX2_pour 75 = .ok (.iload 4, 2) := by decide +kernel
theorem dX2_pour_77 : decode cX2_pour 77 = .ok (.iaload, 1) := by decide +kernel
theorem dX2_pour_78 : decode cX2_pour 78 = .ok (.bipush 8, 2) := by decide +kernel
theorem dX2_pour_80 : decode cX2_pour 80 = .ok (.if_icmp .ne 14, 3) := by decide +kernel
theorem dX2_pour_83 : decode cX2_pour 83 = .ok (.aload_n 0, 1) := by decide +kernel
theorem dX2_pour_84 : decode cX2_pour 84 = .ok (.getfield 7, 3) := by decide +kernel
theorem dX2_pour_87 : decode cX2_pour 87 = .ok (.iload 4, 2) := by decide +kernel
theorem dX2_pour_89 : decode cX2_pour 89 = .ok (.iload_n 1, 1) := by decide +kernel
theorem dX2_pour_90 : decode cX2_pour 90 = .ok (.iastore, 1) := by decide +kernel
theorem dX2_pour_91 : decode cX2_pour 91 = .ok (.iinc 3 1, 3) := by decide +kernel
theorem dX2_pour_94 : decode cX2_pour 94 = .ok (.iinc 4 1, 3) := by decide +kernel
theorem dX2_pour_97 : decode cX2_pour 97 = .ok (.goto (-47), 3) := by decide +kernel
theorem dX2_pour_100 : decode cX2_pour 100 = .ok (.iload_n 3, 1) := by decide +kernel
theorem dX2_pour_101 : decode cX2_pour 101 = .ok (.ireturn, 1) := by decide +kernel
set_option maxRecDepth 20000 in
theorem ggX2_next_X2_lowest : GoodIn wsX2_next wsX2_lowest := goodIn_r _ [5, 6, 7, 8, 9, 10, 11] (by decide +kernel) (by decide +kernel)
set_option maxRecDepth 20000 in
theorem gX2_next_X2_lowest : GoodIn wsX2_next (wsV RX2 35 RX2 yX2_lowest wsX2_lowest) := goodIn_app (goodIn_of _ (by decide +kernel)) ggX2_next_X2_lowest
theorem dX2_next_0 : decode cX2_next 0 = .ok (.aload_n 0, 1) := by decide +kernel
theorem dX2_next_1 : decode cX2_next 1 = .ok (.iload_n 1, 1) := by decide +kernel
theorem dX2_next_2 : decode cX2_next 2 = .ok (.invokevirtual 35, 3) := by decide +kernel
theorem dX2_next_5 : decode cX2_next 5 = .ok (.istore_n 2, 1) := by decide +kernel
theorem dX2_next_6 : decode cX2_next 6 = .ok (.iload_n 2, 1) := by decide +kernel
theorem dX2_next_7 : decode cX2_next 7 = .ok (.ifCond .ne 12, 3) := by decide +kernel
theorem dX2_next_10 : decode cX2_next 10 = .ok (.aload_n 0, 1) := by decide +kernel
theorem dX2_next_11 : decode cX2_next 11 = .ok (.bipush 8, 2) := by decide +kernel
theorem dX2_next_13 : decode cX2_next 13 = .ok (.invokevirtual 35, 3) := by decide +kernel
theorem dX2_next_16 : decode cX2_next 16 = .ok (.goto 4, 3) := by decide +kernel
theorem dX2_next_19 : decode cX2_next 19 = .ok (.iload_n 2, 1) := by decide +kernel
theorem dX2_next_20 : decode cX2_next 20 = .ok (.ireturn, 1) := by decide +kernel
set_option maxRecDepth 20000 in
theorem ggX2_drink_X2_isGoblet : GoodIn wsX2_drink wsX2_isGoblet := goodIn_r _ [6] (by decide +kernel) (by decide +kernel)
set_option maxRecDepth 20000 in
theorem gX2_drink_X2_isGoblet : GoodIn wsX2_drink (va_wsS RX2 31 yX2_isGoblet wsX2_isGoblet) := goodIn_app (goodIn_of _ (by decide +kernel)) ggX2_drink_X2_isGoblet
set_option maxRecDepth 20000 in
theorem ggX2_drink_X2_next : GoodIn wsX2_drink wsX2_next := goodIn_r _ [10, 11, 12, 13, 5, 14, 15, 2, 16, 17, 18, 19] (by decide +kernel) (by decide +kernel)
set_option maxRecDepth 20000 in
theorem gX2_drink_X2_next : GoodIn wsX2_drink (wsV RX2 38 RX2 yX2_next wsX2_next) := goodIn_app (goodIn_of _ (by decide +kernel)) ggX2_drink_X2_next
theorem dX2_drink_0 : decode cX2_drink 0 = .ok (.iload_n 1, 1) := by decide +kernel
theorem dX2_drink_1 : decode cX2_drink 1 = .ok (.invokestatic 31, 3) := by decide +kernel
theorem dX2_drink_4 : decode cX2_drink 4 = .ok (.ifCond .eq 11, 3) := by decide +kernel
theorem dX2_drink_7 : decode cX2_drink 7 = .ok (.aload_n 0, 1) := by decide +kernel
theorem dX2_drink_8 : decode cX2_drink 8 = .ok (.iload_n 1, 1) := by decide +kernel
theorem dX2_drink_9 : decode cX2_drink 9 = .ok (.invokevirtual 38, 3) := by decide +kernel
theorem dX2_drink_12 : decode cX2_drink 12 = .ok (.goto 4, 3) := by decide +kernel
theorem dX2_drink_15 : decode cX2_drink 15 = .ok (.iconst 0, 1) := by decide +kernel
theorem dX2_drink_16 : decode cX2_drink 16 = .ok (.istore_n 2, 1) := by decide +kernel
theorem dX2_drink_17 : decode cX2_drink 17 = .ok (.aload_n 0, 1) := by decide +kernel
theorem dX2_drink_18 : decode cX2_drink 18 = .ok (.iload_n 1, 1) := by decide +kernel
theorem dX2_drink_19 : decode cX2_drink 19 = .ok (.invokestatic 31, 3) := by decide +kernel
theorem dX2_drink_22 : decode cX2_drink 22 = .ok (.ifCond .ne 7, 3) := by decide +kernel
theorem dX2_drink_25 : decode cX2_drink 25 = .ok (.iconst 1, 1) := by decide +kernel
theorem dX2_drink_26 : decode cX2_drink 26 = .ok (.goto 12, 3) := by decide +kernel
theorem dX2_drink_29 : decode cX2_drink 29 = .ok (.iload_n 2, 1) := by decide +kernel
theorem dX2_drink_30 : decode cX2_drink 30 = .ok (.ifCond .ne 7, 3) := by decide +kernel
theorem dX2_drink_33 : decode cX2_drink 33 = .ok (.iconst 2, 1) := by decide +kernel
theorem dX2_drink_34 : decode cX2_drink 34 = .ok (.goto 4, 3) := by decide +kernel
theorem dX2_drink_37 : decode cX2_drink 37 = .ok (.iconst 0, 1) := by decide +kernel
theorem dX2_drink_38 : decode cX2_drink 38 = .ok (.putfield 20, 3) := by decide +kernel
theorem dX2_drink_41 : decode cX2_drink 41 = .ok (.aload_n 0, 1) := by decide +kernel
theorem dX2_drink_42 : decode cX2_drink 42 = .ok (.getfield 20, 3) := by decide +kernel
theorem dX2_drink_45 : decode cX2_drink 45 = .ok (.ifCond .ne 11, 3) := by decide +kernel
theorem dX2_drink_48 : decode cX2_drink 48 = .ok (.aload_n 0, 1) := by decide +kernel
theorem dX2_drink_49 : decode cX2_drink 49 = .ok (.getfield 7, 3) := by decide +kernel
theorem dX2_drink_52 : decode cX2_drink 52 = .ok (.iload_n 2, 1) := by decide +kernel
theorem dX2_drink_53 : decode cX2_drink 53 = .ok (.bipush 9, 2) := by decide +kernel
theorem dX2_drink_55 : decode cX2_drink 55 = .ok (.iastore, 1) := by decide +kernel
theorem dX2_drink_56 : decode cX2_drink 56 = .ok (.iload_n 2, 1) := by decide +kernel
theorem dX2_drink_57 : decode cX2_drink 57 = .ok (.ireturn, 1) := by decide +kernel
set_option maxRecDepth 20000 in
theorem ggX2_pourBack_X2_isGoblet : GoodIn wsX2_pourBack wsX2_isGoblet := goodIn_r _ [5] (by decide +kernel) (by decide +kernel)
set_option maxRecDepth 20000 in
theorem gX2_pourBack_X2_isGoblet : GoodIn wsX2_pourBack (va_wsS RX2 31 yX2_isGoblet wsX2_isGoblet) := goodIn_app (goodIn_of _ (by decide +kernel)) ggX2_pourBack_X2_isGoblet
set_option maxRecDepth 20000 in
theorem ggX2_pourBack_X2_moves : GoodIn wsX2_pourBack wsX2_moves := goodIn_r _ [9, 10, 11, 12, 13, 14, 15] (by decide +kernel) (by decide +kernel)
set_option maxRecDepth 20000 in
theorem gX2_pourBack_X2_moves : GoodIn wsX2_pourBack (wsV RX2 41 RX2 yX2_moves wsX2_moves) := goodIn_app (goodIn_of _ (by decide +kernel)) ggX2_pourBack_X2_moves
theorem dX2_pourBack_0 : decode cX2_pourBack 0 = .ok (.aload_n 0, 1) := by decide +kernel
theorem dX2_pourBack_1 : decode cX2_pourBack 1 = .ok (.iload_n 1, 1) := by decide +kernel
theorem dX2_pourBack_2 : decode cX2_pourBack 2 = .ok (.invokestatic 31, 3) := by decide +kernel
theorem dX2_pourBack_5 : decode cX2_pourBack 5 = .ok (.ifCond .eq 7, 3) := by decide +kernel
theorem dX2_pourBack_8 : decode cX2_pourBack 8 = .ok (.iconst 0, 1) := by decide +kernel
theorem dX2_pourBack_9 : decode cX2_pourBack 9 = .ok (.goto 4, 3) := by decide +kernel
theorem dX2_pourBack_12 : decode cX2_pourBack 12 = .ok (.iconst 1, 1) := by decide +kernel
theorem dX2_pourBack_13 : decode cX2_pourBack 13 = .ok (.putfield 20, 3) := by decide +kernel
theorem dX2_pourBack_16 : decode cX2_pourBack 16 = .ok (.aload_n 0, 1) := by decide +kernel
theorem dX2_pourBack_17 : decode cX2_pourBack 17 = .ok (.getfield 20, 3) := by decide +kernel
theorem dX2_pourBack_20 : decode cX2_pourBack 20 = .ok (.ifCond .ne 13, 3) := by decide +kernel
theorem dX2_pourBack_23 : decode cX2_pourBack 23 = .ok (.aload_n 0, 1) := by decide +kernel
theorem dX2_pourBack_24 : decode cX2_pourBack 24 = .ok (.iload_n 1, 1) := by decide +kernel
theorem dX2_pourBack_25 : decode cX2_pourBack 25 = .ok (.bipush 8, 2) := by decide +kernel
theorem dX2_pourBack_27 : decode cX2_pourBack 27 = .ok (.invokevirtual 41, 3) := by decide +kernel
theorem dX2_pourBack_30 : decode cX2_pourBack 30 = .ok (.goto 4, 3) := by decide +kernel
theorem dX2_pourBack_33 : decode cX2_pourBack 33 = .ok (.iconst 0, 1) := by decide +kernel
theorem dX2_pourBack_34 : decode cX2_pourBack 34 = .ok (.ireturn, 1) := by decide +kernel
set_option maxRecDepth 20000 in
theorem ggX2_share_X2_isGoblet : GoodIn wsX2_share wsX2_isGoblet := goodIn_r _ [7] (by decide +kernel) (by decide +kernel)
set_option maxRecDepth 20000 in
theorem gX2_share_X2_isGoblet : GoodIn wsX2_share (va_wsS RX2 31 yX2_isGoblet wsX2_isGoblet) := goodIn_app (goodIn_of _ (by decide +kernel)) ggX2_share_X2_isGoblet
theorem dX2_share_0 : decode cX2_share 0 = .ok (.aload_n 0, 1) := by decide +kernel
theorem dX2_share_1 : decode cX2_share 1 = .ok (.iload_n 1, 1) := by decide +kernel
theorem dX2_share_2 : decode cX2_share 2 = .ok (.invokestatic 31, 3) := by decide +kernel
theorem dX2_share_5 : decode cX2_share 5 = .ok (.ifCond .eq 10, 3) := by decide +kernel
theorem dX2_share_8 : decode cX2_share 8 = .ok (.iload_n 2, 1) := by decide +kernel
theorem dX2_share_9 : decode cX2_share 9 = .ok (.invokestatic 31, 3) := by decide +kernel
theorem dX2_share_12 : decode cX2_share 12 = .ok (.ifCond .ne 7, 3) := by decide +kernel
theorem dX2_share_15 : decode cX2_share 15 = .ok (.iconst 1, 1) := by decide +kernel
theorem dX2_share_16 : decode cX2_share 16 = .ok (.goto 25, 3) := by decide +kernel
theorem dX2_share_19 : decode cX2_share 19 = .ok (.iload_n 1, 1) := by decide +kernel
theorem dX2_share_20 : decode cX2_share 20 = .ok (.iload_n 2, 1) := by decide +kernel
theorem dX2_share_21 : decode cX2_share 21 = .ok (.if_icmp .eq 15, 3) := by decide +kernel
theorem dX2_share_24 : decode cX2_share 24 = .ok (.iload_n 3, 1) := by decide +kernel
theorem dX2_share_25 : decode cX2_share 25 = .ok (.iconst 1, 1) := by decide +kernel
theorem dX2_share_26 : decode cX2_share 26 = .ok (.if_icmp .lt 10, 3) := by decide +kernel
theorem dX2_share_29 : decode cX2_share 29 = .ok (.iload_n 3, 1) := by decide +kernel
theorem dX2_share_30 : decode cX2_share 30 = .ok (.sipush 200, 3) := by decide +kernel
theorem dX2_share_33 : decode cX2_share 33 = .ok (.if_icmp .le 7, 3) := by decide +kernel
theorem dX2_share_36 : decode cX2_share 36 = .ok (.iconst 2, 1) := by decide +kernel
theorem dX2_share_37 : decode cX2_share 37 = .ok (.goto 4, 3) := by decide +kernel
theorem dX2_share_40 : decode cX2_share 40 = .ok (.iconst 0, 1) := by decide +kernel
theorem dX2_share_41 : decode cX2_share 41 = .ok (.putfield 20, 3) := by decide +kernel
theorem dX2_share_44 : decode cX2_share 44 = .ok (.iconst 0, 1) := by decide +kernel
theorem dX2_share_45 : decode cX2_share 45 = .ok (.istore 4, 2) := by decide +kernel
theorem dX2_share_47 : decode cX2_share 47 = .ok (.aload_n 0, 1) := by decide +kernel
theorem dX2_share_48 : decode cX2_share 48 = .ok (.getfield 13, 3) := by decide +kernel
theorem dX2_share_51 : decode cX2_share 51 = .ok (.istore 5, 2) := by decide +kernel
theorem dX2_share_53 : decode cX2_share 53 = .ok (.iload 5, 2) := by decide +kernel
theorem dX2_share_55 : decode cX2_share 55 = .ok (.iconst 1, 1) := by decide +kernel
theorem dX2_share_56 : decode cX2_share 56 = .ok (.if_icmp .lt 44, 3) := by decide +kernel
theorem dX2_share_59 : decode cX2_share 59 = .ok (.aload_n 0, 1) := by decide +kernel
theorem dX2_share_60 : decode cX2_share 60 = .ok (.getfield 20, 3) := by decide +kernel
theorem dX2_share_63 : decode cX2_share 63 = .ok (.ifCond .ne 37, 3) := by decide +kernel
theorem dX2_share_66 : decode cX2_share 66 = .ok (.iload 4, 2) := by decide +kernel
theorem dX2_share_68 : decode cX2_share 68 = .ok (.iload_n 3, 1) := by decide +kernel
theorem dX2_share_69 : decode cX2_share 69 = .ok (.if_icmp .ge 31, 3) := by decide +kernel
theorem dX2_share_72 : decode cX2_share 72 = .ok (.aload_n 0, 1) := by decide +kernel
theorem dX2_share_73 : decode cX2_share 73 = .ok (.getfield 7, 3) := by decide +kernel
theorem dX2_share_76 : decode cX2_share 76 = .ok (.iload 5, 2) := by decide +kernel
theorem dX2_share_78 : decode cX2_share 78 = .ok (.iaload, 1) := by decide +kernel
theorem dX2_share_79 : decode cX2_share 79 = .ok (.iload_n 1, 1) := by decide +kernel
theorem dX2_share_80 : decode cX2_share 80 = .ok (.if_icmp .ne 14, 3) := by decide +kernel
theorem dX2_share_83 : decode cX2_share 83 = .ok (.aload_n 0, 1) := by decide +kernel
theorem dX2_share_84 : decode cX2_share 84 = .ok (.getfield 7, 3) := by decide +kernel
theorem dX2_share_87 : decode cX2_share 87 = .ok (.iload 5, 2) := by decide +kernel
theorem dX2_share_89 : decode cX2_share 89 = .ok (.iload_n 2, 1) := by decide +kernel
theorem dX2_share_90 : decode cX2_share 90 = .ok (.iastore, 1) := by decide +kernel
theorem dX2_share_91 : decode cX2_share 91 = .ok (.iinc 4 1, 3) := by decide +kernel
theorem dX2_share_94 : decode cX2_share 94 = .ok (.iinc 5 (-1), 3) := by decide +kernel
theorem dX2_share_97 : decode cX2_share 97 = .ok (.goto (-44), 3) := by decide +kernel
theorem dX2_share_100 : decode cX2_share 100 = .ok (.iload 4, 2) := by decide +kernel
theorem dX2_share_102 : decode cX2_share 102 = .ok (.ireturn, 1) := by decide +kernel
set_option maxRecDepth 20000 in
theorem ggX2_giveBack_X2_howMany : GoodIn wsX2_giveBack wsX2_howMany := goodIn_r _ [8, 1, 2, 9, 10, 11, 12] (by decide +kernel) (by decide +kernel)
set_option maxRecDepth 20000 in
theorem gX2_giveBack_X2_howMany : GoodIn wsX2_giveBack (wsV RX2 27 RX2 yX2_howMany wsX2_howMany) := goodIn_app (goodIn_of _ (by decide +kernel)) ggX2_giveBack_X2_howMany
theorem dX2_giveBack_0 : decode cX2_giveBack 0 = .ok (.aload_n 0, 1) := by decide +kernel
theorem dX2_giveBack_1 : decode cX2_giveBack 1 = .ok (.iload_n 1, 1) := by decide +kernel
theorem dX2_giveBack_2 : decode cX2_giveBack 2 = .ok (.iconst 1, 1) := by decide +kernel
theorem dX2_giveBack_3 : decode cX2_giveBack 3 = .ok (.if_icmp .lt 26, 3) := by decide +kernel
theorem dX2_giveBack_6 : decode cX2_giveBack 6 = .ok (.iload_n 1, 1) := by decide +kernel
theorem dX2_giveBack_7 : decode cX2_giveBack 7 = .ok (.aload_n 0, 1) := by decide +kernel
theorem dX2_giveBack_8 : decode cX2_giveBack 8 = .ok (.getfield 13, 3) := by decide +kernel
theorem dX2_giveBack_11 : decode cX2_giveBack 11 = .ok (.if_icmp .gt 18, 3) := by decide +kernel
theorem dX2_giveBack_14 : decode cX2_giveBack 14 = .ok (.aload_n 0, 1) := by decide +kernel
theorem dX2_giveBack_15 : decode cX2_giveBack 15 = .ok (.getfield 7, 3) := by decide +kernel
theorem dX2_giveBack_18 : decode cX2_giveBack 18 = .ok (.iload_n 1, 1) := by decide +kernel
theorem dX2_giveBack_19 : decode cX2_giveBack 19 = .ok (.iaload, 1) := by decide +kernel
theorem dX2_giveBack_20 : decode cX2_giveBack 20 = .ok (.bipush 9, 2) := by decide +kernel
theorem dX2_giveBack_22 : decode cX2_giveBack 22 = .ok (.if_icmp .ne 7, 3) := by decide +kernel
theorem dX2_giveBack_25 : decode cX2_giveBack 25 = .ok (.iconst 0, 1) := by decide +kernel
theorem dX2_giveBack_26 : decode cX2_giveBack 26 = .ok (.goto 4, 3) := by decide +kernel
theorem dX2_giveBack_29 : decode cX2_giveBack 29 = .ok (.iconst 1, 1) := by decide +kernel
theorem dX2_giveBack_30 : decode cX2_giveBack 30 = .ok (.putfield 20, 3) := by decide +kernel
theorem dX2_giveBack_33 : decode cX2_giveBack 33 = .ok (.aload_n 0, 1) := by decide +kernel
theorem dX2_giveBack_34 : decode cX2_giveBack 34 = .ok (.getfield 20, 3) := by decide +kernel
theorem dX2_giveBack_37 : decode cX2_giveBack 37 = .ok (.ifCond .eq 5, 3) := by decide +kernel
theorem dX2_giveBack_40 : decode cX2_giveBack 40 = .ok (.iconst 0, 1) := by decide +kernel
theorem dX2_giveBack_41 : decode cX2_giveBack 41 = .ok (.ireturn, 1) := by decide +kernel
theorem dX2_giveBack_42 : decode cX2_giveBack 42 = .ok (.aload_n 0, 1) := by decide +kernel
theorem dX2_giveBack_43 : decode cX2_giveBack 43 = .ok (.getfield 7, 3) := by decide +kernel
theorem dX2_giveBack_46 : decode cX2_giveBack 46 = .ok (.iload_n 1, 1) := by decide +kernel
theorem dX2_giveBack_47 : decode cX2_giveBack 47 = .ok (.bipush 8, 2) := by decide +kernel
theorem dX2_giveBack_49 : decode cX2_giveBack 49 = .ok (.iastore, 1) := by decide +kernel
theorem dX2_giveBack_50 : decode cX2_giveBack 50 = .ok (.aload_n 0, 1) := by decide +kernel
theorem dX2_giveBack_51 : decode cX2_giveBack 51 = .ok (.bipush 8, 2) := by decide +kernel
theorem dX2_giveBack_53 : decode cX2_giveBack 53 = .ok (.invokevirtual 27, 3) := by decide +kernel
theorem dX2_giveBack_56 : decode cX2_giveBack 56 = .ok (.ireturn, 1) := by decide +kernel
set_option maxRecDepth 20000 in
theorem ggX2_spill_X2_isGoblet : GoodIn wsX2_spill wsX2_isGoblet := goodIn_r _ [5] (by decide +kernel) (by decide +kernel)
set_option maxRecDepth 20000 in
theorem gX2_spill_X2_isGoblet : GoodIn wsX2_spill (va_wsS RX2 31 yX2_isGoblet wsX2_isGoblet) := goodIn_app (goodIn_of _ (by decide +kernel)) ggX2_spill_X2_isGoblet
set_option maxRecDepth 20000 in
theorem ggX2_spill_X2_moves : GoodIn wsX2_spill wsX2_moves := goodIn_r _ [9, 10, 11, 12, 13, 14, 15] (by decide +kernel) (by decide +kernel)
set_option maxRecDepth 20000 in
theorem gX2_spill_X2_moves : GoodIn wsX2_spill (wsV RX2 41 RX2 yX2_moves wsX2_moves) := goodIn_app (goodIn_of _ (by decide +kernel)) ggX2_spill_X2_moves
theorem dX2_spill_0 : decode cX2_spill 0 = .ok (.aload_n 0, 1) := by decide +kernel
theorem dX2_spill_1 : decode cX2_spill 1 = .ok (.iload_n 1, 1) := by decide +kernel
theorem dX2_spill_2 : decode cX2_spill 2 = .ok (.invokestatic 31, 3) := by decide +kernel
theorem dX2_spill_5 : decode cX2_spill 5 = .ok (.ifCond .eq 7, 3) := by decide +kernel
theorem dX2_spill_8 : decode cX2_spill 8 = .ok (.iconst 0, 1) := by decide +kernel
theorem dX2_spill_9 : decode cX2_spill 9 = .ok (.goto 4, 3) := by decide +kernel
theorem dX2_spill_12 : decode cX2_spill 12 = .ok (.iconst 1, 1) := by decide +kernel
theorem dX2_spill_13 : decode cX2_spill 13 = .ok (.putfield 20, 3) := by decide +kernel
theorem dX2_spill_16 : decode cX2_spill 16 = .ok (.aload_n 0, 1) := by decide +kernel
theorem dX2_spill_17 : decode cX2_spill 17 = .ok (.getfield 20, 3) := by decide +kernel
theorem dX2_spill_20 : decode cX2_spill 20 = .ok (.ifCond .ne 13, 3) := by decide +kernel
theorem dX2_spill_23 : decode cX2_spill 23 = .ok (.aload_n 0, 1) := by decide +kernel
theorem dX2_spill_24 : decode cX2_spill 24 = .ok (.iload_n 1, 1) := by decide +kernel
theorem dX2_spill_25 : decode cX2_spill 25 = .ok (.bipush 10, 2) := by decide +kernel
theorem dX2_spill_27 : decode cX2_spill 27 = .ok (.invokevirtual 41, 3) := by decide +kernel
theorem dX2_spill_30 : decode cX2_spill 30 = .ok (.goto 4, 3) := by decide +kernel
theorem dX2_spill_33 : decode cX2_spill 33 = .ok (.iconst 0, 1) := by decide +kernel
theorem dX2_spill_34 : decode cX2_spill 34 = .ok (.ireturn, 1) := by decide +kernel
set_option maxRecDepth 20000 in
theorem ggX2_nextRound_X2_howMany : GoodIn wsX2_nextRound wsX2_howMany := goodIn_r _ [8, 1, 9, 14, 15, 16, 17] (by decide +kernel) (by decide +kernel)
set_option maxRecDepth 20000 in
theorem gX2_nextRound_X2_howMany : GoodIn wsX2_nextRound (wsV RX2 27 RX2 yX2_howMany wsX2_howMany) := goodIn_app (goodIn_of _ (by decide +kernel)) ggX2_nextRound_X2_howMany
set_option maxRecDepth 20000 in
theorem ggX2_nextRound_X2_moves : GoodIn wsX2_nextRound wsX2_moves := goodIn_r _ [13, 1, 9, 14, 15, 16, 17] (by decide +kernel) (by decide +kernel)
set_option maxRecDepth 20000 in
theorem gX2_nextRound_X2_moves : GoodIn wsX2_nextRound (wsV RX2 41 RX2 yX2_moves wsX2_moves) := goodIn_app (goodIn_of _ (by decide +kernel)) ggX2_nextRound_X2_moves
theorem dX2_nextRound_0 : decode cX2_nextRound 0 = .ok (.aload_n 0, 1) := by decide +kernel
theorem dX2_nextRound_1 : decode cX2_nextRound 1 = .ok (.aload_n 0, 1) := by decide +kernel
theorem dX2_nextRound_2 : decode cX2_nextRound 2 = .ok (.bipush 9, 2) := by decide +kernel
theorem dX2_nextRound_4 : decode cX2_nextRound 4 = .ok (.invokevirtual 27, 3) := by decide +kernel
theorem dX2_nextRound_7 : decode cX2_nextRound 7 = .ok (.aload_n 0, 1) := by decide +kernel
theorem dX2_nextRound_8 : decode cX2_nextRound 8 = .ok (.bipush 10, 2) := by decide +kernel
theorem dX2_nextRound_10 : decode cX2_nextRound 10 = .ok (.invokevirtual 27, 3) := by decide +kernel
theorem dX2_nextRound_13 : decode cX2_nextRound 13 = .ok (.iadd, 1) := by decide +kernel
theorem dX2_nextRound_14 : decode cX2_nextRound 14 = .ok (.aload_n 0, 1) := by decide +kernel
theorem dX2_nextRound_15 : decode cX2_nextRound 15 = .ok (.getfield 13, 3) := by decide +kernel
theorem dX2_nextRound_18 : decode cX2_nextRound 18 = .ok (.if_icmp .ne 7, 3) := by decide +kernel
theorem dX2_nextRound_21 : decode cX2_nextRound 21 = .ok (.iconst 0, 1) := by decide +kernel
theorem dX2_nextRound_22 : decode cX2_nextRound 22 = .ok (.goto 4, 3) := by decide +kernel
theorem dX2_nextRound_25 : decode cX2_nextRound 25 = .ok (.iconst 1, 1) := by decide +kernel
theorem dX2_nextRound_26 : decode cX2_nextRound 26 = .ok (.putfield 20, 3) := by decide +kernel
theorem dX2_nextRound_29 : decode cX2_nextRound 29 = .ok (.aload_n 0, 1) := by decide +kernel
theorem dX2_nextRound_30 : decode cX2_nextRound 30 = .ok (.getfield 20, 3) := by decide +kernel
theorem dX2_nextRound_33 : decode cX2_nextRound 33 = .ok (.ifCond .eq 5, 3) := by decide +kernel
theorem dX2_nextRound_36 : decode cX2_nextRound 36 = .ok (.iconst 0, 1) := by decide +kernel
theorem dX2_nextRound_37 : decode cX2_nextRound 37 = .ok (.ireturn, 1) := by decide +kernel
theorem dX2_nextRound_38 : decode cX2_nextRound 38 = .ok (.aload_n 0, 1) := by decide +kernel
theorem dX2_nextRound_39 : decode cX2_nextRound 39 = .ok (.bipush 9, 2) := by decide +kernel
theorem dX2_nextRound_41 : decode cX2_nextRound 41 = .ok (.bipush 8, 2) := by decide +kernel
theorem dX2_nextRound_43 : decode cX2_nextRound 43 = .ok (.invokevirtual 41, 3) := by decide +kernel
theorem dX2_nextRound_46 : decode cX2_nextRound 46 = .ok (.aload_n 0, 1) := by decide +kernel
theorem dX2_nextRound_47 : decode cX2_nextRound 47 = .ok (.bipush 10, 2) := by decide +kernel
theorem dX2_nextRound_49 : decode cX2_nextRound 49 = .ok (.bipush 8, 2) := by decide +kernel
theorem dX2_nextRound_51 : decode cX2_nextRound 51 = .ok (.invokevirtual 41, 3) := by decide +kernel
theorem dX2_nextRound_54 : decode cX2_nextRound 54 = .ok (.iadd, 1) := by decide +kernel
theorem dX2_nextRound_55 : decode cX2_nextRound 55 = .ok (.istore_n 1, 1) := by decide +kernel
theorem dX2_nextRound_56 : decode cX2_nextRound 56 = .ok (.aload_n 0, 1) := by decide +kernel
theorem dX2_nextRound_57 : decode cX2_nextRound 57 = .ok (.dup, 1) := by decide +kernel
theorem dX2_nextRound_58 : decode cX2_nextRound 58 = .ok (.getfield 17, 3) := by decide +kernel
theorem dX2_nextRound_61 : decode cX2_nextRound 61 = .ok (.iconst 1, 1) := by decide +kernel
theorem dX2_nextRound_62 : decode cX2_nextRound 62 = .ok (.iadd, 1) := by decide +kernel
theorem dX2_nextRound_63 : decode cX2_nextRound 63 = .ok (.putfield 17, 3) := by decide +kernel
theorem dX2_nextRound_66 : decode cX2_nextRound 66 = .ok (.aload_n 0, 1) := by decide +kernel
theorem dX2_nextRound_67 : decode cX2_nextRound 67 = .ok (.getfield 17, 3) := by decide +kernel
theorem dX2_nextRound_70 : decode cX2_nextRound 70 = .ok (.ireturn, 1) := by decide +kernel
theorem dX2_size_0 : decode cX2_size 0 = .ok (.aload_n 0, 1) := by decide +kernel
theorem dX2_size_1 : decode cX2_size 1 = .ok (.iconst 0, 1) := by decide +kernel
theorem dX2_size_2 : decode cX2_size 2 = .ok (.putfield 20, 3) := by decide +kernel
theorem dX2_size_5 : decode cX2_size 5 = .ok (.aload_n 0, 1) := by decide +kernel
theorem dX2_size_6 : decode cX2_size 6 = .ok (.getfield 13, 3) := by decide +kernel
theorem dX2_size_9 : decode cX2_size 9 = .ok (.ireturn, 1) := by decide +kernel
theorem dX2_round_0 : decode cX2_round 0 = .ok (.aload_n 0, 1) := by decide +kernel
theorem dX2_round_1 : decode cX2_round 1 = .ok (.iconst 0, 1) := by decide +kernel
theorem dX2_round_2 : decode cX2_round 2 = .ok (.putfield 20, 3) := by decide +kernel
theorem dX2_round_5 : decode cX2_round 5 = .ok (.aload_n 0, 1) := by decide +kernel
theorem dX2_round_6 : decode cX2_round 6 = .ok (.getfield 17, 3) := by decide +kernel
theorem dX2_round_9 : decode cX2_round 9 = .ok (.ireturn, 1) := by decide +kernel
set_option maxRecDepth 20000 in
theorem ggX2_inJug_X2_howMany : GoodIn wsX2_inJug wsX2_howMany := goodIn_r _ [6, 7, 8, 9, 10, 11, 12] (by decide +kernel) (by decide +kernel)
set_option maxRecDepth 20000 in
theorem gX2_inJug_X2_howMany : GoodIn wsX2_inJug (wsV RX2 27 RX2 yX2_howMany wsX2_howMany) := goodIn_app (goodIn_of _ (by decide +kernel)) ggX2_inJug_X2_howMany
theorem dX2_inJug_0 : decode cX2_inJug 0 = .ok (.aload_n 0, 1) := by decide +kernel
theorem dX2_inJug_1 : decode cX2_inJug 1 = .ok (.iconst 0, 1) := by decide +kernel
theorem dX2_inJug_2 : decode cX2_inJug 2 = .ok (.putfield 20, 3) := by decide +kernel
theorem dX2_inJug_5 : decode cX2_inJug 5 = .ok (.aload_n 0, 1) := by decide +kernel
theorem dX2_inJug_6 : decode cX2_inJug 6 = .ok (.bipush 8, 2) := by decide +kernel
theorem dX2_inJug_8 : decode cX2_inJug 8 = .ok (.invokevirtual 27, 3) := by decide +kernel
theorem dX2_inJug_11 : decode cX2_inJug 11 = .ok (.ireturn, 1) := by decide +kernel
set_option maxRecDepth 20000 in
theorem ggX2_ranges_X2_rangesIn : GoodIn wsX2_ranges wsX2_rangesIn := goodIn_r _ [6, 7, 8, 9, 10, 5, 11, 12, 13, 14, 15, 16] (by decide +kernel) (by decide +kernel)
set_option maxRecDepth 20000 in
theorem gX2_ranges_X2_rangesIn : GoodIn wsX2_ranges (wsV RX2 45 RX2 yX2_rangesIn wsX2_rangesIn) := goodIn_app (goodIn_of _ (by decide +kernel)) ggX2_ranges_X2_rangesIn
theorem dX2_ranges_0 : decode cX2_ranges 0 = .ok (.aload_n 0, 1) := by decide +kernel
theorem dX2_ranges_1 : decode cX2_ranges 1 = .ok (.iconst 0, 1) := by decide +kernel
theorem dX2_ranges_2 : decode cX2_ranges 2 = .ok (.putfield 20, 3) := by decide +kernel
theorem dX2_ranges_5 : decode cX2_ranges 5 = .ok (.aload_n 0, 1) := by decide +kernel
theorem dX2_ranges_6 : decode cX2_ranges 6 = .ok (.bipush 8, 2) := by decide +kernel
theorem dX2_ranges_8 : decode cX2_ranges 8 = .ok (.invokevirtual 45, 3) := by decide +kernel
theorem dX2_ranges_11 : decode cX2_ranges 11 = .ok (.ireturn, 1) := by decide +kernel
set_option maxRecDepth 20000 in
theorem ggX2_rangeFrom_X2_begins : GoodIn wsX2_rangeFrom wsX2_begins := goodIn_r _ [7, 8, 9, 10, 11, 12] (by decide +kernel) (by decide +kernel)
set_option maxRecDepth 20000 in
theorem gX2_rangeFrom_X2_begins : GoodIn wsX2_rangeFrom (wsV RX2 23 RX2 yX2_begins wsX2_begins) := goodIn_app (goodIn_of _ (by decide +kernel)) ggX2_rangeFrom_X2_begins
theorem dX2_rangeFrom_0 : decode cX2_rangeFrom 0 = .ok (.iload_n 1, 1) := by decide +kernel
theorem dX2_rangeFrom_1 : decode cX2_rangeFrom 1 = .ok (.istore_n 2, 1) := by decide +kernel
theorem dX2_rangeFrom_2 : decode cX2_rangeFrom 2 = .ok (.iconst 1, 1) := by decide +kernel
theorem dX2_rangeFrom_3 : decode cX2_rangeFrom 3 = .ok (.istore_n 3, 1) := by decide +kernel
theorem dX2_rangeFrom_4 : decode cX2_rangeFrom 4 = .ok (.iload_n 3, 1) := by decide +kernel
theorem dX2_rangeFrom_5 : decode cX2_rangeFrom 5 = .ok (.aload_n 0, 1) := by decide +kernel
theorem dX2_rangeFrom_6 : decode cX2_rangeFrom 6 = .ok (.getfield 13, 3) := by decide +kernel
theorem dX2_rangeFrom_9 : decode cX2_rangeFrom 9 = .ok (.if_icmp .gt 37, 3) := by decide +kernel
theorem dX2_rangeFrom_12 : decode cX2_rangeFrom 12 = .ok (.iload_n 1, 1) := by decide +kernel
theorem dX2_rangeFrom_13 : decode cX2_rangeFrom 13 = .ok (.ifCond .lt 33, 3) := by decide +kernel
theorem dX2_rangeFrom_16 : decode cX2_rangeFrom 16 = .ok (.aload_n 0, 1) := by decide +kernel
theorem dX2_rangeFrom_17 : decode cX2_rangeFrom 17 = .ok (.iload_n 3, 1) := by decide +kernel
theorem dX2_rangeFrom_18 : decode cX2_rangeFrom 18 = .ok (.bipush 8, 2) := by decide +kernel
theorem dX2_rangeFrom_20 : decode cX2_rangeFrom 20 = .ok (.invokevirtual 23, 3) := by decide +kernel
theorem dX2_rangeFrom_23 : decode cX2_rangeFrom 23 = .ok (.ifCond .eq 17, 3) := by decide +kernel
theorem dX2_rangeFrom_26 : decode cX2_rangeFrom 26 = .ok (.iload_n 2, 1) := by decide +kernel
theorem dX2_rangeFrom_27 : decode cX2_rangeFrom 27 = .ok (.ifCond .ne 10, 3) := by decide +kernel
theorem dX2_rangeFrom_30 : decode cX2_rangeFrom 30 = .ok (.aload_n 0, 1) := by decide +kernel
theorem dX2_rangeFrom_31 : decode cX2_rangeFrom 31 = .ok (.iconst 0, 1) := by decide +kernel
theorem dX2_rangeFrom_32 : decode cX2_rangeFrom 32 = .ok (.putfield 20, 3) := by decide +kernel
theorem dX2_rangeFrom_35 : decode cX2_rangeFrom 35 = .ok (.iload_n 3, 1) := by decide +kernel
theorem dX2_rangeFrom_36 : decode cX2_rangeFrom 36 = .ok (.ireturn, 1) := by decide +kernel
theorem dX2_rangeFrom_37 : decode cX2_rangeFrom 37 = .ok (.iinc 2 (-1), 3) := by decide +kernel
theorem dX2_rangeFrom_40 : decode cX2_rangeFrom 40 = .ok (.iinc 3 1, 3) := by decide +kernel
theorem dX2_rangeFrom_43 : decode cX2_rangeFrom 43 = .ok (.goto (-39), 3) := by decide +kernel
theorem dX2_rangeFrom_46 : decode cX2_rangeFrom 46 = .ok (.aload_n 0, 1) := by decide +kernel
theorem dX2_rangeFrom_47 : decode cX2_rangeFrom 47 = .ok (.iconst 1, 1) := by decide +kernel
theorem dX2_rangeFrom_48 : decode cX2_rangeFrom 48 = .ok (.putfield 20, 3) := by decide +kernel
theorem dX2_rangeFrom_51 : decode cX2_rangeFrom 51 = .ok (.iconst 0, 1) := by decide +kernel
theorem dX2_rangeFrom_52 : decode cX2_rangeFrom 52 = .ok (.ireturn, 1) := by decide +kernel
set_option maxRecDepth 20000 in
theorem ggX2_rangeTo_X2_ends : GoodIn wsX2_rangeTo wsX2_ends := goodIn_r _ [7, 8, 1, 9, 10, 11, 12] (by decide +kernel) (by decide +kernel)
set_option maxRecDepth 20000 in
theorem gX2_rangeTo_X2_ends : GoodIn wsX2_rangeTo (wsV RX2 48 RX2 yX2_ends wsX2_ends) := goodIn_app (goodIn_of _ (by decide +kernel)) ggX2_rangeTo_X2_ends
theorem dX2_rangeTo_0 : decode cX2_rangeTo 0 = .ok (.iload_n 1, 1) := by decide +kernel
theorem dX2_rangeTo_1 : decode cX2_rangeTo 1 = .ok (.istore_n 2, 1) := by decide +kernel
theorem dX2_rangeTo_2 : decode cX2_rangeTo 2 = .ok (.iconst 1, 1) := by decide +kernel
theorem dX2_rangeTo_3 : decode cX2_rangeTo 3 = .ok (.istore_n 3, 1) := by decide +kernel
theorem dX2_rangeTo_4 : decode cX2_rangeTo 4 = .ok (.iload_n 3, 1) := by decide +kernel
theorem dX2_rangeTo_5 : decode cX2_rangeTo 5 = .ok (.aload_n 0, 1) := by decide +kernel
theorem dX2_rangeTo_6 : decode cX2_rangeTo 6 = .ok (.getfield 13, 3) := by decide +kernel
theorem dX2_rangeTo_9 : decode cX2_rangeTo 9 = .ok (.if_icmp .gt 37, 3) := by decide +kernel
theorem dX2_rangeTo_12 : decode cX2_rangeTo 12 = .ok (.iload_n 1, 1) := by decide +kernel
theorem dX2_rangeTo_13 : decode cX2_rangeTo 13 = .ok (.ifCond .lt 33, 3) := by decide +kernel
theorem dX2_rangeTo_16 : decode cX2_rangeTo 16 = .ok (.aload_n 0, 1) := by decide +kernel
theorem dX2_rangeTo_17 : decode cX2_rangeTo 17 = .ok (.iload_n 3, 1) := by decide +kernel
theorem dX2_rangeTo_18 : decode cX2_rangeTo 18 = .ok (.bipush 8, 2) := by decide +kernel
theorem dX2_rangeTo_20 : decode cX2_rangeTo 20 = .ok (.invokevirtual 48, 3) := by decide +kernel
theorem dX2_rangeTo_23 : decode cX2_rangeTo 23 = .ok (.ifCond .eq 17, 3) := by decide +kernel
theorem dX2_rangeTo_26 : decode cX2_rangeTo 26 = .ok (.iload_n 2, 1) := by decide +kernel
theorem dX2_rangeTo_27 : decode cX2_rangeTo 27 = .ok (.ifCond .ne 10, 3) := by decide +kernel
theorem dX2_rangeTo_30 : decode cX2_rangeTo 30 = .ok (.aload_n 0, 1) := by decide +kernel
theorem dX2_rangeTo_31 : decode cX2_rangeTo 31 = .ok (.iconst 0, 1) := by decide +kernel
theorem dX2_rangeTo_32 : decode cX2_rangeTo 32 = .ok (.putfield 20, 3) := by decide +kernel
theorem dX2_rangeTo_35 : decode cX2_rangeTo 35 = .ok (.iload_n 3, 1) := by decide +kernel
theorem dX2_rangeTo_36 : decode cX2_rangeTo 36 = .ok (.ireturn, 1) := by decide +kernel
theorem dX2_rangeTo_37 : decode cX2_rangeTo 37 = .ok (.iinc 2 (-1), 3) := by decide +kernel
theorem dX2_rangeTo_40 : decode cX2_rangeTo 40 = .ok (.iinc 3 1, 3) := by decide +kernel
theorem dX2_rangeTo_43 : decode cX2_rangeTo 43 = .ok (.goto (-39), 3) := by decide +kernel
theorem dX2_rangeTo_46 : decode cX2_rangeTo 46 = .ok (.aload_n 0, 1) := by decide +kernel
theorem dX2_rangeTo_47 : decode cX2_rangeTo 47 = .ok (.iconst 1, 1) := by decide +kernel
theorem dX2_rangeTo_48 : decode cX2_rangeTo 48 = .ok (.putfield 20, 3) := by decide +kernel
theorem dX2_rangeTo_51 : decode cX2_rangeTo 51 = .ok (.iconst 0, 1) := by decide +kernel
theorem dX2_rangeTo_52 : decode cX2_rangeTo 52 = .ok (.ireturn, 1) := by decide +kernel
set_option maxRecDepth 20000 in
theorem ggX2_longestRange_X2_begins : GoodIn wsX2_longestRange wsX2_begins := goodIn_r _ [8, 3, 9, 10, 11, 12] (by decide +kernel) (by decide +kernel)
set_option maxRecDepth 20000 in
theorem gX2_longestRange_X2_begins : GoodIn wsX2_longestRange (wsV RX2 23 RX2 yX2_begins wsX2_begins) := goodIn_app (goodIn_of _ (by decide +kernel)) ggX2_longestRange_X2_begins
theorem dX2_longestRange_0 : decode cX2_longestRange 0 = .ok (.aload_n 0, 1) := by decide +kernel
theorem dX2_longestRange_1 : decode cX2_longestRange 1 = .ok (.iconst 0, 1) := by decide +kernel
theorem dX2_longestRange_2 : decode cX2_longestRange 2 = .ok (.putfield 20, 3) := by decide +kernel
theorem dX2_longestRange_5 : decode cX2_longestRange 5 = .ok (.iconst (-1), 1) := by decide +kernel
theorem dX2_longestRange_6 : decode cX2_longestRange 6 = .ok (.istore_n 1, 1) := by decide +kernel
theorem dX2_longestRange_7 : decode cX2_longestRange 7 = .ok (.iconst 0, 1) := by decide +kernel
theorem dX2_longestRange_8 : decode cX2_longestRange 8 = .ok (.istore_n 2, 1) := by decide +kernel
theorem dX2_longestRange_9 : decode cX2_longestRange 9 = .ok (.iconst (-1), 1) := by decide +kernel
theorem dX2_longestRange_10 : decode cX2_longestRange 10 = .ok (.istore_n 3, 1) := by decide +kernel
theorem dX2_longestRange_11 : decode cX2_longestRange 11 = .ok (.iconst 0, 1) := by decide +kernel
theorem dX2_longestRange_12 : decode cX2_longestRange 12 = .ok (.istore 4, 2) := by decide +kernel
theorem dX2_longestRange_14 : decode cX2_longestRange 14 = .ok (.iconst 1, 1) := by decide +kernel
theorem dX2_longestRange_15 : decode cX2_longestRange 15 = .ok (.istore 5, 2) := by decide +kernel
theorem dX2_longestRange_17 : decode cX2_longestRange 17 = .ok (.iload 5, 2) := by decide +kernel
theorem dX2_longestRange_19 : decode cX2_longestRange 19 = .ok (.aload_n 0, 1) := by decide +kernel
theorem dX2_longestRange_20 : decode cX2_longestRange 20 = .ok (.getfield 13, 3) := by decide +kernel
theorem dX2_longestRange_23 : decode cX2_longestRange 23 = .ok (.if_icmp .gt 75, 3) := by decide +kernel
theorem dX2_longestRange_26 : decode cX2_longestRange 26 = .ok (.iload_n 3, 1) := by decide +kernel
theorem dX2_longestRange_27 : decode cX2_longestRange 27 = .ok (.aload_n 0, 1) := by decide +kernel
theorem dX2_longestRange_28 : decode cX2_longestRange 28 = .ok (.iload 5, 2) := by decide +kernel
theorem dX2_longestRange_30 : decode cX2_longestRange 30 = .ok (.bipush 8, 2) := by decide +kernel
theorem dX2_longestRange_32 : decode cX2_longestRange 32 = .ok (.invokevirtual 23, 3) := by decide +kernel
theorem dX2_longestRange_35 : decode cX2_longestRange 35 = .ok (.ifCond .eq 7, 3) := by decide +kernel
theorem dX2_longestRange_38 : decode cX2_longestRange 38 = .ok (.iconst 1, 1) := by decide +kernel
theorem dX2_longestRange_39 : decode cX2_longestRange 39 = .ok (.goto 4, 3) := by decide +kernel
theorem dX2_longestRange_42 : decode cX2_longestRange 42 = .ok (.iconst 0, 1) := by decide +kernel
theorem dX2_longestRange_43 : decode cX2_longestRange 43 = .ok (.iadd, 1) := by decide +kernel
theorem dX2_longestRange_44 : decode cX2_longestRange 44 = .ok (.istore_n 3, 1) := by decide +kernel
theorem dX2_longestRange_45 : decode cX2_longestRange 45 = .ok (.aload_n 0, 1) := by decide +kernel
theorem dX2_longestRange_46 : decode cX2_longestRange 46 = .ok (.getfield 7, 3) := by decide +kernel
theorem dX2_longestRange_49 : decode cX2_longestRange 49 = .ok (.iload 5, 2) := by decide +kernel
theorem dX2_longestRange_51 : decode cX2_longestRange 51 = .ok (.iaload, 1) := by decide +kernel
theorem dX2_longestRange_52 : decode cX2_longestRange 52 = .ok (.bipush 8, 2) := by decide +kernel
theorem dX2_longestRange_54 : decode cX2_longestRange 54 = .ok (.if_icmp .eq 7, 3) := by decide +kernel
theorem dX2_longestRange_57 : decode cX2_longestRange 57 = .ok (.iconst 0, 1) := by decide +kernel
theorem dX2_longestRange_58 : decode cX2_longestRange 58 = .ok (.goto 7, 3) := by decide +kernel
theorem dX2_longestRange_61 : decode cX2_longestRange 61 = .ok (.iload 4, 2) := by decide +kernel
theorem dX2_longestRange_63 : decode cX2_longestRange 63 = .ok (.iconst 1, 1) := by decide +kernel
theorem dX2_longestRange_64 : decode cX2_longestRange 64 = .ok (.iadd, 1) := by decide +kernel
theorem dX2_longestRange_65 : decode cX2_longestRange 65 = .ok (.istore 4, 2) := by decide +kernel
theorem dX2_longestRange_67 : decode cX2_longestRange 67 = .ok (.iload 4, 2) := by decide +kernel
theorem dX2_longestRange_69 : decode cX2_longestRange 69 = .ok (.iload_n 2, 1) := by decide +kernel
theorem dX2_longestRange_70 : decode cX2_longestRange 70 = .ok (.if_icmp .le 7, 3) := by decide +kernel
theorem dX2_longestRange_73 : decode cX2_longestRange 73 = .ok (.iload_n 3, 1) := by decide +kernel
theorem dX2_longestRange_74 : decode cX2_longestRange 74 = .ok (.goto 4, 3) := by decide +kernel
theorem dX2_longestRange_77 : decode cX2_longestRange 77 = .ok (.iload_n 1, 1) := by decide +kernel
theorem dX2_longestRange_78 : decode cX2_longestRange 78 = .ok (.istore_n 1, 1) := by decide +kernel
theorem dX2_longestRange_79 : decode cX2_longestRange 79 = .ok (.iload 4, 2) := by decide +kernel
theorem dX2_longestRange_81 : decode cX2_longestRange 81 = .ok (.iload_n 2, 1) := by decide +kernel
theorem dX2_longestRange_82 : decode cX2_longestRange 82 = .ok (.if_icmp .le 8, 3) := by decide +kernel
theorem dX2_longestRange_85 : decode cX2_longestRange 85 = .ok (.iload 4, 2) := by decide +kernel
theorem dX2_longestRange_87 : decode cX2_longestRange 87 = .ok (.goto 4, 3) := by decide +kernel
theorem dX2_longestRange_90 : decode cX2_longestRange 90 = .ok (.iload_n 2, 1) := by decide +kernel
theorem dX2_longestRange_91 : decode cX2_longestRange 91 = .ok (.istore_n 2, 1) := by decide +kernel
theorem dX2_longestRange_92 : decode cX2_longestRange 92 = .ok (.iinc 5 1, 3) := by decide +kernel
theorem dX2_longestRange_95 : decode cX2_longestRange 95 = .ok (.goto (-78), 3) := by decide +kernel
theorem dX2_longestRange_98 : decode cX2_longestRange 98 = .ok (.iload_n 1, 1) := by decide +kernel
theorem dX2_longestRange_99 : decode cX2_longestRange 99 = .ok (.ireturn, 1) := by decide +kernel
set_option maxRecDepth 20000 in
theorem ggX2_inGoblet_X2_isGoblet : GoodIn wsX2_inGoblet wsX2_isGoblet := goodIn_r _ [5] (by decide +kernel) (by decide +kernel)
set_option maxRecDepth 20000 in
theorem gX2_inGoblet_X2_isGoblet : GoodIn wsX2_inGoblet (va_wsS RX2 31 yX2_isGoblet wsX2_isGoblet) := goodIn_app (goodIn_of _ (by decide +kernel)) ggX2_inGoblet_X2_isGoblet
set_option maxRecDepth 20000 in
theorem ggX2_inGoblet_X2_howMany : GoodIn wsX2_inGoblet wsX2_howMany := goodIn_r _ [9, 10, 11, 12, 13, 14, 15] (by decide +kernel) (by decide +kernel)
set_option maxRecDepth 20000 in
theorem gX2_inGoblet_X2_howMany : GoodIn wsX2_inGoblet (wsV RX2 27 RX2 yX2_howMany wsX2_howMany) := goodIn_app (goodIn_of _ (by decide +kernel)) ggX2_inGoblet_X2_howMany
theorem dX2_inGoblet_0 : decode cX2_inGoblet 0 = .ok (.aload_n 0, 1) := by decide +kernel
theorem dX2_inGoblet_1 : decode cX2_inGoblet 1 = .ok (.iload_n 1, 1) := by decide +kernel
theorem dX2_inGoblet_2 : decode cX2_inGoblet 2 = .ok (.invokestatic 31, 3) := by decide +kernel
theorem dX2_inGoblet_5 : decode cX2_inGoblet 5 = .ok (.ifCond .eq 7, 3) := by decide +kernel
theorem dX2_inGoblet_8 : decode cX2_inGoblet 8 = .ok (.iconst 0, 1) := by decide +kernel
theorem dX2_inGoblet_9 : decode cX2_inGoblet 9 = .ok (.goto 4, 3) := by decide +kernel
theorem dX2_inGoblet_12 : decode cX2_inGoblet 12 = .ok (.iconst 1, 1) := by decide +kernel
theorem dX2_inGoblet_13 : decode cX2_inGoblet 13 = .ok (.putfield 20, 3) := by decide +kernel
theorem dX2_inGoblet_16 : decode cX2_inGoblet 16 = .ok (.aload_n 0, 1) := by decide +kernel
theorem dX2_inGoblet_17 : decode cX2_inGoblet 17 = .ok (.getfield 20, 3) := by decide +kernel
theorem dX2_inGoblet_20 : decode cX2_inGoblet 20 = .ok (.ifCond .ne 11, 3) := by decide +kernel
theorem dX2_inGoblet_23 : decode cX2_inGoblet 23 = .ok (.aload_n 0, 1) := by decide +kernel
theorem dX2_inGoblet_24 : decode cX2_inGoblet 24 = .ok (.iload_n 1, 1) := by decide +kernel
theorem dX2_inGoblet_25 : decode cX2_inGoblet 25 = .ok (.invokevirtual 27, 3) := by decide +kernel
theorem dX2_inGoblet_28 : decode cX2_inGoblet 28 = .ok (.goto 4, 3) := by decide +kernel
theorem dX2_inGoblet_31 : decode cX2_inGoblet 31 = .ok (.iconst 0, 1) := by decide +kernel
theorem dX2_inGoblet_32 : decode cX2_inGoblet 32 = .ok (.ireturn, 1) := by decide +kernel
set_option maxRecDepth 20000 in
theorem ggX2_rangesOf_X2_isGoblet : GoodIn wsX2_rangesOf wsX2_isGoblet := goodIn_r _ [5] (by decide +kernel) (by decide +kernel)
set_option maxRecDepth 20000 in
theorem gX2_rangesOf_X2_isGoblet : GoodIn wsX2_rangesOf (va_wsS RX2 31 yX2_isGoblet wsX2_isGoblet) := goodIn_app (goodIn_of _ (by decide +kernel)) ggX2_rangesOf_X2_isGoblet
set_option maxRecDepth 20000 in
theorem ggX2_rangesOf_X2_rangesIn : GoodIn wsX2_rangesOf wsX2_rangesIn := goodIn_r _ [9, 10, 11, 12, 13, 4, 14, 15, 16, 17, 18, 19] (by decide +kernel) (by decide +kernel)
set_option maxRecDepth 20000 in
theorem gX2_rangesOf_X2_rangesIn : GoodIn wsX2_rangesOf (wsV RX2 45 RX2 yX2_rangesIn wsX2_rangesIn) := goodIn_app (goodIn_of _ (by decide +kernel)) ggX2_rangesOf_X2_rangesIn
theorem dX2_rangesOf_0 : decode cX2_rangesOf 0 = .ok (.aload_n 0, 1) := by decide +kernel
theorem dX2_rangesOf_1 : decode cX2_rangesOf 1 = .ok (.iload_n 1, 1) := by decide +kernel
theorem dX2_rangesOf_2 : decode cX2_rangesOf 2 = .ok (.invokestatic 31, 3) := by decide +kernel
theorem dX2_rangesOf_5 : decode cX2_rangesOf 5 = .ok (.ifCond .eq 7, 3) := by decide +kernel
theorem dX2_rangesOf_8 : decode cX2_rangesOf 8 = .ok (.iconst 0, 1) := by decide +kernel
theorem dX2_rangesOf_9 : decode cX2_rangesOf 9 = .ok (.goto 4, 3) := by decide +kernel
theorem dX2_rangesOf_12 : decode cX2_rangesOf 12 = .ok (.iconst 1, 1) := by decide +kernel
theorem dX2_rangesOf_13 : decode cX2_rangesOf 13 = .ok (.putfield 20, 3) := by decide +kernel
theorem dX2_rangesOf_16 : decode cX2_rangesOf 16 = .ok (.aload_n 0, 1) := by decide +kernel
theorem dX2_rangesOf_17 : decode cX2_rangesOf 17 = .ok (.getfield 20, 3) := by decide +kernel
theorem dX2_rangesOf_20 : decode cX2_rangesOf 20 = .ok (.ifCond .ne 11, 3) := by decide +kernel
theorem dX2_rangesOf_23 : decode cX2_rangesOf 23 = .ok (.aload_n 0, 1) := by decide +kernel
theorem dX2_rangesOf_24 : decode cX2_rangesOf 24 = .ok (.iload_n 1, 1) := by decide +kernel
theorem dX2_rangesOf_25 : decode cX2_rangesOf 25 = .ok (.invokevirtual 45, 3) := by decide +kernel
theorem dX2_rangesOf_28 : decode cX2_rangesOf 28 = .ok (.goto 4, 3) := by decide +kernel
theorem dX2_rangesOf_31 : decode cX2_rangesOf 31 = .ok (.iconst 0, 1) := by decide +kernel
theorem dX2_rangesOf_32 : decode cX2_rangesOf 32 = .ok (.ireturn, 1) := by decide +kernel
set_option maxRecDepth 20000 in
theorem ggX2_nextOf_X2_isGoblet : GoodIn wsX2_nextOf wsX2_isGoblet := goodIn_r _ [5] (by decide +kernel) (by decide +kernel)
set_option maxRecDepth 20000 in
theorem gX2_nextOf_X2_isGoblet : GoodIn wsX2_nextOf (va_wsS RX2 31 yX2_isGoblet wsX2_isGoblet) := goodIn_app (goodIn_of _ (by decide +kernel)) ggX2_nextOf_X2_isGoblet
set_option maxRecDepth 20000 in
theorem ggX2_nextOf_X2_next : GoodIn wsX2_nextOf wsX2_next := goodIn_r _ [9, 10, 11, 12, 4, 13, 14, 15, 16, 17, 18, 19] (by decide +kernel) (by decide +kernel)
set_option maxRecDepth 20000 in
theorem gX2_nextOf_X2_next : GoodIn wsX2_nextOf (wsV RX2 38 RX2 yX2_next wsX2_next) := goodIn_app (goodIn_of _ (by decide +kernel)) ggX2_nextOf_X2_next
theorem dX2_nextOf_0 : decode cX2_nextOf 0 = .ok (.aload_n 0, 1) := by decide +kernel
theorem dX2_nextOf_1 : decode cX2_nextOf 1 = .ok (.iload_n 1, 1) := by decide +kernel
theorem dX2_nextOf_2 : decode cX2_nextOf 2 = .ok (.invokestatic 31, 3) := by decide +kernel
theorem dX2_nextOf_5 : decode cX2_nextOf 5 = .ok (.ifCond .eq 7, 3) := by decide +kernel
theorem dX2_nextOf_8 : decode cX2_nextOf 8 = .ok (.iconst 0, 1) := by decide +kernel
theorem dX2_nextOf_9 : decode cX2_nextOf 9 = .ok (.goto 4, 3) := by decide +kernel
theorem dX2_nextOf_12 : decode cX2_nextOf 12 = .ok (.iconst 1, 1) := by decide +kernel
theorem dX2_nextOf_13 : decode cX2_nextOf 13 = .ok (.putfield 20, 3) := by decide +kernel
theorem dX2_nextOf_16 : decode cX2_nextOf 16 = .ok (.aload_n 0, 1) := by decide +kernel
theorem dX2_nextOf_17 : decode cX2_nextOf 17 = .ok (.getfield 20, 3) := by decide +kernel
theorem dX2_nextOf_20 : decode cX2_nextOf 20 = .ok (.ifCond .ne 11, 3) := by decide +kernel
theorem dX2_nextOf_23 : decode cX2_nextOf 23 = .ok (.aload_n 0, 1) := by decide +kernel
theorem dX2_nextOf_24 : decode cX2_nextOf 24 = .ok (.iload_n 1, 1) := by decide +kernel
theorem dX2_nextOf_25 : decode cX2_nextOf 25 = .ok (.invokevirtual 38, 3) := by decide +kernel
theorem dX2_nextOf_28 : decode cX2_nextOf 28 = .ok (.goto 4, 3) := by decide +kernel
theorem dX2_nextOf_31 : decode cX2_nextOf 31 = .ok (.iconst 0, 1) := by decide +kernel
theorem dX2_nextOf_32 : decode cX2_nextOf 32 = .ok (.ireturn, 1) := by decide +kernel
theorem dX2_placeOf_0 : decode cX2_placeOf 0 = .ok (.aload_n 0, 1) := by decide +kernel
theorem dX2_placeOf_1 : decode cX2_placeOf 1 = .ok (.iconst 0, 1) := by decide +kernel
theorem dX2_placeOf_2 : decode cX2_placeOf 2 = .ok (.putfield 20, 3) := by decide +kernel
theorem dX2_placeOf_5 : decode cX2_placeOf 5 = .ok (.iload_n 1, 1) := by decide +kernel
theorem dX2_placeOf_6 : decode cX2_placeOf 6 = .ok (.iconst 1, 1) := by decide +kernel
theorem dX2_placeOf_7 : decode cX2_placeOf 7 = .ok (.if_icmp .lt 20, 3) := by decide +kernel
theorem dX2_placeOf_10 : decode cX2_placeOf 10 = .ok (.iload_n 1, 1) := by decide +kernel
theorem dX2_placeOf_11 : decode cX2_placeOf 11 = .ok (.aload_n 0, 1) := by decide +kernel
theorem dX2_placeOf_12 : decode cX2_placeOf 12 = .ok (.getfield 13, 3) := by decide +kernel
theorem dX2_placeOf_15 : decode cX2_placeOf 15 = .ok (.if_icmp .gt 12, 3) := by decide +kernel
theorem dX2_placeOf_18 : decode cX2_placeOf 18 = .ok (.aload_n 0, 1) := by decide +kernel
theorem dX2_placeOf_19 : decode cX2_placeOf 19 = .ok (.getfield 7, 3) := by decide +kernel
theorem dX2_placeOf_22 : decode cX2_placeOf 22 = .ok (.iload_n 1, 1) := by decide +kernel
theorem dX2_placeOf_23 : decode cX2_placeOf 23 = .ok (.iaload, 1) := by decide +kernel
theorem dX2_placeOf_24 : decode cX2_placeOf 24 = .ok (.goto 4, 3) := by decide +kernel
theorem dX2_placeOf_27 : decode cX2_placeOf 27 = .ok (.iconst (-1), 1) := by decide +kernel
theorem dX2_placeOf_28 : decode cX2_placeOf 28 = .ok (.ireturn, 1) := by decide +kernel
set_option maxRecDepth 20000 in
theorem ggX2_drunk_X2_howMany : GoodIn wsX2_drunk wsX2_howMany := goodIn_r _ [6, 7, 8, 9, 10, 11, 12] (by decide +kernel) (by decide +kernel)
set_option maxRecDepth 20000 in
theorem gX2_drunk_X2_howMany : GoodIn wsX2_drunk (wsV RX2 27 RX2 yX2_howMany wsX2_howMany) := goodIn_app (goodIn_of _ (by decide +kernel)) ggX2_drunk_X2_howMany
theorem dX2_drunk_0 : decode cX2_drunk 0 = .ok (.aload_n 0, 1) := by decide +kernel
theorem dX2_drunk_1 : decode cX2_drunk 1 = .ok (.iconst 0, 1) := by decide +kernel
theorem dX2_drunk_2 : decode cX2_drunk 2 = .ok (.putfield 20, 3) := by decide +kernel
theorem dX2_drunk_5 : decode cX2_drunk 5 = .ok (.aload_n 0, 1) := by decide +kernel
theorem dX2_drunk_6 : decode cX2_drunk 6 = .ok (.bipush 9, 2) := by decide +kernel
theorem dX2_drunk_8 : decode cX2_drunk 8 = .ok (.invokevirtual 27, 3) := by decide +kernel
theorem dX2_drunk_11 : decode cX2_drunk 11 = .ok (.ireturn, 1) := by decide +kernel
set_option maxRecDepth 20000 in
theorem ggX2_spilt_X2_howMany : GoodIn wsX2_spilt wsX2_howMany := goodIn_r _ [6, 7, 8, 9, 10, 11, 12] (by decide +kernel) (by decide +kernel)
set_option maxRecDepth 20000 in
theorem gX2_spilt_X2_howMany : GoodIn wsX2_spilt (wsV RX2 27 RX2 yX2_howMany wsX2_howMany) := goodIn_app (goodIn_of _ (by decide +kernel)) ggX2_spilt_X2_howMany
theorem dX2_spilt_0 : decode cX2_spilt 0 = .ok (.aload_n 0, 1) := by decide +kernel
theorem dX2_spilt_1 : decode cX2_spilt 1 = .ok (.iconst 0, 1) := by decide +kernel
theorem dX2_spilt_2 : decode cX2_spilt 2 = .ok (.putfield 20, 3) := by decide +kernel
theorem dX2_spilt_5 : decode cX2_spilt 5 = .ok (.aload_n 0, 1) := by decide +kernel
theorem dX2_spilt_6 : decode cX2_spilt 6 = .ok (.bipush 10, 2) := by decide +kernel
theorem dX2_spilt_8 : decode cX2_spilt 8 = .ok (.invokevirtual 27, 3) := by decide +kernel
theorem dX2_spilt_11 : decode cX2_spilt 11 = .ok (.ireturn, 1) := by decide +kernel
theorem dX2_lowestLeft_0 : decode cX2_lowestLeft 0 = .ok (.aload_n 0, 1) := by decide +kernel
theorem dX2_lowestLeft_1 : decode cX2_lowestLeft 1 = .ok (.iconst 0, 1) := by decide +kernel
theorem dX2_lowestLeft_2 : decode cX2_lowestLeft 2 = .ok (.putfield 20, 3) := by decide +kernel
theorem dX2_lowestLeft_5 : decode cX2_lowestLeft 5 = .ok (.iconst 1, 1) := by decide +kernel
theorem dX2_lowestLeft_6 : decode cX2_lowestLeft 6 = .ok (.istore_n 1, 1) := by decide +kernel
theorem dX2_lowestLeft_7 : decode cX2_lowestLeft 7 = .ok (.iload_n 1, 1) := by decide +kernel
theorem dX2_lowestLeft_8 : decode cX2_lowestLeft 8 = .ok (.aload_n 0, 1) := by decide +kernel
theorem dX2_lowestLeft_9 : decode cX2_lowestLeft 9 = .ok (.getfield 13, 3) := by decide +kernel
theorem dX2_lowestLeft_12 : decode cX2_lowestLeft 12 = .ok (.if_icmp .gt 20, 3) := by decide +kernel
theorem dX2_lowestLeft_15 : decode cX2_lowestLeft 15 = .ok (.aload_n 0, 1) := by decide +kernel
theorem dX2_lowestLeft_16 : decode cX2_lowestLeft 16 = .ok (.getfield 7, 3) := by decide +kernel
theorem dX2_lowestLeft_19 : decode cX2_lowestLeft 19 = .ok (.iload_n 1, 1) := by decide +kernel
theorem dX2_lowestLeft_20 : decode cX2_lowestLeft 20 = .ok (.iaload, 1) := by decide +kernel
theorem dX2_lowestLeft_21 : decode cX2_lowestLeft 21 = .ok (.bipush 9, 2) := by decide +kernel
theorem dX2_lowestLeft_23 : decode cX2_lowestLeft 23 = .ok (.if_icmp .ne 9, 3) := by decide +kernel
theorem dX2_lowestLeft_26 : decode cX2_lowestLeft 26 = .ok (.iinc 1 1, 3) := by decide +kernel
theorem dX2_lowestLeft_29 : decode cX2_lowestLeft 29 = .ok (.goto (-22), 3) := by decide +kernel
theorem dX2_lowestLeft_32 : decode cX2_lowestLeft 32 = .ok (.iload_n 1, 1) := by decide +kernel
theorem dX2_lowestLeft_33 : decode cX2_lowestLeft 33 = .ok (.aload_n 0, 1) := by decide +kernel
theorem dX2_lowestLeft_34 : decode cX2_lowestLeft 34 = .ok (.getfield 13, 3) := by decide +kernel
theorem dX2_lowestLeft_37 : decode cX2_lowestLeft 37 = .ok (.if_icmp .le 7, 3) := by decide +kernel
theorem dX2_lowestLeft_40 : decode cX2_lowestLeft 40 = .ok (.iconst 0, 1) := by decide +kernel
theorem dX2_lowestLeft_41 : decode cX2_lowestLeft 41 = .ok (.goto 4, 3) := by decide +kernel
theorem dX2_lowestLeft_44 : decode cX2_lowestLeft 44 = .ok (.iload_n 1, 1) := by decide +kernel
theorem dX2_lowestLeft_45 : decode cX2_lowestLeft 45 = .ok (.ireturn, 1) := by decide +kernel
