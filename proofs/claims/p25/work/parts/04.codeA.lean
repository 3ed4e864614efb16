theorem dX0_init_0 : decode cX0_init 0 = .ok (.aload_n 0, 1) := by decide +kernel
theorem dX0_init_1 : decode cX0_init 1 = .ok (.invokespecial 1, 3) := by decide +kernel
theorem dX0_init_4 : decode cX0_init 4 = .ok (.aload_n 0, 1) := by decide +kernel
theorem dX0_init_5 : decode cX0_init 5 = .ok (.iload_n 1, 1) := by decide +kernel
theorem dX0_init_6 : decode cX0_init 6 = .ok (.putfield 7, 3) := by decide +kernel
theorem dX0_init_9 : decode cX0_init 9 = .ok (.aload_n 0, 1) := by decide +kernel
theorem dX0_init_10 : decode cX0_init 10 = .ok (.iload_n 2, 1) := by decide +kernel
theorem dX0_init_11 : decode cX0_init 11 = .ok (.putfield 13, 3) := by decide +kernel
theorem dX0_init_14 : decode cX0_init 14 = .ok (.aload_n 0, 1) := by decide +kernel
theorem dX0_init_15 : decode cX0_init 15 = .ok (.iload_n 3, 1) := by decide +kernel
theorem dX0_init_16 : decode cX0_init 16 = .ok (.putfield 16, 3) := by decide +kernel
theorem dX0_init_19 : decode cX0_init 19 = .ok (.aload_n 0, 1) := by decide +kernel
theorem dX0_init_20 : decode cX0_init 20 = .ok (.aload 4, 2) := by decide +kernel
theorem dX0_init_22 : decode cX0_init 22 = .ok (.putfield 19, 3) := by decide +kernel
theorem dX0_init_25 : decode cX0_init 25 = .ok (.return_, 1) := by decide +kernel
theorem dX0_length_0 : decode cX0_length 0 = .ok (.aload_n 0, 1) := by decide +kernel
theorem dX0_length_1 : decode cX0_length 1 = .ok (.getfield 13, 3) := by decide +kernel
theorem dX0_length_4 : decode cX0_length 4 = .ok (.aload_n 0, 1) := by decide +kernel
theorem dX0_length_5 : decode cX0_length 5 = .ok (.getfield 7, 3) := by decide +kernel
theorem dX0_length_8 : decode cX0_length 8 = .ok (.isub, 1) := by decide +kernel
theorem dX0_length_9 : decode cX0_length 9 = .ok (.iconst 1, 1) := by decide +kernel
theorem dX0_length_10 : decode cX0_length 10 = .ok (.iadd, 1) := by decide +kernel
theorem dX0_length_11 : decode cX0_length 11 = .ok (.ireturn, 1) := by decide +kernel
set_option maxRecDepth 20000 in
theorem ggX0_shortenTo_X0_length : GoodIn wsX0_shortenTo wsX0_length := goodIn_r _ [11, 5, 1, 18, 19, 20, 21] (by decide +kernel) (by decide +kernel)
set_option maxRecDepth 20000 in
theorem gX0_shortenTo_X0_length : GoodIn wsX0_shortenTo (wsV RX0 23 RX0 yX0_length wsX0_length) := goodIn_app (goodIn_of _ (by decide +kernel)) ggX0_shortenTo_X0_length
set_option maxRecDepth 20000 in
theorem ggX0_shortenTo_X0_init : GoodIn wsX0_shortenTo wsX0_init := goodIn_r _ [14, 15, 16, 17, 1, 5, 6, 7, 18, 19, 20, 21] (by decide +kernel) (by decide +kernel)
set_option maxRecDepth 20000 in
theorem gX0_shortenTo_X0_init : GoodIn wsX0_shortenTo (wsX0_init) := ggX0_shortenTo_X0_init
theorem dX0_shortenTo_0 : decode cX0_shortenTo 0 = .ok (.aload_n 0, 1) := by decide +kernel
theorem dX0_shortenTo_1 : decode cX0_shortenTo 1 = .ok (.invokevirtual 23, 3) := by decide +kernel
theorem dX0_shortenTo_4 : decode cX0_shortenTo 4 = .ok (.iload_n 1, 1) := by decide +kernel
theorem dX0_shortenTo_5 : decode cX0_shortenTo 5 = .ok (.if_icmp .le 43, 3) := by decide +kernel
theorem dX0_shortenTo_8 : decode cX0_shortenTo 8 = .ok (.aload_n 0, 1) := by decide +kernel
theorem dX0_shortenTo_9 : decode cX0_shortenTo 9 = .ok (.getfield 7, 3) := by decide +kernel
theorem dX0_shortenTo_12 : decode cX0_shortenTo 12 = .ok (.iload_n 1, 1) := by decide +kernel
theorem dX0_shortenTo_13 : decode cX0_shortenTo 13 = .ok (.iadd, 1) := by decide +kernel
theorem dX0_shortenTo_14 : decode cX0_shortenTo 14 = .ok (.iconst 1, 1) := by decide +kernel
theorem dX0_shortenTo_15 : decode cX0_shortenTo 15 = .ok (.isub, 1) := by decide +kernel
theorem dX0_shortenTo_16 : decode cX0_shortenTo 16 = .ok (.istore_n 2, 1) := by decide +kernel
theorem dX0_shortenTo_17 : decode cX0_shortenTo 17 = .ok (.aload_n 0, 1) := by decide +kernel
theorem dX0_shortenTo_18 : decode cX0_shortenTo 18 = .ok (.new 8, 3) := by decide +kernel
theorem dX0_shortenTo_21 : decode cX0_shortenTo 21 = .ok (.dup, 1) := by decide +kernel
theorem dX0_shortenTo_22 : decode cX0_shortenTo 22 = .ok (.iload_n 2, 1) := by decide +kernel
theorem dX0_shortenTo_23 : decode cX0_shortenTo 23 = .ok (.iconst 1, 1) := by decide +kernel
theorem dX0_shortenTo_24 : decode cX0_shortenTo 24 = .ok (.iadd, 1) := by decide +kernel
theorem dX0_shortenTo_25 : decode cX0_shortenTo 25 = .ok (.aload_n 0, 1) := by decide +kernel
theorem dX0_shortenTo_26 : decode cX0_shortenTo 26 = .ok (.getfield 13, 3) := by decide +kernel
theorem dX0_shortenTo_29 : decode cX0_shortenTo 29 = .ok (.aload_n 0, 1) := by decide +kernel
theorem dX0_shortenTo_30 : decode cX0_shortenTo 30 = .ok (.getfield 16, 3) := by decide +kernel
theorem dX0_shortenTo_33 : decode cX0_shortenTo 33 = .ok (.aload_n 0, 1) := by decide +kernel
theorem dX0_shortenTo_34 : decode cX0_shortenTo 34 = .ok (.getfield 19, 3) := by decide +kernel
theorem dX0_shortenTo_37 : decode cX0_shortenTo 37 = .ok (.invokespecial 27, 3) := by decide +kernel
theorem dX0_shortenTo_40 : decode cX0_shortenTo 40 = .ok (.putfield 19, 3) := by decide +kernel
theorem dX0_shortenTo_43 : decode cX0_shortenTo 43 = .ok (.aload_n 0, 1) := by decide +kernel
theorem dX0_shortenTo_44 : decode cX0_shortenTo 44 = .ok (.iload_n 2, 1) := by decide +kernel
theorem dX0_shortenTo_45 : decode cX0_shortenTo 45 = .ok (.putfield 13, 3) := by decide +kernel
theorem dX0_shortenTo_48 : decode cX0_shortenTo 48 = .ok (.return_, 1) := by decide +kernel
theorem dX0_absorbNextOnesOfSamePlace_0 : decode cX0_absorbNextOnesOfSamePlace 0 = .ok (.aload_n 0, 1) := by decide +kernel
theorem dX0_absorbNextOnesOfSamePlace_1 : decode cX0_absorbNextOnesOfSamePlace 1 = .ok (.getfield 19, 3) := by decide +kernel
theorem dX0_absorbNextOnesOfSamePlace_4 : decode cX0_absorbNextOnesOfSamePlace 4 = .ok (.astore_n 1, 1) := by decide +kernel
theorem dX0_absorbNextOnesOfSamePlace_5 : decode cX0_absorbNextOnesOfSamePlace 5 = .ok (.aload_n 1, 1) := by decide +kernel
theorem dX0_absorbNextOnesOfSamePlace_6 : decode cX0_absorbNextOnesOfSamePlace 6 = .ok (.ifnull 30, 3) := by decide +kernel
theorem dX0_absorbNextOnesOfSamePlace_9 : decode cX0_absorbNextOnesOfSamePlace 9 = .ok (.aload_n 1, 1) := by decide +kernel
theorem dX0_absorbNextOnesOfSamePlace_10 : decode cX0_absorbNextOnesOfSamePlace 10 = .ok (.getfield 16, 3) := by decide +kernel
theorem dX0_absorbNextOnesOfSamePlace_13 : decode cX0_absorbNextOnesOfSamePlace 13 = .ok (.aload_n 0, 1) := by decide +kernel
theorem dX0_absorbNextOnesOfSamePlace_14 : decode cX0_absorbNextOnesOfSamePlace 14 = .ok (.getfield 16, 3) := by decide +kernel
theorem dX0_absorbNextOnesOfSamePlace_17 : decode cX0_absorbNextOnesOfSamePlace 17 = .ok (.if_icmp .ne 19, 3) := by decide +kernel
theorem dX0_absorbNextOnesOfSamePlace_20 : decode cX0_absorbNextOnesOfSamePlace 20 = .ok (.aload_n 0, 1) := by decide +kernel
theorem dX0_absorbNextOnesOfSamePlace_21 : decode cX0_absorbNextOnesOfSamePlace 21 = .ok (.aload_n 1, 1) := by decide +kernel
theorem dX0_absorbNextOnesOfSamePlace_22 : decode cX0_absorbNextOnesOfSamePlace 22 = .ok (.getfield 13, 3) := by decide +kernel
theorem dX0_absorbNextOnesOfSamePlace_25 : decode cX0_absorbNextOnesOfSamePlace 25 = .ok (.putfield 13, 3) := by decide +kernel
theorem dX0_absorbNextOnesOfSamePlace_28 : decode cX0_absorbNextOnesOfSamePlace 28 = .ok (.aload_n 1, 1) := by decide +kernel
theorem dX0_absorbNextOnesOfSamePlace_29 : decode cX0_absorbNextOnesOfSamePlace 29 = .ok (.getfield 19, 3) := by decide +kernel
theorem dX0_absorbNextOnesOfSamePlace_32 : decode cX0_absorbNextOnesOfSamePlace 32 = .ok (.astore_n 1, 1) := by decide +kernel
theorem dX0_absorbNextOnesOfSamePlace_33 : decode cX0_absorbNextOnesOfSamePlace 33 = .ok (.goto (-28), 3) := by decide +kernel
theorem dX0_absorbNextOnesOfSamePlace_36 : decode cX0_absorbNextOnesOfSamePlace 36 = .ok (.aload_n 0, 1) := by decide +kernel
theorem dX0_absorbNextOnesOfSamePlace_37 : decode cX0_absorbNextOnesOfSamePlace 37 = .ok (.aload_n 1, 1) := by decide +kernel
theorem dX0_absorbNextOnesOfSamePlace_38 : decode cX0_absorbNextOnesOfSamePlace 38 = .ok (.putfield 19, 3) := by decide +kernel
theorem dX0_absorbNextOnesOfSamePlace_41 : decode cX0_absorbNextOnesOfSamePlace 41 = .ok (.return_, 1) := by decide +kernel
set_option maxRecDepth 20000 in
theorem ggX1_init_X0_init : GoodIn wsX1_init wsX0_init := goodIn_r _ [11, 12, 2, 3, 13, 14, 15, 16, 17, 18, 19, 20] (by decide +kernel) (by decide +kernel)
set_option maxRecDepth 20000 in
theorem gX1_init_X0_init_n11 : GoodIn wsX1_init (wsX0_init) := ggX1_init_X0_init
theorem dX1_init_0 : decode cX1_init 0 = .ok (.aload_n 0, 1) := by decide +kernel
theorem dX1_init_1 : decode cX1_init 1 = .ok (.invokespecial 1, 3) := by decide +kernel
theorem dX1_init_4 : decode cX1_init 4 = .ok (.new 7, 3) := by decide +kernel
theorem dX1_init_7 : decode cX1_init 7 = .ok (.dup, 1) := by decide +kernel
theorem dX1_init_8 : decode cX1_init 8 = .ok (.bipush 101, 2) := by decide +kernel
theorem dX1_init_10 : decode cX1_init 10 = .ok (.sipush 5000, 3) := by decide +kernel
theorem dX1_init_13 : decode cX1_init 13 = .ok (.iconst (-1), 1) := by decide +kernel
theorem dX1_init_14 : decode cX1_init 14 = .ok (.aconst_null, 1) := by decide +kernel
theorem dX1_init_15 : decode cX1_init 15 = .ok (.invokespecial 11, 3) := by decide +kernel
theorem dX1_init_18 : decode cX1_init 18 = .ok (.astore_n 1, 1) := by decide +kernel
theorem dX1_init_19 : decode cX1_init 19 = .ok (.aload_n 0, 1) := by decide +kernel
theorem dX1_init_20 : decode cX1_init 20 = .ok (.new 7, 3) := by decide +kernel
theorem dX1_init_23 : decode cX1_init 23 = .ok (.dup, 1) := by decide +kernel
theorem dX1_init_24 : decode cX1_init 24 = .ok (.iconst 1, 1) := by decide +kernel
theorem dX1_init_25 : decode cX1_init 25 = .ok (.bipush 100, 2) := by decide +kernel
theorem dX1_init_27 : decode cX1_init 27 = .ok (.bipush 8, 2) := by decide +kernel
theorem dX1_init_29 : decode cX1_init 29 = .ok (.aload_n 1, 1) := by decide +kernel
theorem dX1_init_30 : decode cX1_init 30 = .ok (.invokespecial 11, 3) := by decide +kernel
theorem dX1_init_33 : decode cX1_init 33 = .ok (.putfield 14, 3) := by decide +kernel
theorem dX1_init_36 : decode cX1_init 36 = .ok (.aload_n 0, 1) := by decide +kernel
theorem dX1_init_37 : decode cX1_init 37 = .ok (.bipush 100, 2) := by decide +kernel
theorem dX1_init_39 : decode cX1_init 39 = .ok (.putfield 18, 3) := by decide +kernel
theorem dX1_init_42 : decode cX1_init 42 = .ok (.aload_n 0, 1) := by decide +kernel
theorem dX1_init_43 : decode cX1_init 43 = .ok (.iconst 1, 1) := by decide +kernel
theorem dX1_init_44 : decode cX1_init 44 = .ok (.putfield 22, 3) := by decide +kernel
theorem dX1_init_47 : decode cX1_init 47 = .ok (.return_, 1) := by decide +kernel
set_option maxRecDepth 20000 in
theorem ggX1_enlarge_X1_move : GoodIn wsX1_enlarge wsX1_move := goodIn_r _ [8, 9, 10, 11, 12, 13, 14, 15, 16, 17, 18, 19, 20, 21, 22, 23, 24, 25, 26, 27, 28, 29, 30, 31, 32, 7, 33, 34, 35, 36, 49, 50, 51, 52, 53, 54, 55] (by decide +kernel) (by decide +kernel)
set_option maxRecDepth 20000 in
theorem gX1_enlarge_X1_move : GoodIn wsX1_enlarge (wsV RX1 32 RX1 yX1_move wsX1_move) := goodIn_app (goodIn_of _ (by decide +kernel)) ggX1_enlarge_X1_move
set_option maxRecDepth 20000 in
theorem ggX1_enlarge_X1_numbersAt : GoodIn wsX1_enlarge wsX1_numbersAt := goodIn_r _ [40, 41, 42, 43, 7, 44, 9, 45, 46, 47, 48, 49, 50, 51, 52, 53, 54, 55] (by decide +kernel) (by decide +kernel)
set_option maxRecDepth 20000 in
theorem gX1_enlarge_X1_numbersAt : GoodIn wsX1_enlarge (wsV RX1 36 RX1 yX1_numbersAt wsX1_numbersAt) := goodIn_app (goodIn_of _ (by decide +kernel)) ggX1_enlarge_X1_numbersAt
theorem dX1_enlarge_0 : decode cX1_enlarge 0 = .ok (.iload_n 1, 1) := by decide +kernel
theorem dX1_enlarge_1 : decode cX1_enlarge 1 = .ok (.aload_n 0, 1) := by decide +kernel
theorem dX1_enlarge_2 : decode cX1_enlarge 2 = .ok (.getfield 18, 3) := by decide +kernel
theorem dX1_enlarge_5 : decode cX1_enlarge 5 = .ok (.if_icmp .le 10, 3) := by decide +kernel
theorem dX1_enlarge_8 : decode cX1_enlarge 8 = .ok (.iload_n 1, 1) := by decide +kernel
theorem dX1_enlarge_9 : decode cX1_enlarge 9 = .ok (.sipush 5000, 3) := by decide +kernel
theorem dX1_enlarge_12 : decode cX1_enlarge 12 = .ok (.if_icmp .le 13, 3) := by decide +kernel
theorem dX1_enlarge_15 : decode cX1_enlarge 15 = .ok (.new 25, 3) := by decide +kernel
theorem dX1_enlarge_18 : decode cX1_enlarge 18 = .ok (.dup, 1) := by decide +kernel
theorem dX1_enlarge_19 : decode cX1_enlarge 19 = .ok (.ldc 27, 2) := by decide +kernel
theorem dX1_enlarge_21 : decode cX1_enlarge 21 = .ok (.invokespecial 29, 3) := by decide +kernel
theorem dX1_enlarge_24 : decode cX1_enlarge 24 = .ok (.athrow, 1) := by decide +kernel
theorem dX1_enlarge_25 : decode cX1_enlarge 25 = .ok (.aload_n 0, 1) := by decide +kernel
theorem dX1_enlarge_26 : decode cX1_enlarge 26 = .ok (.iconst (-1), 1) := by decide +kernel
theorem dX1_enlarge_27 : decode cX1_enlarge 27 = .ok (.bipush 8, 2) := by decide +kernel
theorem dX1_enlarge_29 : decode cX1_enlarge 29 = .ok (.iconst 0, 1) := by decide +kernel
theorem dX1_enlarge_30 : decode cX1_enlarge 30 = .ok (.iload_n 1, 1) := by decide +kernel
theorem dX1_enlarge_31 : decode cX1_enlarge 31 = .ok (.aload_n 0, 1) := by decide +kernel
theorem dX1_enlarge_32 : decode cX1_enlarge 32 = .ok (.getfield 18, 3) := by decide +kernel
theorem dX1_enlarge_35 : decode cX1_enlarge 35 = .ok (.isub, 1) := by decide +kernel
theorem dX1_enlarge_36 : decode cX1_enlarge 36 = .ok (.invokevirtual 32, 3) := by decide +kernel
theorem dX1_enlarge_39 : decode cX1_enlarge 39 = .ok (.pop, 1) := by decide +kernel
theorem dX1_enlarge_40 : decode cX1_enlarge 40 = .ok (.aload_n 0, 1) := by decide +kernel
theorem dX1_enlarge_41 : decode cX1_enlarge 41 = .ok (.iload_n 1, 1) := by decide +kernel
theorem dX1_enlarge_42 : decode cX1_enlarge 42 = .ok (.putfield 18, 3) := by decide +kernel
theorem dX1_enlarge_45 : decode cX1_enlarge 45 = .ok (.aload_n 0, 1) := by decide +kernel
theorem dX1_enlarge_46 : decode cX1_enlarge 46 = .ok (.bipush 8, 2) := by decide +kernel
theorem dX1_enlarge_48 : decode cX1_enlarge 48 = .ok (.invokevirtual 36, 3) := by decide +kernel
theorem dX1_enlarge_51 : decode cX1_enlarge 51 = .ok (.ireturn, 1) := by decide +kernel
set_option maxRecDepth 20000 in
theorem ggX1_pour_X1_checkGoblet : GoodIn wsX1_pour wsX1_checkGoblet := goodIn_ca (goodIn_r _ [6, 7, 8] (by decide +kernel) (by decide +kernel)) (goodIn_sub (fun _ h => List.mem_cons_of_mem _ (List.mem_append_left _ (List.mem_append_right _ h))) (by decide +kernel))
set_option maxRecDepth 20000 in
theorem gX1_pour_X1_checkGoblet : GoodIn wsX1_pour (va_wsS RX1 40 yX1_checkGoblet wsX1_checkGoblet) := goodIn_app (goodIn_of _ (by decide +kernel)) ggX1_pour_X1_checkGoblet
set_option maxRecDepth 20000 in
theorem ggX1_pour_X1_checkCount : GoodIn wsX1_pour wsX1_checkCount := goodIn_ca (goodIn_r _ [11, 12, 13] (by decide +kernel) (by decide +kernel)) (goodIn_sub (fun _ h => List.mem_cons_of_mem _ (List.mem_append_right _ h)) (by decide +kernel))
set_option maxRecDepth 20000 in
theorem gX1_pour_X1_checkCount : GoodIn wsX1_pour (va_wsS RX1 44 yX1_checkCount wsX1_checkCount) := goodIn_app (goodIn_of _ (by decide +kernel)) ggX1_pour_X1_checkCount
set_option maxRecDepth 20000 in
theorem ggX1_pour_X1_lowestAt : GoodIn wsX1_pour wsX1_lowestAt := goodIn_r _ [17, 18, 50, 51, 52, 53, 54, 55, 56] (by decide +kernel) (by decide +kernel)
set_option maxRecDepth 20000 in
theorem gX1_pour_X1_lowestAt : GoodIn wsX1_pour (wsV RX1 47 RX1 yX1_lowestAt wsX1_lowestAt) := goodIn_app (goodIn_of _ (by decide +kernel)) ggX1_pour_X1_lowestAt
set_option maxRecDepth 20000 in
theorem ggX1_pour_X1_move : GoodIn wsX1_pour wsX1_move := goodIn_r _ [22, 18, 23, 24, 25, 26, 27, 28, 29, 30, 31, 32, 33, 34, 35, 36, 37, 38, 39, 40, 41, 42, 43, 44, 45, 5, 46, 47, 48, 49, 50, 51, 52, 53, 54, 55, 56] (by decide +kernel) (by decide +kernel)
set_option maxRecDepth 20000 in
theorem gX1_pour_X1_move : GoodIn wsX1_pour (wsV RX1 32 RX1 yX1_move wsX1_move) := goodIn_app (goodIn_of _ (by decide +kernel)) ggX1_pour_X1_move
theorem dX1_pour_0 : decode cX1_pour 0 = .ok (.iload_n 1, 1) := by decide +kernel
theorem dX1_pour_1 : decode cX1_pour 1 = .ok (.invokestatic 40, 3) := by decide +kernel
theorem dX1_pour_4 : decode cX1_pour 4 = .ok (.iload_n 2, 1) := by decide +kernel
theorem dX1_pour_5 : decode cX1_pour 5 = .ok (.invokestatic 44, 3) := by decide +kernel
theorem dX1_pour_8 : decode cX1_pour 8 = .ok (.aload_n 0, 1) := by decide +kernel
theorem dX1_pour_9 : decode cX1_pour 9 = .ok (.bipush 8, 2) := by decide +kernel
theorem dX1_pour_11 : decode cX1_pour 11 = .ok (.invokevirtual 47, 3) := by decide +kernel
theorem dX1_pour_14 : decode cX1_pour 14 = .ok (.ifCond .ne 13, 3) := by decide +kernel
theorem dX1_pour_17 : decode cX1_pour 17 = .ok (.new 50, 3) := by decide +kernel
theorem dX1_pour_20 : decode cX1_pour 20 = .ok (.dup, 1) := by decide +kernel
theorem dX1_pour_21 : decode cX1_pour 21 = .ok (.ldc 52, 2) := by decide +kernel
theorem dX1_pour_23 : decode cX1_pour 23 = .ok (.invokespecial 54, 3) := by decide +kernel
theorem dX1_pour_26 : decode cX1_pour 26 = .ok (.athrow, 1) := by decide +kernel
theorem dX1_pour_27 : decode cX1_pour 27 = .ok (.aload_n 0, 1) := by decide +kernel
theorem dX1_pour_28 : decode cX1_pour 28 = .ok (.bipush 8, 2) := by decide +kernel
theorem dX1_pour_30 : decode cX1_pour 30 = .ok (.iload_n 1, 1) := by decide +kernel
theorem dX1_pour_31 : decode cX1_pour 31 = .ok (.iconst 0, 1) := by decide +kernel
theorem dX1_pour_32 : decode cX1_pour 32 = .ok (.iload_n 2, 1) := by decide +kernel
theorem dX1_pour_33 : decode cX1_pour 33 = .ok (.invokevirtual 32, 3) := by decide +kernel
theorem dX1_pour_36 : decode cX1_pour 36 = .ok (.ireturn, 1) := by decide +kernel
set_option maxRecDepth 20000 in
theorem ggX1_drink_X1_checkGoblet : GoodIn wsX1_drink wsX1_checkGoblet := goodIn_ca (goodIn_r _ [6, 7, 8] (by decide +kernel) (by decide +kernel)) (goodIn_sub (fun _ h => List.mem_cons_of_mem _ (List.mem_append_right _ h)) (by decide +kernel))
set_option maxRecDepth 20000 in
theorem gX1_drink_X1_checkGoblet : GoodIn wsX1_drink (va_wsS RX1 40 yX1_checkGoblet wsX1_checkGoblet) := goodIn_app (goodIn_of _ (by decide +kernel)) ggX1_drink_X1_checkGoblet
set_option maxRecDepth 20000 in
theorem ggX1_drink_X1_lowestAt : GoodIn wsX1_drink wsX1_lowestAt := goodIn_r _ [12, 13, 45, 46, 47, 48, 49, 50, 51] (by decide +kernel) (by decide +kernel)
set_option maxRecDepth 20000 in
theorem gX1_drink_X1_lowestAt : GoodIn wsX1_drink (wsV RX1 47 RX1 yX1_lowestAt wsX1_lowestAt) := goodIn_app (goodIn_of _ (by decide +kernel)) ggX1_drink_X1_lowestAt
set_option maxRecDepth 20000 in
theorem ggX1_drink_X1_move : GoodIn wsX1_drink wsX1_move := goodIn_r _ [17, 13, 18, 19, 20, 21, 22, 23, 24, 25, 26, 27, 28, 29, 30, 31, 32, 33, 34, 35, 36, 37, 38, 39, 40, 5, 41, 42, 43, 44, 45, 46, 47, 48, 49, 50, 51] (by decide +kernel) (by decide +kernel)
set_option maxRecDepth 20000 in
theorem gX1_drink_X1_move : GoodIn wsX1_drink (wsV RX1 32 RX1 yX1_move wsX1_move) := goodIn_app (goodIn_of _ (by decide +kernel)) ggX1_drink_X1_move
theorem dX1_drink_0 : decode cX1_drink 0 = .ok (.iload_n 1, 1) := by decide +kernel
theorem dX1_drink_1 : decode cX1_drink 1 = .ok (.invokestatic 40, 3) := by decide +kernel
theorem dX1_drink_4 : decode cX1_drink 4 = .ok (.aload_n 0, 1) := by decide +kernel
theorem dX1_drink_5 : decode cX1_drink 5 = .ok (.iload_n 1, 1) := by decide +kernel
theorem dX1_drink_6 : decode cX1_drink 6 = .ok (.invokevirtual 47, 3) := by decide +kernel
theorem dX1_drink_9 : decode cX1_drink 9 = .ok (.ifCond .ne 13, 3) := by decide +kernel
theorem dX1_drink_12 : decode cX1_drink 12 = .ok (.aload_n 0, 1) := by decide +kernel
theorem dX1_drink_13 : decode cX1_drink 13 = .ok (.bipush 8, 2) := by decide +kernel
theorem dX1_drink_15 : decode cX1_drink 15 = .ok (.iload_n 1, 1) := by decide +kernel
theorem dX1_drink_16 : decode cX1_drink 16 = .ok (.iconst 0, 1) := by decide +kernel
theorem dX1_drink_17 : decode cX1_drink 17 = .ok (.iconst 1, 1) := by decide +kernel
theorem dX1_drink_18 : decode cX1_drink 18 = .ok (.invokevirtual 32, 3) := by decide +kernel
theorem dX1_drink_21 : decode cX1_drink 21 = .ok (.pop, 1) := by decide +kernel
theorem dX1_drink_22 : decode cX1_drink 22 = .ok (.aload_n 0, 1) := by decide +kernel
theorem dX1_drink_23 : decode cX1_drink 23 = .ok (.iload_n 1, 1) := by decide +kernel
theorem dX1_drink_24 : decode cX1_drink 24 = .ok (.invokevirtual 47, 3) := by decide +kernel
theorem dX1_drink_27 : decode cX1_drink 27 = .ok (.istore_n 2, 1) := by decide +kernel
theorem dX1_drink_28 : decode cX1_drink 28 = .ok (.iload_n 2, 1) := by decide +kernel
theorem dX1_drink_29 : decode cX1_drink 29 = .ok (.ifCond .ne 13, 3) := by decide +kernel
theorem dX1_drink_32 : decode cX1_drink 32 = .ok (.new 50, 3) := by decide +kernel
theorem dX1_drink_35 : decode cX1_drink 35 = .ok (.dup, 1) := by decide +kernel
theorem dX1_drink_36 : decode cX1_drink 36 = .ok (.ldc 55, 2) := by decide +kernel
theorem dX1_drink_38 : decode cX1_drink 38 = .ok (.invokespecial 54, 3) := by decide +kernel
theorem dX1_drink_41 : decode cX1_drink 41 = .ok (.athrow, 1) := by decide +kernel
theorem dX1_drink_42 : decode cX1_drink 42 = .ok (.aload_n 0, 1) := by decide +kernel
theorem dX1_drink_43 : decode cX1_drink 43 = .ok (.iload_n 1, 1) := by decide +kernel
theorem dX1_drink_44 : decode cX1_drink 44 = .ok (.bipush 9, 2) := by decide +kernel
theorem dX1_drink_46 : decode cX1_drink 46 = .ok (.iconst 0, 1) := by decide +kernel
theorem dX1_drink_47 : decode cX1_drink 47 = .ok (.iconst 1, 1) := by decide +kernel
theorem dX1_drink_48 : decode cX1_drink 48 = .ok (.invokevirtual 32, 3) := by decide +kernel
theorem dX1_drink_51 : decode cX1_drink 51 = .ok (.pop, 1) := by decide +kernel
theorem dX1_drink_52 : decode cX1_drink 52 = .ok (.iload_n 2, 1) := by decide +kernel
theorem dX1_drink_53 : decode cX1_drink 53 = .ok (.ireturn, 1) := by decide +kernel
set_option maxRecDepth 20000 in
theorem ggX1_pourBack_X1_checkGoblet : GoodIn wsX1_pourBack wsX1_checkGoblet := goodIn_ca (goodIn_r _ [4, 5, 6] (by decide +kernel) (by decide +kernel)) (goodIn_sub (fun _ h => List.mem_cons_of_mem _ (List.mem_append_right _ h)) (by decide +kernel))
set_option maxRecDepth 20000 in
theorem gX1_pourBack_X1_checkGoblet : GoodIn wsX1_pourBack (va_wsS RX1 40 yX1_checkGoblet wsX1_checkGoblet) := goodIn_app (goodIn_of _ (by decide +kernel)) ggX1_pourBack_X1_checkGoblet
set_option maxRecDepth 20000 in
theorem ggX1_pourBack_X1_moveAll : GoodIn wsX1_pourBack wsX1_moveAll := goodIn_r _ [10, 11, 12, 13, 3, 14, 15, 16, 17, 18, 19, 20, 21, 22, 23, 24, 25, 26, 27, 28, 29, 30, 31, 32, 33, 34, 35, 36, 37, 38, 39, 40, 41, 42, 43, 44, 45, 46, 47, 48, 49] (by decide +kernel) (by decide +kernel)
set_option maxRecDepth 20000 in
theorem gX1_pourBack_X1_moveAll : GoodIn wsX1_pourBack (wsV RX1 57 RX1 yX1_moveAll wsX1_moveAll) := goodIn_app (goodIn_of _ (by decide +kernel)) ggX1_pourBack_X1_moveAll
theorem dX1_pourBack_0 : decode cX1_pourBack 0 = .ok (.iload_n 1, 1) := by decide +kernel
theorem dX1_pourBack_1 : decode cX1_pourBack 1 = .ok (.invokestatic 40, 3) := by decide +kernel
theorem dX1_pourBack_4 : decode cX1_pourBack 4 = .ok (.aload_n 0, 1) := by decide +kernel
theorem dX1_pourBack_5 : decode cX1_pourBack 5 = .ok (.iload_n 1, 1) := by decide +kernel
theorem dX1_pourBack_6 : decode cX1_pourBack 6 = .ok (.bipush 8, 2) := by decide +kernel
theorem dX1_pourBack_8 : decode cX1_pourBack 8 = .ok (.invokevirtual 57, 3) := by decide +kernel
theorem dX1_pourBack_11 : decode cX1_pourBack 11 = .ok (.ireturn, 1) := by decide +kernel
set_option maxRecDepth 20000 in
theorem ggX1_share_X1_checkGoblet : GoodIn wsX1_share wsX1_checkGoblet := goodIn_ca (goodIn_r _ [10, 11, 12] (by decide +kernel) (by decide +kernel)) (goodIn_sub (fun _ h => List.mem_cons_of_mem _ (List.mem_append_right _ h)) (by decide +kernel))
set_option maxRecDepth 20000 in
theorem gX1_share_X1_checkGoblet : GoodIn wsX1_share (va_wsS RX1 40 yX1_checkGoblet wsX1_checkGoblet) := goodIn_app (goodIn_of _ (by decide +kernel)) ggX1_share_X1_checkGoblet
set_option maxRecDepth 20000 in
theorem ggX1_share_X1_checkCount : GoodIn wsX1_share wsX1_checkCount := goodIn_ca (goodIn_r _ [15, 1, 2] (by decide +kernel) (by decide +kernel)) (goodIn_sub (fun _ h => List.mem_cons_of_mem _ (List.mem_append_left _ (List.mem_append_right _ h))) (by decide +kernel))
set_option maxRecDepth 20000 in
theorem gX1_share_X1_checkCount : GoodIn wsX1_share (va_wsS RX1 44 yX1_checkCount wsX1_checkCount) := goodIn_app (goodIn_of _ (by decide +kernel)) ggX1_share_X1_checkCount
set_option maxRecDepth 20000 in
theorem ggX1_share_X1_numbersAt : GoodIn wsX1_share wsX1_numbersAt := goodIn_r _ [19, 20, 21, 22, 9, 23, 24, 25, 26, 5, 27, 59, 60, 61, 62, 63, 64, 65] (by decide +kernel) (by decide +kernel)
set_option maxRecDepth 20000 in
theorem gX1_share_X1_numbersAt : GoodIn wsX1_share (wsV RX1 36 RX1 yX1_numbersAt wsX1_numbersAt) := goodIn_app (goodIn_of _ (by decide +kernel)) ggX1_share_X1_numbersAt
set_option maxRecDepth 20000 in
theorem ggX1_share_X1_move : GoodIn wsX1_share wsX1_move := goodIn_r _ [31, 24, 32, 33, 34, 35, 36, 37, 38, 39, 40, 41, 42, 43, 44, 45, 46, 47, 48, 49, 50, 51, 52, 53, 54, 9, 55, 56, 57, 58, 59, 60, 61, 62, 63, 64, 65] (by decide +kernel) (by decide +kernel)
set_option maxRecDepth 20000 in
theorem gX1_share_X1_move : GoodIn wsX1_share (wsV RX1 32 RX1 yX1_move wsX1_move) := goodIn_app (goodIn_of _ (by decide +kernel)) ggX1_share_X1_move
theorem dX1_share_0 : decode cX1_share 0 = .ok (.iload_n 1, 1) := by decide +kernel
theorem dX1_share_1 : decode cX1_share 1 = .ok (.invokestatic 40, 3) := by decide +kernel
theorem dX1_share_4 : decode cX1_share 4 = .ok (.iload_n 2, 1) := by decide +kernel
theorem dX1_share_5 : decode cX1_share 5 = .ok (.invokestatic 40, 3) := by decide +kernel
theorem dX1_share_8 : decode cX1_share 8 = .ok (.iload_n 1, 1) := by decide +kernel
theorem dX1_share_9 : decode cX1_share 9 = .ok (.iload_n 2, 1) := by decide +kernel
theorem dX1_share_10 : decode cX1_share 10 = .ok (.if_icmp .ne 13, 3) := by decide +kernel
theorem dX1_share_13 : decode cX1_share 13 = .ok (.new 25, 3) := by decide +kernel
theorem dX1_share_16 : decode cX1_share 16 = .ok (.dup, 1) := by decide +kernel
theorem dX1_share_17 : decode cX1_share 17 = .ok (.ldc 61, 2) := by decide +kernel
theorem dX1_share_19 : decode cX1_share 19 = .ok (.invokespecial 29, 3) := by decide +kernel
theorem dX1_share_22 : decode cX1_share 22 = .ok (.athrow, 1) := by decide +kernel
theorem dX1_share_23 : decode cX1_share 23 = .ok (.iload_n 3, 1) := by decide +kernel
theorem dX1_share_24 : decode cX1_share 24 = .ok (.invokestatic 44, 3) := by decide +kernel
theorem dX1_share_27 : decode cX1_share 27 = .ok (.iconst 0, 1) := by decide +kernel
theorem dX1_share_28 : decode cX1_share 28 = .ok (.aload_n 0, 1) := by decide +kernel
theorem dX1_share_29 : decode cX1_share 29 = .ok (.iload_n 1, 1) := by decide +kernel
theorem dX1_share_30 : decode cX1_share 30 = .ok (.invokevirtual 36, 3) := by decide +kernel
theorem dX1_share_33 : decode cX1_share 33 = .ok (.iload_n 3, 1) := by decide +kernel
theorem dX1_share_34 : decode cX1_share 34 = .ok (.isub, 1) := by decide +kernel
theorem dX1_share_35 : decode cX1_share 35 = .ok (.invokestatic 63, 3) := by decide +kernel
theorem dX1_share_38 : decode cX1_share 38 = .ok (.istore 4, 2) := by decide +kernel
theorem dX1_share_40 : decode cX1_share 40 = .ok (.aload_n 0, 1) := by decide +kernel
theorem dX1_share_41 : decode cX1_share 41 = .ok (.iload_n 1, 1) := by decide +kernel
theorem dX1_share_42 : decode cX1_share 42 = .ok (.iload_n 2, 1) := by decide +kernel
theorem dX1_share_43 : decode cX1_share 43 = .ok (.iload 4, 2) := by decide +kernel
theorem dX1_share_45 : decode cX1_share 45 = .ok (.iload_n 3, 1) := by decide +kernel
theorem dX1_share_46 : decode cX1_share 46 = .ok (.invokevirtual 32, 3) := by decide +kernel
theorem dX1_share_49 : decode cX1_share 49 = .ok (.ireturn, 1) := by decide +kernel
set_option maxRecDepth 20000 in
theorem ggX1_giveBack_X1_placeOf : GoodIn wsX1_giveBack wsX1_placeOf := goodIn_r _ [7, 8, 52, 53, 54, 55, 56, 57, 58] (by decide +kernel) (by decide +kernel)
set_option maxRecDepth 20000 in
theorem gX1_giveBack_X1_placeOf : GoodIn wsX1_giveBack (wsV RX1 68 RX1 yX1_placeOf wsX1_placeOf) := goodIn_app (goodIn_of _ (by decide +kernel)) ggX1_giveBack_X1_placeOf
set_option maxRecDepth 20000 in
theorem ggX1_giveBack_X1_numbersAtBelow : GoodIn wsX1_giveBack wsX1_numbersAtBelow := goodIn_r _ [12, 8, 13, 14, 15, 16, 52, 53, 54, 55, 56, 57, 58] (by decide +kernel) (by decide +kernel)
set_option maxRecDepth 20000 in
theorem gX1_giveBack_X1_numbersAtBelow : GoodIn wsX1_giveBack (wsV RX1 73 RX1 yX1_numbersAtBelow wsX1_numbersAtBelow) := goodIn_app (goodIn_of _ (by decide +kernel)) ggX1_giveBack_X1_numbersAtBelow
set_option maxRecDepth 20000 in
theorem ggX1_giveBack_X1_move : GoodIn wsX1_giveBack wsX1_move := goodIn_r _ [20, 8, 21, 22, 23, 24, 25, 26, 27, 28, 29, 30, 31, 32, 33, 34, 35, 36, 37, 38, 39, 40, 41, 42, 43, 6, 44, 45, 46, 47, 52, 53, 54, 55, 56, 57, 58] (by decide +kernel) (by decide +kernel)
set_option maxRecDepth 20000 in
theorem gX1_giveBack_X1_move : GoodIn wsX1_giveBack (wsV RX1 32 RX1 yX1_move wsX1_move) := goodIn_app (goodIn_of _ (by decide +kernel)) ggX1_giveBack_X1_move
set_option maxRecDepth 20000 in
theorem ggX1_giveBack_X1_numbersAt : GoodIn wsX1_giveBack wsX1_numbersAt := goodIn_r _ [51, 9, 10, 11, 6, 12, 8, 13, 14, 15, 16, 52, 53, 54, 55, 56, 57, 58] (by decide +kernel) (by decide +kernel)
set_option maxRecDepth 20000 in
theorem gX1_giveBack_X1_numbersAt : GoodIn wsX1_giveBack (wsV RX1 36 RX1 yX1_numbersAt wsX1_numbersAt) := goodIn_app (goodIn_of _ (by decide +kernel)) ggX1_giveBack_X1_numbersAt
theorem dX1_giveBack_0 : decode cX1_giveBack 0 = .ok (.aload_n 0, 1) := by decide +kernel
theorem dX1_giveBack_1 : decode cX1_giveBack 1 = .ok (.iload_n 1, 1) := by decide +kernel
theorem dX1_giveBack_2 : decode cX1_giveBack 2 = .ok (.invokevirtual 68, 3) := by decide +kernel
theorem dX1_giveBack_5 : decode cX1_giveBack 5 = .ok (.bipush 9, 2) := by decide +kernel
theorem dX1_giveBack_7 : decode cX1_giveBack 7 = .ok (.if_icmp .eq 13, 3) := by decide +kernel
theorem dX1_giveBack_10 : decode cX1_giveBack 10 = .ok (.new 50, 3) := by decide +kernel
theorem dX1_giveBack_13 : decode cX1_giveBack 13 = .ok (.dup, 1) := by decide +kernel
theorem dX1_giveBack_14 : decode cX1_giveBack 14 = .ok (.ldc 71, 2) := by decide +kernel
theorem dX1_giveBack_16 : decode cX1_giveBack 16 = .ok (.invokespecial 54, 3) := by decide +kernel
theorem dX1_giveBack_19 : decode cX1_giveBack 19 = .ok (.athrow, 1) := by decide +kernel
theorem dX1_giveBack_20 : decode cX1_giveBack 20 = .ok (.aload_n 0, 1) := by decide +kernel
theorem dX1_giveBack_21 : decode cX1_giveBack 21 = .ok (.bipush 9, 2) := by decide +kernel
theorem dX1_giveBack_23 : decode cX1_giveBack 23 = .ok (.bipush 8, 2) := by decide +kernel
theorem dX1_giveBack_25 : decode cX1_giveBack 25 = .ok (.aload_n 0, 1) := by decide +kernel
theorem dX1_giveBack_26 : decode cX1_giveBack 26 = .ok (.bipush 9, 2) := by decide +kernel
theorem dX1_giveBack_28 : decode cX1_giveBack 28 = .ok (.iload_n 1, 1) := by decide +kernel
theorem dX1_giveBack_29 : decode cX1_giveBack 29 = .ok (.invokevirtual 73, 3) := by decide +kernel
theorem dX1_giveBack_32 : decode cX1_giveBack 32 = .ok (.iconst 1, 1) := by decide +kernel
theorem dX1_giveBack_33 : decode cX1_giveBack 33 = .ok (.invokevirtual 32, 3) := by decide +kernel
theorem dX1_giveBack_36 : decode cX1_giveBack 36 = .ok (.pop, 1) := by decide +kernel
theorem dX1_giveBack_37 : decode cX1_giveBack 37 = .ok (.aload_n 0, 1) := by decide +kernel
theorem dX1_giveBack_38 : decode cX1_giveBack 38 = .ok (.bipush 8, 2) := by decide +kernel
theorem dX1_giveBack_40 : decode cX1_giveBack 40 = .ok (.invokevirtual 36, 3) := by decide +kernel
theorem dX1_giveBack_43 : decode cX1_giveBack 43 = .ok (.ireturn, 1) := by decide +kernel
set_option maxRecDepth 20000 in
theorem ggX1_spill_X1_checkGoblet : GoodIn wsX1_spill wsX1_checkGoblet := goodIn_ca (goodIn_r _ [4, 5, 6] (by decide +kernel) (by decide +kernel)) (goodIn_sub (fun _ h => List.mem_cons_of_mem _ (List.mem_append_right _ h)) (by decide +kernel))
set_option maxRecDepth 20000 in
theorem gX1_spill_X1_checkGoblet : GoodIn wsX1_spill (va_wsS RX1 40 yX1_checkGoblet wsX1_checkGoblet) := goodIn_app (goodIn_of _ (by decide +kernel)) ggX1_spill_X1_checkGoblet
set_option maxRecDepth 20000 in
theorem ggX1_spill_X1_moveAll : GoodIn wsX1_spill wsX1_moveAll := goodIn_r _ [10, 11, 12, 13, 3, 14, 15, 16, 17, 18, 19, 20, 21, 22, 23, 24, 25, 26, 27, 28, 29, 30, 31, 32, 33, 34, 35, 36, 37, 38, 39, 40, 41, 42, 43, 44, 45, 46, 47, 48, 49] (by decide +kernel) (by decide +kernel)
set_option maxRecDepth 20000 in
theorem gX1_spill_X1_moveAll : GoodIn wsX1_spill (wsV RX1 57 RX1 yX1_moveAll wsX1_moveAll) := goodIn_app (goodIn_of _ (by decide +kernel)) ggX1_spill_X1_moveAll
theorem dX1_spill_0 : decode cX1_spill 0 = .ok (.iload_n 1, 1) := by decide +kernel
theorem dX1_spill_1 : decode cX1_spill 1 = .ok (.invokestatic 40, 3) := by decide +kernel
theorem dX1_spill_4 : decode cX1_spill 4 = .ok (.aload_n 0, 1) := by decide +kernel
theorem dX1_spill_5 : decode cX1_spill 5 = .ok (.iload_n 1, 1) := by decide +kernel
theorem dX1_spill_6 : decode cX1_spill 6 = .ok (.bipush 10, 2) := by decide +kernel
theorem dX1_spill_8 : decode cX1_spill 8 = .ok (.invokevirtual 57, 3) := by decide +kernel
theorem dX1_spill_11 : decode cX1_spill 11 = .ok (.ireturn, 1) := by decide +kernel
set_option maxRecDepth 20000 in
theorem ggX1_nextRound_X1_numbersAt : GoodIn wsX1_nextRound wsX1_numbersAt := goodIn_r _ [9, 10, 11, 12, 8, 13, 14, 15, 16, 17, 18, 54, 55, 56, 57, 58, 59, 60] (by decide +kernel) (by decide +kernel)
set_option maxRecDepth 20000 in
theorem gX1_nextRound_X1_numbersAt : GoodIn wsX1_nextRound (wsV RX1 36 RX1 yX1_numbersAt wsX1_numbersAt) := goodIn_app (goodIn_of _ (by decide +kernel)) ggX1_nextRound_X1_numbersAt
set_option maxRecDepth 20000 in
theorem ggX1_nextRound_X1_moveAll : GoodIn wsX1_nextRound wsX1_moveAll := goodIn_r _ [22, 23, 24, 25, 8, 26, 14, 27, 28, 29, 30, 31, 32, 33, 34, 35, 36, 37, 38, 39, 40, 41, 42, 43, 44, 45, 46, 47, 48, 49, 50, 51, 52, 53, 54, 55, 56, 57, 58, 59, 60] (by decide +kernel) (by decide +kernel)
set_option maxRecDepth 20000 in
theorem gX1_nextRound_X1_moveAll : GoodIn wsX1_nextRound (wsV RX1 57 RX1 yX1_moveAll wsX1_moveAll) := goodIn_app (goodIn_of _ (by decide +kernel)) ggX1_nextRound_X1_moveAll
theorem dX1_nextRound_0 : decode cX1_nextRound 0 = .ok (.aload_n 0, 1) := by decide +kernel
theorem dX1_nextRound_1 : decode cX1_nextRound 1 = .ok (.bipush 9, 2) := by decide +kernel
theorem dX1_nextRound_3 : decode cX1_nextRound 3 = .ok (.invokevirtual 36, 3) := by decide +kernel
theorem dX1_nextRound_6 : decode cX1_nextRound 6 = .ok (.aload_n 0, 1) := by decide +kernel
theorem dX1_nextRound_7 : decode cX1_nextRound 7 = .ok (.bipush 10, 2) := by decide +kernel
theorem dX1_nextRound_9 : decode cX1_nextRound 9 = .ok (.invokevirtual 36, 3) := by decide +kernel
theorem dX1_nextRound_12 : decode cX1_nextRound 12 = .ok (.iadd, 1) := by decide +kernel
theorem dX1_nextRound_13 : decode cX1_nextRound 13 = .ok (.aload_n 0, 1) := by decide +kernel
theorem dX1_nextRound_14 : decode cX1_nextRound 14 = .ok (.getfield 18, 3) := by decide +kernel
theorem dX1_nextRound_17 : decode cX1_nextRound 17 = .ok (.if_icmp .eq 13, 3) := by decide +kernel
theorem dX1_nextRound_20 : decode cX1_nextRound 20 = .ok (.new 50, 3) := by decide +kernel
theorem dX1_nextRound_23 : decode cX1_nextRound 23 = .ok (.dup, 1) := by decide +kernel
theorem dX1_nextRound_24 : decode cX1_nextRound 24 = .ok (.ldc 76, 2) := by decide +kernel
theorem dX1_nextRound_26 : decode cX1_nextRound 26 = .ok (.invokespecial 54, 3) := by decide +kernel
theorem dX1_nextRound_29 : decode cX1_nextRound 29 = .ok (.athrow, 1) := by decide +kernel
theorem dX1_nextRound_30 : decode cX1_nextRound 30 = .ok (.aload_n 0, 1) := by decide +kernel
theorem dX1_nextRound_31 : decode cX1_nextRound 31 = .ok (.bipush 9, 2) := by decide +kernel
theorem dX1_nextRound_33 : decode cX1_nextRound 33 = .ok (.bipush 8, 2) := by decide +kernel
theorem dX1_nextRound_35 : decode cX1_nextRound 35 = .ok (.invokevirtual 57, 3) := by decide +kernel
theorem dX1_nextRound_38 : decode cX1_nextRound 38 = .ok (.pop, 1) := by decide +kernel
theorem dX1_nextRound_39 : decode cX1_nextRound 39 = .ok (.aload_n 0, 1) := by decide +kernel
theorem dX1_nextRound_40 : decode cX1_nextRound 40 = .ok (.bipush 10, 2) := by decide +kernel
theorem dX1_nextRound_42 : decode cX1_nextRound 42 = .ok (.bipush 8, 2) := by decide +kernel
theorem dX1_nextRound_44 : decode cX1_nextRound 44 = .ok (.invokevirtual 57, 3) := by decide +kernel
theorem dX1_nextRound_47 : decode cX1_nextRound 47 = .ok (.pop, 1) := by decide +kernel
theorem dX1_nextRound_48 : decode cX1_nextRound 48 = .ok (.aload_n 0, 1) := by decide +kernel
theorem dX1_nextRound_49 : decode cX1_nextRound 49 = .ok (.dup, 1) := by decide +kernel
theorem dX1_nextRound_50 : decode cX1_nextRound 50 = .ok (.getfield 22, 3) := by decide +kernel
theorem dX1_nextRound_53 : decode cX1_nextRound 53 = .ok (.iconst 1, 1) := by decide +kernel
theorem dX1_nextRound_54 : decode cX1_nextRound 54 = .ok (.iadd, 1) := by decide +kernel
theorem dX1_nextRound_55 : decode cX1_nextRound 55 = .ok (.putfield 22, 3) := by decide +kernel
theorem dX1_nextRound_58 : decode cX1_nextRound 58 = .ok (.aload_n 0, 1) := by decide +kernel
theorem dX1_nextRound_59 : decode cX1_nextRound 59 = .ok (.getfield 22, 3) := by decide +kernel
theorem dX1_nextRound_62 : decode cX1_nextRound 62 = .ok (.ireturn, 1) := by decide +kernel
theorem dX1_size_0 : decode cX1_size 0 = .ok (.aload_n 0, 1) := by decide +kernel
theorem dX1_size_1 : decode cX1_size 1 = .ok (.getfield 18, 3) := by decide +kernel
theorem dX1_size_4 : decode cX1_size 4 = .ok (.ireturn, 1) := by decide +kernel
theorem dX1_round_0 : decode cX1_round 0 = .ok (.aload_n 0, 1) := by decide +kernel
theorem dX1_round_1 : decode cX1_round 1 = .ok (.getfield 22, 3) := by decide +kernel
theorem dX1_round_4 : decode cX1_round 4 = .ok (.ireturn, 1) := by decide +kernel
set_option maxRecDepth 20000 in
theorem ggX1_inJug_X1_numbersAt : GoodIn wsX1_inJug wsX1_numbersAt := goodIn_r _ [5, 6, 7, 8, 4, 9, 10, 11, 12, 13, 14, 15, 16, 17, 18, 19, 20, 21] (by decide +kernel) (by decide +kernel)
set_option maxRecDepth 20000 in
theorem gX1_inJug_X1_numbersAt : GoodIn wsX1_inJug (wsV RX1 36 RX1 yX1_numbersAt wsX1_numbersAt) := goodIn_app (goodIn_of _ (by decide +kernel)) ggX1_inJug_X1_numbersAt
theorem dX1_inJug_0 : decode cX1_inJug 0 = .ok (.aload_n 0, 1) := by decide +kernel
theorem dX1_inJug_1 : decode cX1_inJug 1 = .ok (.bipush 8, 2) := by decide +kernel
theorem dX1_inJug_3 : decode cX1_inJug 3 = .ok (.invokevirtual 36, 3) := by decide +kernel
theorem dX1_inJug_6 : decode cX1_inJug 6 = .ok (.ireturn, 1) := by decide +kernel
set_option maxRecDepth 20000 in
theorem ggX1_ranges_X1_rangesAt : GoodIn wsX1_ranges wsX1_rangesAt := goodIn_r _ [5, 6, 7, 8, 9, 10, 11, 12, 13] (by decide +kernel) (by decide +kernel)
set_option maxRecDepth 20000 in
theorem gX1_ranges_X1_rangesAt : GoodIn wsX1_ranges (wsV RX1 78 RX1 yX1_rangesAt wsX1_rangesAt) := goodIn_app (goodIn_of _ (by decide +kernel)) ggX1_ranges_X1_rangesAt
theorem dX1_ranges_0 : decode cX1_ranges 0 = .ok (.aload_n 0, 1) := by decide +kernel
theorem dX1_ranges_1 : decode cX1_ranges 1 = .ok (.bipush 8, 2) := by decide +kernel
theorem dX1_ranges_3 : decode cX1_ranges 3 = .ok (.invokevirtual 78, 3) := by decide +kernel
theorem dX1_ranges_6 : decode cX1_ranges 6 = .ok (.ireturn, 1) := by decide +kernel
set_option maxRecDepth 20000 in
theorem ggX1_rangeFrom_X1_rangeOfJug : GoodIn wsX1_rangeFrom wsX1_rangeOfJug := goodIn_r _ [7, 8, 13, 14, 15, 9, 10, 11, 12] (by decide +kernel) (by decide +kernel)
set_option maxRecDepth 20000 in
theorem gX1_rangeFrom_X1_rangeOfJug : GoodIn wsX1_rangeFrom (wsV RX1 81 RX1 yX1_rangeOfJug wsX1_rangeOfJug) := goodIn_app (goodIn_of _ (by decide +kernel)) ggX1_rangeFrom_X1_rangeOfJug
theorem dX1_rangeFrom_0 : decode cX1_rangeFrom 0 = .ok (.aload_n 0, 1) := by decide +kernel
theorem dX1_rangeFrom_1 : decode cX1_rangeFrom 1 = .ok (.iload_n 1, 1) := by decide +kernel
theorem dX1_rangeFrom_2 : decode cX1_rangeFrom 2 = .ok (.invokevirtual 81, 3) := by decide +kernel
theorem dX1_rangeFrom_5 : decode cX1_rangeFrom 5 = .ok (.astore_n 2, 1) := by decide +kernel
theorem dX1_rangeFrom_6 : decode cX1_rangeFrom 6 = .ok (.aload_n 2, 1) := by decide +kernel
theorem dX1_rangeFrom_7 : decode cX1_rangeFrom 7 = .ok (.ifnonnull 13, 3) := by decide +kernel
theorem dX1_rangeFrom_10 : decode cX1_rangeFrom 10 = .ok (.new 85, 3) := by decide +kernel
theorem dX1_rangeFrom_13 : decode cX1_rangeFrom 13 = .ok (.dup, 1) := by decide +kernel
theorem dX1_rangeFrom_14 : decode cX1_rangeFrom 14 = .ok (.ldc 87, 2) := by decide +kernel
theorem dX1_rangeFrom_16 : decode cX1_rangeFrom 16 = .ok (.invokespecial 89, 3) := by decide +kernel
theorem dX1_rangeFrom_19 : decode cX1_rangeFrom 19 = .ok (.athrow, 1) := by decide +kernel
theorem dX1_rangeFrom_20 : decode cX1_rangeFrom 20 = .ok (.aload_n 2, 1) := by decide +kernel
theorem dX1_rangeFrom_21 : decode cX1_rangeFrom 21 = .ok (.getfield 90, 3) := by decide +kernel
theorem dX1_rangeFrom_24 : decode cX1_rangeFrom 24 = .ok (.ireturn, 1) := by decide +kernel
set_option maxRecDepth 20000 in
theorem ggX1_rangeTo_X1_rangeOfJug : GoodIn wsX1_rangeTo wsX1_rangeOfJug := goodIn_r _ [7, 8, 13, 14, 15, 9, 10, 11, 12] (by decide +kernel) (by decide +kernel)
set_option maxRecDepth 20000 in
theorem gX1_rangeTo_X1_rangeOfJug : GoodIn wsX1_rangeTo (wsV RX1 81 RX1 yX1_rangeOfJug wsX1_rangeOfJug) := goodIn_app (goodIn_of _ (by decide +kernel)) ggX1_rangeTo_X1_rangeOfJug
theorem dX1_rangeTo_0 : decode cX1_rangeTo 0 = .ok (.aload_n 0, 1) := by decide +kernel
theorem dX1_rangeTo_1 : decode cX1_rangeTo 1 = .ok (.iload_n 1, 1) := by decide +kernel
theorem dX1_rangeTo_2 : decode cX1_rangeTo 2 = .ok (.invokevirtual 81, 3) := by decide +kernel
theorem dX1_rangeTo_5 : decode cX1_rangeTo 5 = .ok (.astore_n 2, 1) := by decide +kernel
theorem dX1_rangeTo_6 : decode cX1_rangeTo 6 = .ok (.aload_n 2, 1) := by decide +kernel
theorem dX1_rangeTo_7 : decode cX1_rangeTo 7 = .ok (.ifnonnull 13, 3) := by decide +kernel
theorem dX1_rangeTo_10 : decode cX1_rangeTo 10 = .ok (.new 85, 3) := by decide +kernel
theorem dX1_rangeTo_13 : decode cX1_rangeTo 13 = .ok (.dup, 1) := by decide +kernel
theorem dX1_rangeTo_14 : decode cX1_rangeTo 14 = .ok (.ldc 87, 2) := by decide +kernel
theorem dX1_rangeTo_16 : decode cX1_rangeTo 16 = .ok (.invokespecial 89, 3) := by decide +kernel
theorem dX1_rangeTo_19 : decode cX1_rangeTo 19 = .ok (.athrow, 1) := by decide +kernel
theorem dX1_rangeTo_20 : decode cX1_rangeTo 20 = .ok (.aload_n 2, 1) := by decide +kernel
theorem dX1_rangeTo_21 : decode cX1_rangeTo 21 = .ok (.getfield 93, 3) := by decide +kernel
theorem dX1_rangeTo_24 : decode cX1_rangeTo 24 = .ok (.ireturn, 1) := by decide +kernel
set_option maxRecDepth 20000 in
theorem ggX1_longestRange_X0_length : GoodIn wsX1_longestRange wsX0_length := goodIn_r _ [5, 6, 7, 11, 12, 13, 14] (by decide +kernel) (by decide +kernel)
set_option maxRecDepth 20000 in
theorem gX1_longestRange_X0_length_n99 : GoodIn wsX1_longestRange (wsX0_length) := ggX1_longestRange_X0_length
theorem dX1_longestRange_0 : decode cX1_longestRange 0 = .ok (.iconst (-1), 1) := by decide +kernel
theorem dX1_longestRange_1 : decode cX1_longestRange 1 = .ok (.istore_n 1, 1) := by decide +kernel
theorem dX1_longestRange_2 : decode cX1_longestRange 2 = .ok (.iconst 0, 1) := by decide +kernel
theorem dX1_longestRange_3 : decode cX1_longestRange 3 = .ok (.istore_n 2, 1) := by decide +kernel
theorem dX1_longestRange_4 : decode cX1_longestRange 4 = .ok (.iconst 0, 1) := by decide +kernel
theorem dX1_longestRange_5 : decode cX1_longestRange 5 = .ok (.istore_n 3, 1) := by decide +kernel
theorem dX1_longestRange_6 : decode cX1_longestRange 6 = .ok (.aload_n 0, 1) := by decide +kernel
theorem dX1_longestRange_7 : decode cX1_longestRange 7 = .ok (.getfield 14, 3) := by decide +kernel
theorem dX1_longestRange_10 : decode cX1_longestRange 10 = .ok (.astore 4, 2) := by decide +kernel
theorem dX1_longestRange_12 : decode cX1_longestRange 12 = .ok (.aload 4, 2) := by decide +kernel
theorem dX1_longestRange_14 : decode cX1_longestRange 14 = .ok (.ifnull 43, 3) := by decide +kernel
theorem dX1_longestRange_17 : decode cX1_longestRange 17 = .ok (.aload 4, 2) := by decide +kernel
theorem dX1_longestRange_19 : decode cX1_longestRange 19 = .ok (.getfield 96, 3) := by decide +kernel
theorem dX1_longestRange_22 : decode cX1_longestRange 22 = .ok (.bipush 8, 2) := by decide +kernel
theorem dX1_longestRange_24 : decode cX1_longestRange 24 = .ok (.if_icmp .ne 23, 3) := by decide +kernel
theorem dX1_longestRange_27 : decode cX1_longestRange 27 = .ok (.aload 4, 2) := by decide +kernel
theorem dX1_longestRange_29 : decode cX1_longestRange 29 = .ok (.invokevirtual 99, 3) := by decide +kernel
theorem dX1_longestRange_32 : decode cX1_longestRange 32 = .ok (.iload_n 2, 1) := by decide +kernel
theorem dX1_longestRange_33 : decode cX1_longestRange 33 = .ok (.if_icmp .le 11, 3) := by decide +kernel
theorem dX1_longestRange_36 : decode cX1_longestRange 36 = .ok (.aload 4, 2) := by decide +kernel
theorem dX1_longestRange_38 : decode cX1_longestRange 38 = .ok (.invokevirtual 99, 3) := by decide +kernel
theorem dX1_longestRange_41 : decode cX1_longestRange 41 = .ok (.istore_n 2, 1) := by decide +kernel
theorem dX1_longestRange_42 : decode cX1_longestRange 42 = .ok (.iload_n 3, 1) := by decide +kernel
theorem dX1_longestRange_43 : decode cX1_longestRange 43 = .ok (.istore_n 1, 1) := by decide +kernel
theorem dX1_longestRange_44 : decode cX1_longestRange 44 = .ok (.iinc 3 1, 3) := by decide +kernel
theorem dX1_longestRange_47 : decode cX1_longestRange 47 = .ok (.aload 4, 2) := by decide +kernel
theorem dX1_longestRange_49 : decode cX1_longestRange 49 = .ok (.getfield 103, 3) := by decide +kernel
theorem dX1_longestRange_52 : decode cX1_longestRange 52 = .ok (.astore 4, 2) := by decide +kernel
theorem dX1_longestRange_54 : decode cX1_longestRange 54 = .ok (.goto (-42), 3) := by decide +kernel
theorem dX1_longestRange_57 : decode cX1_longestRange 57 = .ok (.iload_n 1, 1) := by decide +kernel
theorem dX1_longestRange_58 : decode cX1_longestRange 58 = .ok (.ireturn, 1) := by decide +kernel
set_option maxRecDepth 20000 in
theorem ggX1_inGoblet_X1_checkGoblet : GoodIn wsX1_inGoblet wsX1_checkGoblet := goodIn_ca (goodIn_r _ [4, 5, 6] (by decide +kernel) (by decide +kernel)) (goodIn_sub (fun _ h => List.mem_cons_of_mem _ (List.mem_append_right _ h)) (by decide +kernel))
set_option maxRecDepth 20000 in
theorem gX1_inGoblet_X1_checkGoblet : GoodIn wsX1_inGoblet (va_wsS RX1 40 yX1_checkGoblet wsX1_checkGoblet) := goodIn_app (goodIn_of _ (by decide +kernel)) ggX1_inGoblet_X1_checkGoblet
set_option maxRecDepth 20000 in
theorem ggX1_inGoblet_X1_numbersAt : GoodIn wsX1_inGoblet wsX1_numbersAt := goodIn_r _ [10, 11, 12, 13, 3, 14, 15, 16, 17, 18, 19, 20, 21, 22, 23, 24, 25, 26] (by decide +kernel) (by decide +kernel)
set_option maxRecDepth 20000 in
theorem gX1_inGoblet_X1_numbersAt : GoodIn wsX1_inGoblet (wsV RX1 36 RX1 yX1_numbersAt wsX1_numbersAt) := goodIn_app (goodIn_of _ (by decide +kernel)) ggX1_inGoblet_X1_numbersAt
theorem dX1_inGoblet_0 : decode cX1_inGoblet 0 = .ok (.iload_n 1, 1) := by decide +kernel
theorem dX1_inGoblet_1 : decode cX1_inGoblet 1 = .ok (.invokestatic 40, 3) := by decide +kernel
theorem dX1_inGoblet_4 : decode cX1_inGoblet 4 = .ok (.aload_n 0, 1) := by decide +kernel
theorem dX1_inGoblet_5 : decode cX1_inGoblet 5 = .ok (.iload_n 1, 1) := by decide +kernel
theorem dX1_inGoblet_6 : decode cX1_inGoblet 6 = .ok (.invokevirtual 36, 3) := by decide +kernel
theorem dX1_inGoblet_9 : decode cX1_inGoblet 9 = .ok (.ireturn, 1) := by decide +kernel
set_option maxRecDepth 20000 in
theorem ggX1_rangesOf_X1_checkGoblet : GoodIn wsX1_rangesOf wsX1_checkGoblet := goodIn_ca (goodIn_r _ [4, 5, 6] (by decide +kernel) (by decide +kernel)) (goodIn_sub (fun _ h => List.mem_cons_of_mem _ (List.mem_append_right _ h)) (by decide +kernel))
set_option maxRecDepth 20000 in
theorem gX1_rangesOf_X1_checkGoblet : GoodIn wsX1_rangesOf (va_wsS RX1 40 yX1_checkGoblet wsX1_checkGoblet) := goodIn_app (goodIn_of _ (by decide +kernel)) ggX1_rangesOf_X1_checkGoblet
set_option maxRecDepth 20000 in
theorem ggX1_rangesOf_X1_rangesAt : GoodIn wsX1_rangesOf wsX1_rangesAt := goodIn_r _ [10, 11, 12, 13, 14, 15, 16, 17, 18] (by decide +kernel) (by decide +kernel)
set_option maxRecDepth 20000 in
theorem gX1_rangesOf_X1_rangesAt : GoodIn wsX1_rangesOf (wsV RX1 78 RX1 yX1_rangesAt wsX1_rangesAt) := goodIn_app (goodIn_of _ (by decide +kernel)) ggX1_rangesOf_X1_rangesAt
theorem dX1_rangesOf_0 : decode cX1_rangesOf 0 = .ok (.iload_n 1, 1) := by decide +kernel
theorem dX1_rangesOf_1 : decode cX1_rangesOf 1 = .ok (.invokestatic 40, 3) := by decide +kernel
theorem dX1_rangesOf_4 : decode cX1_rangesOf 4 = .ok (.aload_n 0, 1) := by decide +kernel
theorem dX1_rangesOf_5 : decode cX1_rangesOf 5 = .ok (.iload_n 1, 1) := by decide +kernel
theorem dX1_rangesOf_6 : decode cX1_rangesOf 6 = .ok (.invokevirtual 78, 3) := by decide +kernel
theorem dX1_rangesOf_9 : decode cX1_rangesOf 9 = .ok (.ireturn, 1) := by decide +kernel
set_option maxRecDepth 20000 in
theorem ggX1_nextOf_X1_checkGoblet : GoodIn wsX1_nextOf wsX1_checkGoblet := goodIn_ca (goodIn_r _ [4, 5, 6] (by decide +kernel) (by decide +kernel)) (goodIn_sub (fun _ h => List.mem_cons_of_mem _ (List.mem_append_right _ h)) (by decide +kernel))
set_option maxRecDepth 20000 in
theorem gX1_nextOf_X1_checkGoblet : GoodIn wsX1_nextOf (va_wsS RX1 40 yX1_checkGoblet wsX1_checkGoblet) := goodIn_app (goodIn_of _ (by decide +kernel)) ggX1_nextOf_X1_checkGoblet
set_option maxRecDepth 20000 in
theorem ggX1_nextOf_X1_lowestAt : GoodIn wsX1_nextOf wsX1_lowestAt := goodIn_r _ [10, 11, 12, 13, 14, 15, 16, 17, 18] (by decide +kernel) (by decide +kernel)
set_option maxRecDepth 20000 in
theorem gX1_nextOf_X1_lowestAt : GoodIn wsX1_nextOf (wsV RX1 47 RX1 yX1_lowestAt wsX1_lowestAt) := goodIn_app (goodIn_of _ (by decide +kernel)) ggX1_nextOf_X1_lowestAt
theorem dX1_nextOf_0 : decode cX1_nextOf 0 = .ok (.iload_n 1, 1) := by decide +kernel
theorem dX1_nextOf_1 : decode cX1_nextOf 1 = .ok (.invokestatic 40, 3) := by decide +kernel
theorem dX1_nextOf_4 : decode cX1_nextOf 4 = .ok (.aload_n 0, 1) := by decide +kernel
theorem dX1_nextOf_5 : decode cX1_nextOf 5 = .ok (.iload_n 1, 1) := by decide +kernel
theorem dX1_nextOf_6 : decode cX1_nextOf 6 = .ok (.invokevirtual 47, 3) := by decide +kernel
theorem dX1_nextOf_9 : decode cX1_nextOf 9 = .ok (.istore_n 2, 1) := by decide +kernel
theorem dX1_nextOf_10 : decode cX1_nextOf 10 = .ok (.iload_n 2, 1) := by decide +kernel
theorem dX1_nextOf_11 : decode cX1_nextOf 11 = .ok (.ifCond .eq 7, 3) := by decide +kernel
theorem dX1_nextOf_14 : decode cX1_nextOf 14 = .ok (.iload_n 2, 1) := by decide +kernel
theorem dX1_nextOf_15 : decode cX1_nextOf 15 = .ok (.goto 9, 3) := by decide +kernel
theorem dX1_nextOf_18 : decode cX1_nextOf 18 = .ok (.aload_n 0, 1) := by decide +kernel
theorem dX1_nextOf_19 : decode cX1_nextOf 19 = .ok (.bipush 8, 2) := by decide +kernel
theorem dX1_nextOf_21 : decode cX1_nextOf 21 = .ok (.invokevirtual 47, 3) := by decide +kernel
theorem dX1_nextOf_24 : decode cX1_nextOf 24 = .ok (.ireturn, 1) := by decide +kernel
theorem dX1_placeOf_0 : decode cX1_placeOf 0 = .ok (.aload_n 0, 1) := by decide +kernel
theorem dX1_placeOf_1 : decode cX1_placeOf 1 = .ok (.getfield 14, 3) := by decide +kernel
theorem dX1_placeOf_4 : decode cX1_placeOf 4 = .ok (.astore_n 2, 1) := by decide +kernel
theorem dX1_placeOf_5 : decode cX1_placeOf 5 = .ok (.aload_n 2, 1) := by decide +kernel
theorem dX1_placeOf_6 : decode cX1_placeOf 6 = .ok (.ifnull 32, 3) := by decide +kernel
theorem dX1_placeOf_9 : decode cX1_placeOf 9 = .ok (.iload_n 1, 1) := by decide +kernel
theorem dX1_placeOf_10 : decode cX1_placeOf 10 = .ok (.aload_n 2, 1) := by decide +kernel
theorem dX1_placeOf_11 : decode cX1_placeOf 11 = .ok (.getfield 90, 3) := by decide +kernel
theorem dX1_placeOf_14 : decode cX1_placeOf 14 = .ok (.if_icmp .lt 16, 3) := by decide +kernel
theorem dX1_placeOf_17 : decode cX1_placeOf 17 = .ok (.iload_n 1, 1) := by decide +kernel
theorem dX1_placeOf_18 : decode cX1_placeOf 18 = .ok (.aload_n 2, 1) := by decide +kernel
theorem dX1_placeOf_19 : decode cX1_placeOf 19 = .ok (.getfield 93, 3) := by decide +kernel
theorem dX1_placeOf_22 : decode cX1_placeOf 22 = .ok (.if_icmp .gt 8, 3) := by decide +kernel
theorem dX1_placeOf_25 : decode cX1_placeOf 25 = .ok (.aload_n 2, 1) := by decide +kernel
theorem dX1_placeOf_26 : decode cX1_placeOf 26 = .ok (.getfield 96, 3) := by decide +kernel
theorem dX1_placeOf_29 : decode cX1_placeOf 29 = .ok (.ireturn, 1) := by decide +kernel
theorem dX1_placeOf_30 : decode cX1_placeOf 30 = .ok (.aload_n 2, 1) := by decide +kernel
theorem dX1_placeOf_31 : decode cX1_placeOf 31 = .ok (.getfield 103, 3) := by decide +kernel
theorem dX1_placeOf_34 : decode cX1_placeOf 34 = .ok (.astore_n 2, 1) := by decide +kernel
theorem dX1_placeOf_35 : decode cX1_placeOf 35 = .ok (.goto (-30), 3) := by decide +kernel
theorem dX1_placeOf_38 : decode cX1_placeOf 38 = .ok (.iconst (-1), 1) := by decide +kernel
theorem dX1_placeOf_39 : decode cX1_placeOf 39 = .ok (.ireturn, 1) := by decide +kernel
set_option maxRecDepth 20000 in
theorem ggX1_drunk_X1_numbersAt : GoodIn wsX1_drunk wsX1_numbersAt := goodIn_r _ [5, 6, 7, 8, 4, 9, 10, 11, 12, 13, 14, 15, 16, 17, 18, 19, 20, 21] (by decide +kernel) (by decide +kernel)
set_option maxRecDepth 20000 in
theorem gX1_drunk_X1_numbersAt : GoodIn wsX1_drunk (wsV RX1 36 RX1 yX1_numbersAt wsX1_numbersAt) := goodIn_app (goodIn_of _ (by decide +kernel)) ggX1_drunk_X1_numbersAt
theorem dX1_drunk_0 : decode cX1_drunk 0 = .ok (.aload_n 0, 1) := by decide +kernel
theorem dX1_drunk_1 : decode cX1_drunk 1 = .ok (.bipush 9, 2) := by decide +kernel
theorem dX1_drunk_3 : decode cX1_drunk 3 = .ok (.invokevirtual 36, 3) := by decide +kernel
theorem dX1_drunk_6 : decode cX1_drunk 6 = .ok (.ireturn, 1) := by decide +kernel
set_option maxRecDepth 20000 in
theorem ggX1_spilt_X1_numbersAt : GoodIn wsX1_spilt wsX1_numbersAt := goodIn_r _ [5, 6, 7, 8, 4, 9, 10, 11, 12, 13, 14, 15, 16, 17, 18, 19, 20, 21] (by decide +kernel) (by decide +kernel)
set_option maxRecDepth 20000 in
theorem gX1_spilt_X1_numbersAt : GoodIn wsX1_spilt (wsV RX1 36 RX1 yX1_numbersAt wsX1_numbersAt) := goodIn_app (goodIn_of _ (by decide +kernel)) ggX1_spilt_X1_numbersAt
theorem dX1_spilt_0 : decode cX1_spilt 0 = .ok (.aload_n 0, 1) := by decide +kernel
theorem dX1_spilt_1 : decode cX1_spilt 1 = .ok (.bipush 10, 2) := by decide +kernel
theorem dX1_spilt_3 : decode cX1_spilt 3 = .ok (.invokevirtual 36, 3) := by decide +kernel
theorem dX1_spilt_6 : decode cX1_spilt 6 = .ok (.ireturn, 1) := by decide +kernel
theorem dX1_lowestLeft_0 : decode cX1_lowestLeft 0 = .ok (.aload_n 0, 1) := by decide +kernel
theorem dX1_lowestLeft_1 : decode cX1_lowestLeft 1 = .ok (.getfield 14, 3) := by decide +kernel
theorem dX1_lowestLeft_4 : decode cX1_lowestLeft 4 = .ok (.astore_n 1, 1) := by decide +kernel
theorem dX1_lowestLeft_5 : decode cX1_lowestLeft 5 = .ok (.aload_n 1, 1) := by decide +kernel
theorem dX1_lowestLeft_6 : decode cX1_lowestLeft 6 = .ok (.ifnull 33, 3) := by decide +kernel
theorem dX1_lowestLeft_9 : decode cX1_lowestLeft 9 = .ok (.aload_n 1, 1) := by decide +kernel
theorem dX1_lowestLeft_10 : decode cX1_lowestLeft 10 = .ok (.getfield 96, 3) := by decide +kernel
theorem dX1_lowestLeft_13 : decode cX1_lowestLeft 13 = .ok (.bipush 9, 2) := by decide +kernel
theorem dX1_lowestLeft_15 : decode cX1_lowestLeft 15 = .ok (.if_icmp .eq 16, 3) := by decide +kernel
theorem dX1_lowestLeft_18 : decode cX1_lowestLeft 18 = .ok (.aload_n 1, 1) := by decide +kernel
theorem dX1_lowestLeft_19 : decode cX1_lowestLeft 19 = .ok (.getfield 96, 3) := by decide +kernel
theorem dX1_lowestLeft_22 : decode cX1_lowestLeft 22 = .ok (.iconst (-1), 1) := by decide +kernel
theorem dX1_lowestLeft_23 : decode cX1_lowestLeft 23 = .ok (.if_icmp .eq 8, 3) := by decide +kernel
theorem dX1_lowestLeft_26 : decode cX1_lowestLeft 26 = .ok (.aload_n 1, 1) := by decide +kernel
theorem dX1_lowestLeft_27 : decode cX1_lowestLeft 27 = .ok (.getfield 90, 3) := by decide +kernel
theorem dX1_lowestLeft_30 : decode cX1_lowestLeft 30 = .ok (.ireturn, 1) := by decide +kernel
theorem dX1_lowestLeft_31 : decode cX1_lowestLeft 31 = .ok (.aload_n 1, 1) := by decide +kernel
theorem dX1_lowestLeft_32 : decode cX1_lowestLeft 32 = .ok (.getfield 103, 3) := by decide +kernel
theorem dX1_lowestLeft_35 : decode cX1_lowestLeft 35 = .ok (.astore_n 1, 1) := by decide +kernel
theorem dX1_lowestLeft_36 : decode cX1_lowestLeft 36 = .ok (.goto (-31), 3) := by decide +kernel
theorem dX1_lowestLeft_39 : decode cX1_lowestLeft 39 = .ok (.iconst 0, 1) := by decide +kernel
theorem dX1_lowestLeft_40 : decode cX1_lowestLeft 40 = .ok (.ireturn, 1) := by decide +kernel
theorem dX1_checkGoblet_0 : decode cX1_checkGoblet 0 = .ok (.iload_n 0, 1) := by decide +kernel
theorem dX1_checkGoblet_1 : decode cX1_checkGoblet 1 = .ok (.ifCond .lt 9, 3) := by decide +kernel
theorem dX1_checkGoblet_4 : decode cX1_checkGoblet 4 = .ok (.iload_n 0, 1) := by decide +kernel
theorem dX1_checkGoblet_5 : decode cX1_checkGoblet 5 = .ok (.bipush 8, 2) := by decide +kernel
theorem dX1_checkGoblet_7 : decode cX1_checkGoblet 7 = .ok (.if_icmp .lt 13, 3) := by decide +kernel
theorem dX1_checkGoblet_10 : decode cX1_checkGoblet 10 = .ok (.new 85, 3) := by decide +kernel
theorem dX1_checkGoblet_13 : decode cX1_checkGoblet 13 = .ok (.dup, 1) := by decide +kernel
theorem dX1_checkGoblet_14 : decode cX1_checkGoblet 14 = .ok (.ldc 106, 2) := by decide +kernel
theorem dX1_checkGoblet_16 : decode cX1_checkGoblet 16 = .ok (.invokespecial 89, 3) := by decide +kernel
theorem dX1_checkGoblet_19 : decode cX1_checkGoblet 19 = .ok (.athrow, 1) := by decide +kernel
theorem dX1_checkGoblet_20 : decode cX1_checkGoblet 20 = .ok (.return_, 1) := by decide +kernel
theorem dX1_checkCount_0 : decode cX1_checkCount 0 = .ok (.iload_n 0, 1) := by decide +kernel
theorem dX1_checkCount_1 : decode cX1_checkCount 1 = .ok (.iconst 1, 1) := by decide +kernel
theorem dX1_checkCount_2 : decode cX1_checkCount 2 = .ok (.if_icmp .lt 10, 3) := by decide +kernel
theorem dX1_checkCount_5 : decode cX1_checkCount 5 = .ok (.iload_n 0, 1) := by decide +kernel
theorem dX1_checkCount_6 : decode cX1_checkCount 6 = .ok (.sipush 200, 3) := by decide +kernel
theorem dX1_checkCount_9 : decode cX1_checkCount 9 = .ok (.if_icmp .le 13, 3) := by decide +kernel
theorem dX1_checkCount_12 : decode cX1_checkCount 12 = .ok (.new 25, 3) := by decide +kernel
theorem dX1_checkCount_15 : decode cX1_checkCount 15 = .ok (.dup, 1) := by decide +kernel
theorem dX1_checkCount_16 : decode cX1_checkCount 16 = .ok (.ldc 108, 2) := by decide +kernel
theorem dX1_checkCount_18 : decode cX1_checkCount 18 = .ok (.invokespecial 29, 3) := by decide +kernel
theorem dX1_checkCount_21 : decode cX1_checkCount 21 = .ok (.athrow, 1) := by decide +kernel
theorem dX1_checkCount_22 : decode cX1_checkCount 22 = .ok (.return_, 1) := by decide +kernel
set_option maxRecDepth 20000 in
theorem ggX1_move_X0_shortenTo : GoodIn wsX1_move wsX0_shortenTo := goodIn_r _ [5, 6, 7, 8, 3, 9, 10, 11, 12, 13, 14, 15, 16, 17, 18, 19, 20, 21, 33, 34, 35, 36] (by decide +kernel) (by decide +kernel)
set_option maxRecDepth 20000 in
theorem gX1_move_X0_shortenTo_n110 : GoodIn wsX1_move (wsX0_shortenTo) := ggX1_move_X0_shortenTo
set_option maxRecDepth 20000 in
theorem ggX1_move_X0_length : GoodIn wsX1_move wsX0_length := goodIn_r _ [15, 9, 6, 33, 34, 35, 36] (by decide +kernel) (by decide +kernel)
set_option maxRecDepth 20000 in
theorem gX1_move_X0_length_n99 : GoodIn wsX1_move (wsX0_length) := ggX1_move_X0_length
set_option maxRecDepth 20000 in
theorem ggX1_move_X1_joinNeighbours : GoodIn wsX1_move wsX1_joinNeighbours := goodIn_r _ [26, 1, 27, 3, 28, 29, 11, 10, 9, 30, 31, 32, 33, 34, 35, 36] (by decide +kernel) (by decide +kernel)
set_option maxRecDepth 20000 in
theorem gX1_move_X1_joinNeighbours : GoodIn wsX1_move (wsV RX1 113 RX1 yX1_joinNeighbours wsX1_joinNeighbours) := goodIn_app (goodIn_of _ (by decide +kernel)) ggX1_move_X1_joinNeighbours
theorem dX1_move_0 : decode cX1_move 0 = .ok (.iload_n 3, 1) := by decide +kernel
theorem dX1_move_1 : decode cX1_move 1 = .ok (.istore 5, 2) := by decide +kernel
theorem dX1_move_3 : decode cX1_move 3 = .ok (.iload 4, 2) := by decide +kernel
theorem dX1_move_5 : decode cX1_move 5 = .ok (.istore 6, 2) := by decide +kernel
theorem dX1_move_7 : decode cX1_move 7 = .ok (.aload_n 0, 1) := by decide +kernel
theorem dX1_move_8 : decode cX1_move 8 = .ok (.getfield 14, 3) := by decide +kernel
theorem dX1_move_11 : decode cX1_move 11 = .ok (.astore 7, 2) := by decide +kernel
theorem dX1_move_13 : decode cX1_move 13 = .ok (.aload 7, 2) := by decide +kernel
theorem dX1_move_15 : decode cX1_move 15 = .ok (.ifnull 84, 3) := by decide +kernel
theorem dX1_move_18 : decode cX1_move 18 = .ok (.iload 6, 2) := by decide +kernel
theorem dX1_move_20 : decode cX1_move 20 = .ok (.ifCond .le 79, 3) := by decide +kernel
theorem dX1_move_23 : decode cX1_move 23 = .ok (.aload 7, 2) := by decide +kernel
theorem dX1_move_25 : decode cX1_move 25 = .ok (.getfield 96, 3) := by decide +kernel
theorem dX1_move_28 : decode cX1_move 28 = .ok (.iload_n 1, 1) := by decide +kernel
theorem dX1_move_29 : decode cX1_move 29 = .ok (.if_icmp .ne 28, 3) := by decide +kernel
theorem dX1_move_32 : decode cX1_move 32 = .ok (.iload 5, 2) := by decide +kernel
theorem dX1_move_34 : decode cX1_move 34 = .ok (.ifCond .le 23, 3) := by decide +kernel
theorem dX1_move_37 : decode cX1_move 37 = .ok (.aload 7, 2) := by decide +kernel
theorem dX1_move_39 : decode cX1_move 39 = .ok (.iload 5, 2) := by decide +kernel
theorem dX1_move_41 : decode cX1_move 41 = .ok (.invokevirtual 110, 3) := by decide +kernel
theorem dX1_move_44 : decode cX1_move 44 = .ok (.iload 5, 2) := by decide +kernel
theorem dX1_move_46 : decode cX1_move 46 = .ok (.aload 7, 2) := by decide +kernel
theorem dX1_move_48 : decode cX1_move 48 = .ok (.invokevirtual 99, 3) := by decide +kernel
theorem dX1_move_51 : decode cX1_move 51 = .ok (.isub, 1) := by decide +kernel
theorem dX1_move_52 : decode cX1_move 52 = .ok (.istore 5, 2) := by decide +kernel
theorem dX1_move_54 : decode cX1_move 54 = .ok (.goto 35, 3) := by decide +kernel
theorem dX1_move_57 : decode cX1_move 57 = .ok (.aload 7, 2) := by decide +kernel
theorem dX1_move_59 : decode cX1_move 59 = .ok (.getfield 96, 3) := by decide +kernel
theorem dX1_move_62 : decode cX1_move 62 = .ok (.iload_n 1, 1) := by decide +kernel
theorem dX1_move_63 : decode cX1_move 63 = .ok (.if_icmp .ne 26, 3) := by decide +kernel
theorem dX1_move_66 : decode cX1_move 66 = .ok (.aload 7, 2) := by decide +kernel
theorem dX1_move_68 : decode cX1_move 68 = .ok (.iload 6, 2) := by decide +kernel
theorem dX1_move_70 : decode cX1_move 70 = .ok (.invokevirtual 110, 3) := by decide +kernel
theorem dX1_move_73 : decode cX1_move 73 = .ok (.iload 6, 2) := by decide +kernel
theorem dX1_move_75 : decode cX1_move 75 = .ok (.aload 7, 2) := by decide +kernel
theorem dX1_move_77 : decode cX1_move 77 = .ok (.invokevirtual 99, 3) := by decide +kernel
theorem dX1_move_80 : decode cX1_move 80 = .ok (.isub, 1) := by decide +kernel
theorem dX1_move_81 : decode cX1_move 81 = .ok (.istore 6, 2) := by decide +kernel
theorem dX1_move_83 : decode cX1_move 83 = .ok (.aload 7, 2) := by decide +kernel
theorem dX1_move_85 : decode cX1_move 85 = .ok (.iload_n 2, 1) := by decide +kernel
theorem dX1_move_86 : decode cX1_move 86 = .ok (.putfield 96, 3) := by decide +kernel
theorem dX1_move_89 : decode cX1_move 89 = .ok (.aload 7, 2) := by decide +kernel
theorem dX1_move_91 : decode cX1_move 91 = .ok (.getfield 103, 3) := by decide +kernel
theorem dX1_move_94 : decode cX1_move 94 = .ok (.astore 7, 2) := by decide +kernel
theorem dX1_move_96 : decode cX1_move 96 = .ok (.goto (-83), 3) := by decide +kernel
theorem dX1_move_99 : decode cX1_move 99 = .ok (.aload_n 0, 1) := by decide +kernel
theorem dX1_move_100 : decode cX1_move 100 = .ok (.invokevirtual 113, 3) := by decide +kernel
theorem dX1_move_103 : decode cX1_move 103 = .ok (.iload 4, 2) := by decide +kernel
theorem dX1_move_105 : decode cX1_move 105 = .ok (.iload 6, 2) := by decide +kernel
theorem dX1_move_107 : decode cX1_move 107 = .ok (.isub, 1) := by decide +kernel
theorem dX1_move_108 : decode cX1_move 108 = .ok (.ireturn, 1) := by decide +kernel
set_option maxRecDepth 20000 in
theorem ggX1_moveAll_X1_move : GoodIn wsX1_moveAll wsX1_move := goodIn_r _ [5, 6, 7, 8, 9, 10, 11, 12, 13, 14, 15, 16, 17, 18, 19, 20, 21, 22, 23, 24, 25, 26, 27, 28, 29, 4, 30, 31, 32, 33, 34, 35, 36, 37, 38, 39, 40] (by decide +kernel) (by decide +kernel)
set_option maxRecDepth 20000 in
theorem gX1_moveAll_X1_move : GoodIn wsX1_moveAll (wsV RX1 32 RX1 yX1_move wsX1_move) := goodIn_app (goodIn_of _ (by decide +kernel)) ggX1_moveAll_X1_move
theorem dX1_moveAll_0 : decode cX1_moveAll 0 = .ok (.aload_n 0, 1) := by decide +kernel
theorem dX1_moveAll_1 : decode cX1_moveAll 1 = .ok (.iload_n 1, 1) := by decide +kernel
theorem dX1_moveAll_2 : decode cX1_moveAll 2 = .ok (.iload_n 2, 1) := by decide +kernel
theorem dX1_moveAll_3 : decode cX1_moveAll 3 = .ok (.iconst 0, 1) := by decide +kernel
theorem dX1_moveAll_4 : decode cX1_moveAll 4 = .ok (.sipush 5000, 3) := by decide +kernel
theorem dX1_moveAll_7 : decode cX1_moveAll 7 = .ok (.invokevirtual 32, 3) := by decide +kernel
theorem dX1_moveAll_10 : decode cX1_moveAll 10 = .ok (.ireturn, 1) := by decide +kernel
set_option maxRecDepth 20000 in
theorem ggX1_joinNeighbours_X0_absorbNextOnesOfSamePlace : GoodIn wsX1_joinNeighbours wsX0_absorbNextOnesOfSamePlace := goodIn_r _ [5, 6, 7, 8, 12, 13, 14, 15] (by decide +kernel) (by decide +kernel)
set_option maxRecDepth 20000 in
theorem gX1_joinNeighbours_X0_absorbNextOnesOfSamePlace_n116 : GoodIn wsX1_joinNeighbours (wsX0_absorbNextOnesOfSamePlace) := ggX1_joinNeighbours_X0_absorbNextOnesOfSamePlace
theorem dX1_joinNeighbours_0 : decode cX1_joinNeighbours 0 = .ok (.aload_n 0, 1) := by decide +kernel
theorem dX1_joinNeighbours_1 : decode cX1_joinNeighbours 1 = .ok (.getfield 14, 3) := by decide +kernel
theorem dX1_joinNeighbours_4 : decode cX1_joinNeighbours 4 = .ok (.astore_n 1, 1) := by decide +kernel
theorem dX1_joinNeighbours_5 : decode cX1_joinNeighbours 5 = .ok (.aload_n 1, 1) := by decide +kernel
theorem dX1_joinNeighbours_6 : decode cX1_joinNeighbours 6 = .ok (.ifnull 15, 3) := by decide +kernel
theorem dX1_joinNeighbours_9 : decode cX1_joinNeighbours 9 = .ok (.aload_n 1, 1) := by decide +kernel
theorem dX1_joinNeighbours_10 : decode cX1_joinNeighbours 10 = .ok (.invokevirtual 116, 3) := by decide +kernel
theorem dX1_joinNeighbours_13 : decode cX1_joinNeighbours 13 = .ok (.aload_n 1, 1) := by decide +kernel
theorem dX1_joinNeighbours_14 : decode cX1_joinNeighbours 14 = .ok (.getfield 103, 3) := by decide +kernel
theorem dX1_joinNeighbours_17 : decode cX1_joinNeighbours 17 = .ok (.astore_n 1, 1) := by decide +kernel
theorem dX1_joinNeighbours_18 : decode cX1_joinNeighbours 18 = .ok (.goto (-13), 3) := by decide +kernel
theorem dX1_joinNeighbours_21 : decode cX1_joinNeighbours 21 = .ok (.return_, 1) := by decide +kernel
set_option maxRecDepth 20000 in
theorem ggX1_numbersAt_X1_numbersAtBelow : GoodIn wsX1_numbersAt wsX1_numbersAtBelow := goodIn_r _ [5, 6, 7, 8, 9, 10, 11, 12, 13, 14, 15, 16, 17] (by decide +kernel) (by decide +kernel)
set_option maxRecDepth 20000 in
theorem gX1_numbersAt_X1_numbersAtBelow : GoodIn wsX1_numbersAt (wsV RX1 73 RX1 yX1_numbersAtBelow wsX1_numbersAtBelow) := goodIn_app (goodIn_of _ (by decide +kernel)) ggX1_numbersAt_X1_numbersAtBelow
theorem dX1_numbersAt_0 : decode cX1_numbersAt 0 = .ok (.aload_n 0, 1) := by decide +kernel
theorem dX1_numbersAt_1 : decode cX1_numbersAt 1 = .ok (.iload_n 1, 1) := by decide +kernel
theorem dX1_numbersAt_2 : decode cX1_numbersAt 2 = .ok (.sipush 5001, 3) := by decide +kernel
theorem dX1_numbersAt_5 : decode cX1_numbersAt 5 = .ok (.invokevirtual 73, 3) := by decide +kernel
theorem dX1_numbersAt_8 : decode cX1_numbersAt 8 = .ok (.ireturn, 1) := by decide +kernel
theorem dX1_numbersAtBelow_0 : decode cX1_numbersAtBelow 0 = .ok (.iconst 0, 1) := by decide +kernel
theorem dX1_numbersAtBelow_1 : decode cX1_numbersAtBelow 1 = .ok (.istore_n 3, 1) := by decide +kernel
theorem dX1_numbersAtBelow_2 : decode cX1_numbersAtBelow 2 = .ok (.aload_n 0, 1) := by decide +kernel
theorem dX1_numbersAtBelow_3 : decode cX1_numbersAtBelow 3 = .ok (.getfield 14, 3) := by decide +kernel
theorem dX1_numbersAtBelow_6 : decode cX1_numbersAtBelow 6 = .ok (.astore 4, 2) := by decide +kernel
theorem dX1_numbersAtBelow_8 : decode cX1_numbersAtBelow 8 = .ok (.aload 4, 2) := by decide +kernel
theorem dX1_numbersAtBelow_10 : decode cX1_numbersAtBelow 10 = .ok (.ifnull 53, 3) := by decide +kernel
theorem dX1_numbersAtBelow_13 : decode cX1_numbersAtBelow 13 = .ok (.aload 4, 2) := by decide +kernel
theorem dX1_numbersAtBelow_15 : decode cX1_numbersAtBelow 15 = .ok (.getfield 90, 3) := by decide +kernel
theorem dX1_numbersAtBelow_18 : decode cX1_numbersAtBelow 18 = .ok (.iload_n 2, 1) := by decide +kernel
theorem dX1_numbersAtBelow_19 : decode cX1_numbersAtBelow 19 = .ok (.if_icmp .ge 44, 3) := by decide +kernel
theorem dX1_numbersAtBelow_22 : decode cX1_numbersAtBelow 22 = .ok (.aload 4, 2) := by decide +kernel
theorem dX1_numbersAtBelow_24 : decode cX1_numbersAtBelow 24 = .ok (.getfield 96, 3) := by decide +kernel
theorem dX1_numbersAtBelow_27 : decode cX1_numbersAtBelow 27 = .ok (.iload_n 1, 1) := by decide +kernel
theorem dX1_numbersAtBelow_28 : decode cX1_numbersAtBelow 28 = .ok (.if_icmp .ne 25, 3) := by decide +kernel
theorem dX1_numbersAtBelow_31 : decode cX1_numbersAtBelow 31 = .ok (.iload_n 3, 1) := by decide +kernel
theorem dX1_numbersAtBelow_32 : decode cX1_numbersAtBelow 32 = .ok (.aload 4, 2) := by decide +kernel
theorem dX1_numbersAtBelow_34 : decode cX1_numbersAtBelow 34 = .ok (.getfield 93, 3) := by decide +kernel
theorem dX1_numbersAtBelow_37 : decode cX1_numbersAtBelow 37 = .ok (.iload_n 2, 1) := by decide +kernel
theorem dX1_numbersAtBelow_38 : decode cX1_numbersAtBelow 38 = .ok (.iconst 1, 1) := by decide +kernel
theorem dX1_numbersAtBelow_39 : decode cX1_numbersAtBelow 39 = .ok (.isub, 1) := by decide +kernel
theorem dX1_numbersAtBelow_40 : decode cX1_numbersAtBelow 40 = .ok (.invokestatic 119, 3) := by decide +kernel
theorem dX1_numbersAtBelow_43 : decode cX1_numbersAtBelow 43 = .ok (.aload 4, 2) := by decide +kernel
theorem dX1_numbersAtBelow_45 : decode cX1_numbersAtBelow 45 = .ok (.getfield 90, 3) := by decide +kernel
theorem dX1_numbersAtBelow_48 : decode cX1_numbersAtBelow 48 = .ok (.isub, 1) := by decide +kernel
theorem dX1_numbersAtBelow_49 : decode cX1_numbersAtBelow 49 = .ok (.iconst 1, 1) := by decide +kernel
theorem dX1_numbersAtBelow_50 : decode cX1_numbersAtBelow 50 = .ok (.iadd, 1) := by decide +kernel
theorem dX1_numbersAtBelow_51 : decode cX1_numbersAtBelow 51 = .ok (.iadd, 1) := by decide +kernel
theorem dX1_numbersAtBelow_52 : decode cX1_numbersAtBelow 52 = .ok (.istore_n 3, 1) := by decide +kernel
theorem dX1_numbersAtBelow_53 : decode cX1_numbersAtBelow 53 = .ok (.aload 4, 2) := by decide +kernel
theorem dX1_numbersAtBelow_55 : decode cX1_numbersAtBelow 55 = .ok (.getfield 103, 3) := by decide +kernel
theorem dX1_numbersAtBelow_58 : decode cX1_numbersAtBelow 58 = .ok (.astore 4, 2) := by decide +kernel
theorem dX1_numbersAtBelow_60 : decode cX1_numbersAtBelow 60 = .ok (.goto (-52), 3) := by decide +kernel
theorem dX1_numbersAtBelow_63 : decode cX1_numbersAtBelow 63 = .ok (.iload_n 3, 1) := by decide +kernel
theorem dX1_numbersAtBelow_64 : decode cX1_numbersAtBelow 64 = .ok (.ireturn, 1) := by decide +kernel
theorem dX1_rangesAt_0 : decode cX1_rangesAt 0 = .ok (.iconst 0, 1) := by decide +kernel
theorem dX1_rangesAt_1 : decode cX1_rangesAt 1 = .ok (.istore_n 2, 1) := by decide +kernel
theorem dX1_rangesAt_2 : decode cX1_rangesAt 2 = .ok (.aload_n 0, 1) := by decide +kernel
theorem dX1_rangesAt_3 : decode cX1_rangesAt 3 = .ok (.getfield 14, 3) := by decide +kernel
theorem dX1_rangesAt_6 : decode cX1_rangesAt 6 = .ok (.astore_n 3, 1) := by decide +kernel
theorem dX1_rangesAt_7 : decode cX1_rangesAt 7 = .ok (.aload_n 3, 1) := by decide +kernel
theorem dX1_rangesAt_8 : decode cX1_rangesAt 8 = .ok (.ifnull 22, 3) := by decide +kernel
theorem dX1_rangesAt_11 : decode cX1_rangesAt 11 = .ok (.aload_n 3, 1) := by decide +kernel
theorem dX1_rangesAt_12 : decode cX1_rangesAt 12 = .ok (.getfield 96, 3) := by decide +kernel
theorem dX1_rangesAt_15 : decode cX1_rangesAt 15 = .ok (.iload_n 1, 1) := by decide +kernel
theorem dX1_rangesAt_16 : decode cX1_rangesAt 16 = .ok (.if_icmp .ne 6, 3) := by decide +kernel
theorem dX1_rangesAt_19 : decode cX1_rangesAt 19 = .ok (.iinc 2 1, 3) := by decide +kernel
theorem dX1_rangesAt_22 : decode cX1_rangesAt 22 = .ok (.aload_n 3, 1) := by decide +kernel
theorem dX1_rangesAt_23 : decode cX1_rangesAt 23 = .ok (.getfield 103, 3) := by decide +kernel
theorem dX1_rangesAt_26 : decode cX1_rangesAt 26 = .ok (.astore_n 3, 1) := by decide +kernel
theorem dX1_rangesAt_27 : decode cX1_rangesAt 27 = .ok (.goto (-20), 3) := by decide +kernel
theorem dX1_rangesAt_30 : decode cX1_rangesAt 30 = .ok (.iload_n 2, 1) := by decide +kernel
theorem dX1_rangesAt_31 : decode cX1_rangesAt 31 = .ok (.ireturn, 1) := by decide +kernel
theorem dX1_lowestAt_0 : decode cX1_lowestAt 0 = .ok (.aload_n 0, 1) := by decide +kernel
theorem dX1_lowestAt_1 : decode cX1_lowestAt 1 = .ok (.getfield 14, 3) := by decide +kernel
theorem dX1_lowestAt_4 : decode cX1_lowestAt 4 = .ok (.astore_n 2, 1) := by decide +kernel
theorem dX1_lowestAt_5 : decode cX1_lowestAt 5 = .ok (.aload_n 2, 1) := by decide +kernel
theorem dX1_lowestAt_6 : decode cX1_lowestAt 6 = .ok (.ifnull 24, 3) := by decide +kernel
theorem dX1_lowestAt_9 : decode cX1_lowestAt 9 = .ok (.aload_n 2, 1) := by decide +kernel
theorem dX1_lowestAt_10 : decode cX1_lowestAt 10 = .ok (.getfield 96, 3) := by decide +kernel
theorem dX1_lowestAt_13 : decode cX1_lowestAt 13 = .ok (.iload_n 1, 1) := by decide +kernel
theorem dX1_lowestAt_14 : decode cX1_lowestAt 14 = .ok (.if_icmp .ne 8, 3) := by decide +kernel
theorem dX1_lowestAt_17 : decode cX1_lowestAt 17 = .ok (.aload_n 2, 1) := by decide +kernel
theorem dX1_lowestAt_18 : decode cX1_lowestAt 18 = .ok (.getfield 90, 3) := by decide +kernel
theorem dX1_lowestAt_21 : decode cX1_lowestAt 21 = .ok (.ireturn, 1) := by decide +kernel
theorem dX1_lowestAt_22 : decode cX1_lowestAt 22 = .ok (.aload_n 2, 1) := by decide +kernel
theorem dX1_lowestAt_23 : decode cX1_lowestAt 23 = .ok (.getfield 103, 3) := by decide +kernel
theorem dX1_lowestAt_26 : decode cX1_lowestAt 26 = .ok (.astore_n 2, 1) := by decide +kernel
theorem dX1_lowestAt_27 : decode cX1_lowestAt 27 = .ok (.goto (-22), 3) := by decide +kernel
theorem dX1_lowestAt_30 : decode cX1_lowestAt 30 = .ok (.iconst 0, 1) := by decide +kernel
theorem dX1_lowestAt_31 : decode cX1_lowestAt 31 = .ok (.ireturn, 1) := by decide +kernel
theorem dX1_rangeOfJug_0 : decode cX1_rangeOfJug 0 = .ok (.iconst 0, 1) := by decide +kernel
theorem dX1_rangeOfJug_1 : decode cX1_rangeOfJug 1 = .ok (.istore_n 2, 1) := by decide +kernel
theorem dX1_rangeOfJug_2 : decode cX1_rangeOfJug 2 = .ok (.aload_n 0, 1) := by decide +kernel
theorem dX1_rangeOfJug_3 : decode cX1_rangeOfJug 3 = .ok (.getfield 14, 3) := by decide +kernel
theorem dX1_rangeOfJug_6 : decode cX1_rangeOfJug 6 = .ok (.astore_n 3, 1) := by decide +kernel
theorem dX1_rangeOfJug_7 : decode cX1_rangeOfJug 7 = .ok (.aload_n 3, 1) := by decide +kernel
theorem dX1_rangeOfJug_8 : decode cX1_rangeOfJug 8 = .ok (.ifnull 30, 3) := by decide +kernel
theorem dX1_rangeOfJug_11 : decode cX1_rangeOfJug 11 = .ok (.aload_n 3, 1) := by decide +kernel
theorem dX1_rangeOfJug_12 : decode cX1_rangeOfJug 12 = .ok (.getfield 96, 3) := by decide +kernel
theorem dX1_rangeOfJug_15 : decode cX1_rangeOfJug 15 = .ok (.bipush 8, 2) := by decide +kernel
theorem dX1_rangeOfJug_17 : decode cX1_rangeOfJug 17 = .ok (.if_icmp .ne 13, 3) := by decide +kernel
theorem dX1_rangeOfJug_20 : decode cX1_rangeOfJug 20 = .ok (.iload_n 2, 1) := by decide +kernel
theorem dX1_rangeOfJug_21 : decode cX1_rangeOfJug 21 = .ok (.iload_n 1, 1) := by decide +kernel
theorem dX1_rangeOfJug_22 : decode cX1_rangeOfJug 22 = .ok (.if_icmp .ne 5, 3) := by decide +kernel
theorem dX1_rangeOfJug_25 : decode cX1_rangeOfJug 25 = .ok (.aload_n 3, 1) := by decide +kernel
theorem dX1_rangeOfJug_26 : decode cX1_rangeOfJug 26 = .ok (.areturn, 1) := by decide +kernel
theorem dX1_rangeOfJug_27 : decode cX1_rangeOfJug 27 = .ok (.iinc 2 1, 3) := by decide +kernel
theorem dX1_rangeOfJug_30 : decode cX1_rangeOfJug 30 = .ok (.aload_n 3, 1) := by decide +kernel
theorem dX1_rangeOfJug_31 : decode cX1_rangeOfJug 31 = .ok (.getfield 103, 3) := by decide +kernel
theorem dX1_rangeOfJug_34 : decode cX1_rangeOfJug 34 = .ok (.astore_n 3, 1) := by decide +kernel
theorem dX1_rangeOfJug_35 : decode cX1_rangeOfJug 35 = .ok (.goto (-28), 3) := by decide +kernel
theorem dX1_rangeOfJug_38 : decode cX1_rangeOfJug 38 = .ok (.aconst_null, 1) := by decide +kernel
theorem dX1_rangeOfJug_39 : decode cX1_rangeOfJug 39 = .ok (.areturn, 1) := by decide +kernel
