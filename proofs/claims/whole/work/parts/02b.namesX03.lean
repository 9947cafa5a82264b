theorem inlX0 : ∀ w ∈ wsX00, w ∈ wsL_law := fun _ h => List.mem_append_left _ (List.mem_append_right _ h)
theorem inX0 : ∀ w ∈ wsX00, w ∈ lw_tbl := fun w h => wsL_law_in w (inlX0 w h)
theorem inlX1 : ∀ w ∈ wsX10, w ∈ wsL_law := fun _ h => List.mem_append_left _ (List.mem_append_left _ (List.mem_append_right _ h))
theorem inX1 : ∀ w ∈ wsX10, w ∈ lw_tbl := fun w h => wsL_law_in w (inlX1 w h)
theorem inlX2 : ∀ w ∈ wsX20, w ∈ wsL_law := fun _ h => List.mem_append_left _ (List.mem_append_left _ (List.mem_append_left _ (List.mem_append_left _ (List.mem_append_right _ h))))
theorem inX2 : ∀ w ∈ wsX20, w ∈ lw_tbl := fun w h => wsL_law_in w (inlX2 w h)
theorem inlX3 : ∀ w ∈ wsX30, w ∈ wsL_law := fun _ h => List.mem_append_left _ (List.mem_append_left _ (List.mem_append_left _ (List.mem_append_right _ h)))
theorem inX3 : ∀ w ∈ wsX30, w ∈ lw_tbl := fun w h => wsL_law_in w (inlX3 w h)
theorem inlX4 : ∀ w ∈ wsX40, w ∈ wsL_law := fun _ h => List.mem_append_left _ (List.mem_append_left _ (List.mem_append_left _ (List.mem_append_left _ (List.mem_append_left _ (List.mem_append_left _ (List.mem_append_right _ h))))))
theorem inX4 : ∀ w ∈ wsX40, w ∈ lw_tbl := fun w h => wsL_law_in w (inlX4 w h)
theorem inlX5 : ∀ w ∈ wsX50, w ∈ wsL_law := fun _ h => List.mem_append_left _ (List.mem_append_left _ (List.mem_append_left _ (List.mem_append_left _ (List.mem_append_left _ (List.mem_append_right _ h)))))
theorem inX5 : ∀ w ∈ wsX50, w ∈ lw_tbl := fun w h => wsL_law_in w (inlX5 w h)
theorem inJ9 : ∀ w ∈ wsJ90, w ∈ lw_tbl := by decide +kernel
theorem inJ10 : ∀ w ∈ wsJ100, w ∈ lw_tbl := by decide +kernel
theorem inJ7 : ∀ w ∈ wsJ70, w ∈ lw_tbl := by decide +kernel
theorem dX0_init_0 : decode cX0_init 0 = .ok (.aload_n 0, 1) := by decide +kernel
theorem dX0_init_1 : decode cX0_init 1 = .ok (.invokespecial 3, 3) := by decide +kernel
theorem dX0_init_4 : decode cX0_init 4 = .ok (.return_, 1) := by decide +kernel
set_option maxRecDepth 20000 in
theorem ggX0_startAnew_X0_take : GoodIn wsX0_startAnew wsX0_take := goodIn_r _ [9, 1, 10, 11, 12, 13, 14, 15, 16, 17, 18, 19, 20, 21, 22, 23, 24, 25] (by decide +kernel) (by decide +kernel)
set_option maxRecDepth 20000 in
theorem gX0_startAnew_X0_take : GoodIn wsX0_startAnew (wsV RX0 9 RX0 yX0_take wsX0_take) := goodIn_app (goodIn_of _ (by decide +kernel)) ggX0_startAnew_X0_take
theorem dX0_startAnew_0 : decode cX0_startAnew 0 = .ok (.aload_n 0, 1) := by decide +kernel
theorem dX0_startAnew_1 : decode cX0_startAnew 1 = .ok (.iconst 0, 1) := by decide +kernel
theorem dX0_startAnew_2 : decode cX0_startAnew 2 = .ok (.iconst 0, 1) := by decide +kernel
theorem dX0_startAnew_3 : decode cX0_startAnew 3 = .ok (.iconst 0, 1) := by decide +kernel
theorem dX0_startAnew_4 : decode cX0_startAnew 4 = .ok (.lconst 0, 1) := by decide +kernel
theorem dX0_startAnew_5 : decode cX0_startAnew 5 = .ok (.invokevirtual 9, 3) := by decide +kernel
theorem dX0_startAnew_8 : decode cX0_startAnew 8 = .ok (.aload_n 0, 1) := by decide +kernel
theorem dX0_startAnew_9 : decode cX0_startAnew 9 = .ok (.iconst 0, 1) := by decide +kernel
theorem dX0_startAnew_10 : decode cX0_startAnew 10 = .ok (.putfield 15, 3) := by decide +kernel
theorem dX0_startAnew_13 : decode cX0_startAnew 13 = .ok (.aload_n 0, 1) := by decide +kernel
theorem dX0_startAnew_14 : decode cX0_startAnew 14 = .ok (.iconst 0, 1) := by decide +kernel
theorem dX0_startAnew_15 : decode cX0_startAnew 15 = .ok (.putfield 19, 3) := by decide +kernel
theorem dX0_startAnew_18 : decode cX0_startAnew 18 = .ok (.aload_n 0, 1) := by decide +kernel
theorem dX0_startAnew_19 : decode cX0_startAnew 19 = .ok (.iconst 0, 1) := by decide +kernel
theorem dX0_startAnew_20 : decode cX0_startAnew 20 = .ok (.putfield 23, 3) := by decide +kernel
theorem dX0_startAnew_23 : decode cX0_startAnew 23 = .ok (.aload_n 0, 1) := by decide +kernel
theorem dX0_startAnew_24 : decode cX0_startAnew 24 = .ok (.lconst 0, 1) := by decide +kernel
theorem dX0_startAnew_25 : decode cX0_startAnew 25 = .ok (.putfield 26, 3) := by decide +kernel
theorem dX0_startAnew_28 : decode cX0_startAnew 28 = .ok (.return_, 1) := by decide +kernel
theorem dX0_take_0 : decode cX0_take 0 = .ok (.aload_n 0, 1) := by decide +kernel
theorem dX0_take_1 : decode cX0_take 1 = .ok (.iconst 1, 1) := by decide +kernel
theorem dX0_take_2 : decode cX0_take 2 = .ok (.putfield 15, 3) := by decide +kernel
theorem dX0_take_5 : decode cX0_take 5 = .ok (.aload_n 0, 1) := by decide +kernel
theorem dX0_take_6 : decode cX0_take 6 = .ok (.iload_n 1, 1) := by decide +kernel
theorem dX0_take_7 : decode cX0_take 7 = .ok (.putfield 30, 3) := by decide +kernel
theorem dX0_take_10 : decode cX0_take 10 = .ok (.aload_n 0, 1) := by decide +kernel
theorem dX0_take_11 : decode cX0_take 11 = .ok (.iload_n 2, 1) := by decide +kernel
theorem dX0_take_12 : decode cX0_take 12 = .ok (.putfield 33, 3) := by decide +kernel
theorem dX0_take_15 : decode cX0_take 15 = .ok (.aload_n 0, 1) := by decide +kernel
theorem dX0_take_16 : decode cX0_take 16 = .ok (.iload_n 3, 1) := by decide +kernel
theorem dX0_take_17 : decode cX0_take 17 = .ok (.putfield 36, 3) := by decide +kernel
theorem dX0_take_20 : decode cX0_take 20 = .ok (.aload_n 0, 1) := by decide +kernel
theorem dX0_take_21 : decode cX0_take 21 = .ok (.lload 4, 2) := by decide +kernel
theorem dX0_take_23 : decode cX0_take 23 = .ok (.putfield 39, 3) := by decide +kernel
theorem dX0_take_26 : decode cX0_take 26 = .ok (.aload_n 0, 1) := by decide +kernel
theorem dX0_take_27 : decode cX0_take 27 = .ok (.iconst 0, 1) := by decide +kernel
theorem dX0_take_28 : decode cX0_take 28 = .ok (.putfield 42, 3) := by decide +kernel
theorem dX0_take_31 : decode cX0_take 31 = .ok (.aload_n 0, 1) := by decide +kernel
theorem dX0_take_32 : decode cX0_take 32 = .ok (.iconst 0, 1) := by decide +kernel
theorem dX0_take_33 : decode cX0_take 33 = .ok (.putfield 45, 3) := by decide +kernel
theorem dX0_take_36 : decode cX0_take 36 = .ok (.return_, 1) := by decide +kernel
theorem dX0_awaits_0 : decode cX0_awaits 0 = .ok (.aload_n 0, 1) := by decide +kernel
theorem dX0_awaits_1 : decode cX0_awaits 1 = .ok (.getfield 19, 3) := by decide +kernel
theorem dX0_awaits_4 : decode cX0_awaits 4 = .ok (.iload_n 1, 1) := by decide +kernel
theorem dX0_awaits_5 : decode cX0_awaits 5 = .ok (.if_icmp .ne 15, 3) := by decide +kernel
theorem dX0_awaits_8 : decode cX0_awaits 8 = .ok (.aload_n 0, 1) := by decide +kernel
theorem dX0_awaits_9 : decode cX0_awaits 9 = .ok (.getfield 30, 3) := by decide +kernel
theorem dX0_awaits_12 : decode cX0_awaits 12 = .ok (.iload_n 2, 1) := by decide +kernel
theorem dX0_awaits_13 : decode cX0_awaits 13 = .ok (.if_icmp .ne 7, 3) := by decide +kernel
theorem dX0_awaits_16 : decode cX0_awaits 16 = .ok (.iconst 1, 1) := by decide +kernel
theorem dX0_awaits_17 : decode cX0_awaits 17 = .ok (.goto 4, 3) := by decide +kernel
theorem dX0_awaits_20 : decode cX0_awaits 20 = .ok (.iconst 0, 1) := by decide +kernel
theorem dX0_awaits_21 : decode cX0_awaits 21 = .ok (.ireturn, 1) := by decide +kernel
theorem dX1_init_0 : decode cX1_init 0 = .ok (.aload_n 0, 1) := by decide +kernel
theorem dX1_init_1 : decode cX1_init 1 = .ok (.invokespecial 3, 3) := by decide +kernel
theorem dX1_init_4 : decode cX1_init 4 = .ok (.aload_n 0, 1) := by decide +kernel
theorem dX1_init_5 : decode cX1_init 5 = .ok (.iconst 4, 1) := by decide +kernel
theorem dX1_init_6 : decode cX1_init 6 = .ok (.newarray .long, 2) := by decide +kernel
theorem dX1_init_8 : decode cX1_init 8 = .ok (.putfield 9, 3) := by decide +kernel
theorem dX1_init_11 : decode cX1_init 11 = .ok (.return_, 1) := by decide +kernel
set_option maxRecDepth 20000 in
theorem ggX2_init_X1_init : GoodIn wsX2_init wsX1_init := goodIn_r _ [9, 10, 2, 3, 11, 12, 15, 16, 17, 18, 19, 20, 21] (by decide +kernel) (by decide +kernel)
set_option maxRecDepth 20000 in
theorem gX2_init_X1_init_n17 : GoodIn wsX2_init (wsX1_init) := ggX2_init_X1_init
theorem dX2_init_0 : decode cX2_init 0 = .ok (.aload_n 0, 1) := by decide +kernel
theorem dX2_init_1 : decode cX2_init 1 = .ok (.invokespecial 3, 3) := by decide +kernel
theorem dX2_init_4 : decode cX2_init 4 = .ok (.aload_n 0, 1) := by decide +kernel
theorem dX2_init_5 : decode cX2_init 5 = .ok (.bipush 32, 2) := by decide +kernel
theorem dX2_init_7 : decode cX2_init 7 = .ok (.anewarray 11, 3) := by decide +kernel
theorem dX2_init_10 : decode cX2_init 10 = .ok (.putfield 13, 3) := by decide +kernel
theorem dX2_init_13 : decode cX2_init 13 = .ok (.iconst 0, 1) := by decide +kernel
theorem dX2_init_14 : decode cX2_init 14 = .ok (.istore_n 1, 1) := by decide +kernel
theorem dX2_init_15 : decode cX2_init 15 = .ok (.iload_n 1, 1) := by decide +kernel
theorem dX2_init_16 : decode cX2_init 16 = .ok (.bipush 32, 2) := by decide +kernel
theorem dX2_init_18 : decode cX2_init 18 = .ok (.if_icmp .ge 22, 3) := by decide +kernel
theorem dX2_init_21 : decode cX2_init 21 = .ok (.aload_n 0, 1) := by decide +kernel
theorem dX2_init_22 : decode cX2_init 22 = .ok (.getfield 13, 3) := by decide +kernel
theorem dX2_init_25 : decode cX2_init 25 = .ok (.iload_n 1, 1) := by decide +kernel
theorem dX2_init_26 : decode cX2_init 26 = .ok (.new 11, 3) := by decide +kernel
theorem dX2_init_29 : decode cX2_init 29 = .ok (.dup, 1) := by decide +kernel
theorem dX2_init_30 : decode cX2_init 30 = .ok (.invokespecial 17, 3) := by decide +kernel
theorem dX2_init_33 : decode cX2_init 33 = .ok (.aastore, 1) := by decide +kernel
theorem dX2_init_34 : decode cX2_init 34 = .ok (.iinc 1 1, 3) := by decide +kernel
theorem dX2_init_37 : decode cX2_init 37 = .ok (.goto (-22), 3) := by decide +kernel
theorem dX2_init_40 : decode cX2_init 40 = .ok (.return_, 1) := by decide +kernel
theorem dX2_has_0 : decode cX2_has 0 = .ok (.iload_n 1, 1) := by decide +kernel
theorem dX2_has_1 : decode cX2_has 1 = .ok (.ifCond .lt 15, 3) := by decide +kernel
theorem dX2_has_4 : decode cX2_has 4 = .ok (.iload_n 1, 1) := by decide +kernel
theorem dX2_has_5 : decode cX2_has 5 = .ok (.aload_n 0, 1) := by decide +kernel
theorem dX2_has_6 : decode cX2_has 6 = .ok (.getfield 18, 3) := by decide +kernel
theorem dX2_has_9 : decode cX2_has 9 = .ok (.if_icmp .ge 7, 3) := by decide +kernel
theorem dX2_has_12 : decode cX2_has 12 = .ok (.iconst 1, 1) := by decide +kernel
theorem dX2_has_13 : decode cX2_has 13 = .ok (.goto 4, 3) := by decide +kernel
theorem dX2_has_16 : decode cX2_has 16 = .ok (.iconst 0, 1) := by decide +kernel
theorem dX2_has_17 : decode cX2_has 17 = .ok (.ireturn, 1) := by decide +kernel
theorem dX2_putIn_0 : decode cX2_putIn 0 = .ok (.aload_n 0, 1) := by decide +kernel
theorem dX2_putIn_1 : decode cX2_putIn 1 = .ok (.getfield 18, 3) := by decide +kernel
theorem dX2_putIn_4 : decode cX2_putIn 4 = .ok (.bipush 31, 2) := by decide +kernel
theorem dX2_putIn_6 : decode cX2_putIn 6 = .ok (.invokestatic 22, 3) := by decide +kernel
theorem dX2_putIn_9 : decode cX2_putIn 9 = .ok (.istore 5, 2) := by decide +kernel
theorem dX2_putIn_11 : decode cX2_putIn 11 = .ok (.aload_n 0, 1) := by decide +kernel
theorem dX2_putIn_12 : decode cX2_putIn 12 = .ok (.iload 5, 2) := by decide +kernel
theorem dX2_putIn_14 : decode cX2_putIn 14 = .ok (.iconst 1, 1) := by decide +kernel
theorem dX2_putIn_15 : decode cX2_putIn 15 = .ok (.iadd, 1) := by decide +kernel
theorem dX2_putIn_16 : decode cX2_putIn 16 = .ok (.putfield 18, 3) := by decide +kernel
theorem dX2_putIn_19 : decode cX2_putIn 19 = .ok (.aload_n 0, 1) := by decide +kernel
theorem dX2_putIn_20 : decode cX2_putIn 20 = .ok (.getfield 13, 3) := by decide +kernel
theorem dX2_putIn_23 : decode cX2_putIn 23 = .ok (.iload 5, 2) := by decide +kernel
theorem dX2_putIn_25 : decode cX2_putIn 25 = .ok (.aaload, 1) := by decide +kernel
theorem dX2_putIn_26 : decode cX2_putIn 26 = .ok (.astore 6, 2) := by decide +kernel
theorem dX2_putIn_28 : decode cX2_putIn 28 = .ok (.aload 6, 2) := by decide +kernel
theorem dX2_putIn_30 : decode cX2_putIn 30 = .ok (.iload_n 1, 1) := by decide +kernel
theorem dX2_putIn_31 : decode cX2_putIn 31 = .ok (.putfield 28, 3) := by decide +kernel
theorem dX2_putIn_34 : decode cX2_putIn 34 = .ok (.aload 6, 2) := by decide +kernel
theorem dX2_putIn_36 : decode cX2_putIn 36 = .ok (.iload_n 2, 1) := by decide +kernel
theorem dX2_putIn_37 : decode cX2_putIn 37 = .ok (.putfield 31, 3) := by decide +kernel
theorem dX2_putIn_40 : decode cX2_putIn 40 = .ok (.aload 6, 2) := by decide +kernel
theorem dX2_putIn_42 : decode cX2_putIn 42 = .ok (.iload_n 3, 1) := by decide +kernel
theorem dX2_putIn_43 : decode cX2_putIn 43 = .ok (.putfield 34, 3) := by decide +kernel
theorem dX2_putIn_46 : decode cX2_putIn 46 = .ok (.aload 6, 2) := by decide +kernel
theorem dX2_putIn_48 : decode cX2_putIn 48 = .ok (.iload 4, 2) := by decide +kernel
theorem dX2_putIn_50 : decode cX2_putIn 50 = .ok (.putfield 37, 3) := by decide +kernel
theorem dX2_putIn_53 : decode cX2_putIn 53 = .ok (.aload 6, 2) := by decide +kernel
theorem dX2_putIn_55 : decode cX2_putIn 55 = .ok (.iconst (-1), 1) := by decide +kernel
theorem dX2_putIn_56 : decode cX2_putIn 56 = .ok (.putfield 40, 3) := by decide +kernel
theorem dX2_putIn_59 : decode cX2_putIn 59 = .ok (.aload 6, 2) := by decide +kernel
theorem dX2_putIn_61 : decode cX2_putIn 61 = .ok (.iconst 0, 1) := by decide +kernel
theorem dX2_putIn_62 : decode cX2_putIn 62 = .ok (.putfield 43, 3) := by decide +kernel
theorem dX2_putIn_65 : decode cX2_putIn 65 = .ok (.aload 6, 2) := by decide +kernel
theorem dX2_putIn_67 : decode cX2_putIn 67 = .ok (.areturn, 1) := by decide +kernel
theorem dX2_takeOut_0 : decode cX2_takeOut 0 = .ok (.aload_n 0, 1) := by decide +kernel
theorem dX2_takeOut_1 : decode cX2_takeOut 1 = .ok (.getfield 13, 3) := by decide +kernel
theorem dX2_takeOut_4 : decode cX2_takeOut 4 = .ok (.iload_n 1, 1) := by decide +kernel
theorem dX2_takeOut_5 : decode cX2_takeOut 5 = .ok (.aaload, 1) := by decide +kernel
theorem dX2_takeOut_6 : decode cX2_takeOut 6 = .ok (.astore_n 2, 1) := by decide +kernel
theorem dX2_takeOut_7 : decode cX2_takeOut 7 = .ok (.iload_n 1, 1) := by decide +kernel
theorem dX2_takeOut_8 : decode cX2_takeOut 8 = .ok (.istore_n 3, 1) := by decide +kernel
theorem dX2_takeOut_9 : decode cX2_takeOut 9 = .ok (.iload_n 3, 1) := by decide +kernel
theorem dX2_takeOut_10 : decode cX2_takeOut 10 = .ok (.iconst 1, 1) := by decide +kernel
theorem dX2_takeOut_11 : decode cX2_takeOut 11 = .ok (.iadd, 1) := by decide +kernel
theorem dX2_takeOut_12 : decode cX2_takeOut 12 = .ok (.bipush 32, 2) := by decide +kernel
theorem dX2_takeOut_14 : decode cX2_takeOut 14 = .ok (.if_icmp .ge 23, 3) := by decide +kernel
theorem dX2_takeOut_17 : decode cX2_takeOut 17 = .ok (.aload_n 0, 1) := by decide +kernel
theorem dX2_takeOut_18 : decode cX2_takeOut 18 = .ok (.getfield 13, 3) := by decide +kernel
theorem dX2_takeOut_21 : decode cX2_takeOut 21 = .ok (.iload_n 3, 1) := by decide +kernel
theorem dX2_takeOut_22 : decode cX2_takeOut 22 = .ok (.aload_n 0, 1) := by decide +kernel
theorem dX2_takeOut_23 : decode cX2_takeOut 23 = .ok (.getfield 13, 3) := by decide +kernel
theorem dX2_takeOut_26 : decode cX2_takeOut 26 = .ok (.iload_n 3, 1) := by decide +kernel
theorem dX2_takeOut_27 : decode cX2_takeOut 27 = .ok (.iconst 1, 1) := by decide +kernel
theorem dX2_takeOut_28 : decode cX2_takeOut 28 = .ok (.iadd, 1) := by decide +kernel
theorem dX2_takeOut_29 : decode cX2_takeOut 29 = .ok (.aaload, 1) := by decide +kernel
theorem dX2_takeOut_30 : decode cX2_takeOut 30 = .ok (.aastore, 1) := by decide +kernel
theorem dX2_takeOut_31 : decode cX2_takeOut 31 = .ok (.iinc 3 1, 3) := by decide +kernel
theorem dX2_takeOut_34 : decode cX2_takeOut 34 = .ok (.goto (-25), 3) := by decide +kernel
theorem dX2_takeOut_37 : decode cX2_takeOut 37 = .ok (.aload_n 0, 1) := by decide +kernel
theorem dX2_takeOut_38 : decode cX2_takeOut 38 = .ok (.getfield 13, 3) := by decide +kernel
theorem dX2_takeOut_41 : decode cX2_takeOut 41 = .ok (.bipush 31, 2) := by decide +kernel
theorem dX2_takeOut_43 : decode cX2_takeOut 43 = .ok (.aload_n 2, 1) := by decide +kernel
theorem dX2_takeOut_44 : decode cX2_takeOut 44 = .ok (.aastore, 1) := by decide +kernel
theorem dX2_takeOut_45 : decode cX2_takeOut 45 = .ok (.aload_n 0, 1) := by decide +kernel
theorem dX2_takeOut_46 : decode cX2_takeOut 46 = .ok (.dup, 1) := by decide +kernel
theorem dX2_takeOut_47 : decode cX2_takeOut 47 = .ok (.getfield 18, 3) := by decide +kernel
theorem dX2_takeOut_50 : decode cX2_takeOut 50 = .ok (.iconst 1, 1) := by decide +kernel
theorem dX2_takeOut_51 : decode cX2_takeOut 51 = .ok (.isub, 1) := by decide +kernel
theorem dX2_takeOut_52 : decode cX2_takeOut 52 = .ok (.putfield 18, 3) := by decide +kernel
theorem dX2_takeOut_55 : decode cX2_takeOut 55 = .ok (.aload_n 2, 1) := by decide +kernel
theorem dX2_takeOut_56 : decode cX2_takeOut 56 = .ok (.areturn, 1) := by decide +kernel
set_option maxRecDepth 20000 in
theorem ggX3_init_X0_init : GoodIn wsX3_init wsX0_init := goodIn_r _ [21, 22, 2, 3] (by decide +kernel) (by decide +kernel)
set_option maxRecDepth 20000 in
theorem gX3_init_X0_init_n11 : GoodIn wsX3_init (wsX0_init) := ggX3_init_X0_init
theorem dX3_init_0 : decode cX3_init 0 = .ok (.aload_n 0, 1) := by decide +kernel
theorem dX3_init_1 : decode cX3_init 1 = .ok (.invokespecial 3, 3) := by decide +kernel
theorem dX3_init_4 : decode cX3_init 4 = .ok (.aload_n 0, 1) := by decide +kernel
theorem dX3_init_5 : decode cX3_init 5 = .ok (.new 9, 3) := by decide +kernel
theorem dX3_init_8 : decode cX3_init 8 = .ok (.dup, 1) := by decide +kernel
theorem dX3_init_9 : decode cX3_init 9 = .ok (.invokespecial 11, 3) := by decide +kernel
theorem dX3_init_12 : decode cX3_init 12 = .ok (.putfield 12, 3) := by decide +kernel
theorem dX3_init_15 : decode cX3_init 15 = .ok (.aload_n 0, 1) := by decide +kernel
theorem dX3_init_16 : decode cX3_init 16 = .ok (.bipush 8, 2) := by decide +kernel
theorem dX3_init_18 : decode cX3_init 18 = .ok (.newarray .int, 2) := by decide +kernel
theorem dX3_init_20 : decode cX3_init 20 = .ok (.putfield 18, 3) := by decide +kernel
theorem dX3_init_23 : decode cX3_init 23 = .ok (.aload_n 0, 1) := by decide +kernel
theorem dX3_init_24 : decode cX3_init 24 = .ok (.bipush 8, 2) := by decide +kernel
theorem dX3_init_26 : decode cX3_init 26 = .ok (.newarray .boolean, 2) := by decide +kernel
theorem dX3_init_28 : decode cX3_init 28 = .ok (.putfield 22, 3) := by decide +kernel
theorem dX3_init_31 : decode cX3_init 31 = .ok (.aload_n 0, 1) := by decide +kernel
theorem dX3_init_32 : decode cX3_init 32 = .ok (.bipush 8, 2) := by decide +kernel
theorem dX3_init_34 : decode cX3_init 34 = .ok (.newarray .int, 2) := by decide +kernel
theorem dX3_init_36 : decode cX3_init 36 = .ok (.putfield 26, 3) := by decide +kernel
theorem dX3_init_39 : decode cX3_init 39 = .ok (.aload_n 0, 1) := by decide +kernel
theorem dX3_init_40 : decode cX3_init 40 = .ok (.bipush 8, 2) := by decide +kernel
theorem dX3_init_42 : decode cX3_init 42 = .ok (.newarray .int, 2) := by decide +kernel
theorem dX3_init_44 : decode cX3_init 44 = .ok (.putfield 29, 3) := by decide +kernel
theorem dX3_init_47 : decode cX3_init 47 = .ok (.aload_n 0, 1) := by decide +kernel
theorem dX3_init_48 : decode cX3_init 48 = .ok (.bipush 32, 2) := by decide +kernel
theorem dX3_init_50 : decode cX3_init 50 = .ok (.newarray .long, 2) := by decide +kernel
theorem dX3_init_52 : decode cX3_init 52 = .ok (.putfield 32, 3) := by decide +kernel
theorem dX3_init_55 : decode cX3_init 55 = .ok (.aload_n 0, 1) := by decide +kernel
theorem dX3_init_56 : decode cX3_init 56 = .ok (.bipush 8, 2) := by decide +kernel
theorem dX3_init_58 : decode cX3_init 58 = .ok (.newarray .int, 2) := by decide +kernel
theorem dX3_init_60 : decode cX3_init 60 = .ok (.putfield 36, 3) := by decide +kernel
theorem dX3_init_63 : decode cX3_init 63 = .ok (.aload_n 0, 1) := by decide +kernel
theorem dX3_init_64 : decode cX3_init 64 = .ok (.bipush 48, 2) := by decide +kernel
theorem dX3_init_66 : decode cX3_init 66 = .ok (.newarray .int, 2) := by decide +kernel
theorem dX3_init_68 : decode cX3_init 68 = .ok (.putfield 39, 3) := by decide +kernel
theorem dX3_init_71 : decode cX3_init 71 = .ok (.aload_n 0, 1) := by decide +kernel
theorem dX3_init_72 : decode cX3_init 72 = .ok (.bipush 48, 2) := by decide +kernel
theorem dX3_init_74 : decode cX3_init 74 = .ok (.newarray .int, 2) := by decide +kernel
theorem dX3_init_76 : decode cX3_init 76 = .ok (.putfield 42, 3) := by decide +kernel
theorem dX3_init_79 : decode cX3_init 79 = .ok (.aload_n 0, 1) := by decide +kernel
theorem dX3_init_80 : decode cX3_init 80 = .ok (.iload_n 1, 1) := by decide +kernel
theorem dX3_init_81 : decode cX3_init 81 = .ok (.putfield 45, 3) := by decide +kernel
theorem dX3_init_84 : decode cX3_init 84 = .ok (.return_, 1) := by decide +kernel
set_option maxRecDepth 20000 in
theorem ggX3_startAnew_X0_startAnew : GoodIn wsX3_startAnew wsX0_startAnew := goodIn_r _ [17, 18, 19, 20, 21, 22, 23, 24, 16, 25, 26, 27, 28, 29, 30, 31, 50, 51, 52, 53, 54, 55, 56, 57, 58, 59] (by decide +kernel) (by decide +kernel)
set_option maxRecDepth 20000 in
theorem gX3_startAnew_X0_startAnew : GoodIn wsX3_startAnew (wsV RX3 49 RX0 yX0_startAnew wsX0_startAnew) := goodIn_app (goodIn_of _ (by decide +kernel)) ggX3_startAnew_X0_startAnew
set_option maxRecDepth 20000 in
theorem ggX3_startAnew_J7_fill_d0a16 : GoodIn wsX3_startAnew wsJ7_fill_d0a16 := goodIn_r _ [35] (by decide +kernel) (by decide +kernel)
set_option maxRecDepth 20000 in
theorem gX3_startAnew_J7_fill_d0a16 : GoodIn wsX3_startAnew (va_wsS RX3 52 yJ7_fill_d0a16 wsJ7_fill_d0a16) := goodIn_app (goodIn_of _ (by decide +kernel)) ggX3_startAnew_J7_fill_d0a16
set_option maxRecDepth 20000 in
theorem ggX3_startAnew_J9_floorMod_7cf53 : GoodIn wsX3_startAnew wsJ9_floorMod_7cf53 := goodIn_r _ [39] (by decide +kernel) (by decide +kernel)
set_option maxRecDepth 20000 in
theorem gX3_startAnew_J9_floorMod_7cf53 : GoodIn wsX3_startAnew (va_wsS RX3 64 yJ9_floorMod_7cf53 wsJ9_floorMod_7cf53) := goodIn_app (goodIn_of _ (by decide +kernel)) ggX3_startAnew_J9_floorMod_7cf53
theorem dX3_startAnew_0 : decode cX3_startAnew 0 = .ok (.aload_n 0, 1) := by decide +kernel
theorem dX3_startAnew_1 : decode cX3_startAnew 1 = .ok (.getfield 12, 3) := by decide +kernel
theorem dX3_startAnew_4 : decode cX3_startAnew 4 = .ok (.invokevirtual 49, 3) := by decide +kernel
theorem dX3_startAnew_7 : decode cX3_startAnew 7 = .ok (.aload_n 0, 1) := by decide +kernel
theorem dX3_startAnew_8 : decode cX3_startAnew 8 = .ok (.getfield 32, 3) := by decide +kernel
theorem dX3_startAnew_11 : decode cX3_startAnew 11 = .ok (.lconst 0, 1) := by decide +kernel
theorem dX3_startAnew_12 : decode cX3_startAnew 12 = .ok (.invokestatic 52, 3) := by decide +kernel
theorem dX3_startAnew_15 : decode cX3_startAnew 15 = .ok (.iconst 0, 1) := by decide +kernel
theorem dX3_startAnew_16 : decode cX3_startAnew 16 = .ok (.istore_n 2, 1) := by decide +kernel
theorem dX3_startAnew_17 : decode cX3_startAnew 17 = .ok (.iload_n 2, 1) := by decide +kernel
theorem dX3_startAnew_18 : decode cX3_startAnew 18 = .ok (.bipush 8, 2) := by decide +kernel
theorem dX3_startAnew_20 : decode cX3_startAnew 20 = .ok (.if_icmp .ge 79, 3) := by decide +kernel
theorem dX3_startAnew_23 : decode cX3_startAnew 23 = .ok (.iload_n 2, 1) := by decide +kernel
theorem dX3_startAnew_24 : decode cX3_startAnew 24 = .ok (.iload_n 1, 1) := by decide +kernel
theorem dX3_startAnew_25 : decode cX3_startAnew 25 = .ok (.iconst 1, 1) := by decide +kernel
theorem dX3_startAnew_26 : decode cX3_startAnew 26 = .ok (.invokestatic 58, 3) := by decide +kernel
theorem dX3_startAnew_29 : decode cX3_startAnew 29 = .ok (.invokestatic 64, 3) := by decide +kernel
theorem dX3_startAnew_32 : decode cX3_startAnew 32 = .ok (.istore_n 3, 1) := by decide +kernel
theorem dX3_startAnew_33 : decode cX3_startAnew 33 = .ok (.aload_n 0, 1) := by decide +kernel
theorem dX3_startAnew_34 : decode cX3_startAnew 34 = .ok (.getfield 22, 3) := by decide +kernel
theorem dX3_startAnew_37 : decode cX3_startAnew 37 = .ok (.iload_n 2, 1) := by decide +kernel
theorem dX3_startAnew_38 : decode cX3_startAnew 38 = .ok (.iload_n 3, 1) := by decide +kernel
theorem dX3_startAnew_39 : decode cX3_startAnew 39 = .ok (.aload_n 0, 1) := by decide +kernel
theorem dX3_startAnew_40 : decode cX3_startAnew 40 = .ok (.getfield 45, 3) := by decide +kernel
theorem dX3_startAnew_43 : decode cX3_startAnew 43 = .ok (.if_icmp .ne 7, 3) := by decide +kernel
theorem dX3_startAnew_46 : decode cX3_startAnew 46 = .ok (.iconst 1, 1) := by decide +kernel
theorem dX3_startAnew_47 : decode cX3_startAnew 47 = .ok (.goto 4, 3) := by decide +kernel
theorem dX3_startAnew_50 : decode cX3_startAnew 50 = .ok (.iconst 0, 1) := by decide +kernel
theorem dX3_startAnew_51 : decode cX3_startAnew 51 = .ok (.bastore, 1) := by decide +kernel
theorem dX3_startAnew_52 : decode cX3_startAnew 52 = .ok (.aload_n 0, 1) := by decide +kernel
theorem dX3_startAnew_53 : decode cX3_startAnew 53 = .ok (.getfield 18, 3) := by decide +kernel
theorem dX3_startAnew_56 : decode cX3_startAnew 56 = .ok (.iload_n 2, 1) := by decide +kernel
theorem dX3_startAnew_57 : decode cX3_startAnew 57 = .ok (.aload_n 0, 1) := by decide +kernel
theorem dX3_startAnew_58 : decode cX3_startAnew 58 = .ok (.getfield 22, 3) := by decide +kernel
theorem dX3_startAnew_61 : decode cX3_startAnew 61 = .ok (.iload_n 2, 1) := by decide +kernel
theorem dX3_startAnew_62 : decode cX3_startAnew 62 = .ok (.baload, 1) := by decide +kernel
theorem dX3_startAnew_63 : decode cX3_startAnew 63 = .ok (.ifCond .eq 7, 3) := by decide +kernel
theorem dX3_startAnew_66 : decode cX3_startAnew 66 = .ok (.iconst 2, 1) := by decide +kernel
theorem dX3_startAnew_67 : decode cX3_startAnew 67 = .ok (.goto 4, 3) := by decide +kernel
theorem dX3_startAnew_70 : decode cX3_startAnew 70 = .ok (.iconst 0, 1) := by decide +kernel
theorem dX3_startAnew_71 : decode cX3_startAnew 71 = .ok (.iastore, 1) := by decide +kernel
theorem dX3_startAnew_72 : decode cX3_startAnew 72 = .ok (.aload_n 0, 1) := by decide +kernel
theorem dX3_startAnew_73 : decode cX3_startAnew 73 = .ok (.getfield 26, 3) := by decide +kernel
theorem dX3_startAnew_76 : decode cX3_startAnew 76 = .ok (.iload_n 2, 1) := by decide +kernel
theorem dX3_startAnew_77 : decode cX3_startAnew 77 = .ok (.iload_n 3, 1) := by decide +kernel
theorem dX3_startAnew_78 : decode cX3_startAnew 78 = .ok (.iastore, 1) := by decide +kernel
theorem dX3_startAnew_79 : decode cX3_startAnew 79 = .ok (.aload_n 0, 1) := by decide +kernel
theorem dX3_startAnew_80 : decode cX3_startAnew 80 = .ok (.getfield 29, 3) := by decide +kernel
theorem dX3_startAnew_83 : decode cX3_startAnew 83 = .ok (.iload_n 2, 1) := by decide +kernel
theorem dX3_startAnew_84 : decode cX3_startAnew 84 = .ok (.iconst 0, 1) := by decide +kernel
theorem dX3_startAnew_85 : decode cX3_startAnew 85 = .ok (.iastore, 1) := by decide +kernel
theorem dX3_startAnew_86 : decode cX3_startAnew 86 = .ok (.aload_n 0, 1) := by decide +kernel
theorem dX3_startAnew_87 : decode cX3_startAnew 87 = .ok (.getfield 36, 3) := by decide +kernel
theorem dX3_startAnew_90 : decode cX3_startAnew 90 = .ok (.iload_n 2, 1) := by decide +kernel
theorem dX3_startAnew_91 : decode cX3_startAnew 91 = .ok (.iconst 0, 1) := by decide +kernel
theorem dX3_startAnew_92 : decode cX3_startAnew 92 = .ok (.iastore, 1) := by decide +kernel
theorem dX3_startAnew_93 : decode cX3_startAnew 93 = .ok (.iinc 2 1, 3) := by decide +kernel
theorem dX3_startAnew_96 : decode cX3_startAnew 96 = .ok (.goto (-79), 3) := by decide +kernel
theorem dX3_startAnew_99 : decode cX3_startAnew 99 = .ok (.return_, 1) := by decide +kernel
theorem dX3_putInQueue_0 : decode cX3_putInQueue 0 = .ok (.aload_n 0, 1) := by decide +kernel
theorem dX3_putInQueue_1 : decode cX3_putInQueue 1 = .ok (.getfield 36, 3) := by decide +kernel
theorem dX3_putInQueue_4 : decode cX3_putInQueue 4 = .ok (.iload_n 2, 1) := by decide +kernel
theorem dX3_putInQueue_5 : decode cX3_putInQueue 5 = .ok (.iaload, 1) := by decide +kernel
theorem dX3_putInQueue_6 : decode cX3_putInQueue 6 = .ok (.bipush 6, 2) := by decide +kernel
theorem dX3_putInQueue_8 : decode cX3_putInQueue 8 = .ok (.if_icmp .lt 4, 3) := by decide +kernel
theorem dX3_putInQueue_11 : decode cX3_putInQueue 11 = .ok (.return_, 1) := by decide +kernel
theorem dX3_putInQueue_12 : decode cX3_putInQueue 12 = .ok (.iload_n 2, 1) := by decide +kernel
theorem dX3_putInQueue_13 : decode cX3_putInQueue 13 = .ok (.bipush 6, 2) := by decide +kernel
theorem dX3_putInQueue_15 : decode cX3_putInQueue 15 = .ok (.imul, 1) := by decide +kernel
theorem dX3_putInQueue_16 : decode cX3_putInQueue 16 = .ok (.aload_n 0, 1) := by decide +kernel
theorem dX3_putInQueue_17 : decode cX3_putInQueue 17 = .ok (.getfield 36, 3) := by decide +kernel
theorem dX3_putInQueue_20 : decode cX3_putInQueue 20 = .ok (.iload_n 2, 1) := by decide +kernel
theorem dX3_putInQueue_21 : decode cX3_putInQueue 21 = .ok (.iaload, 1) := by decide +kernel
theorem dX3_putInQueue_22 : decode cX3_putInQueue 22 = .ok (.iadd, 1) := by decide +kernel
theorem dX3_putInQueue_23 : decode cX3_putInQueue 23 = .ok (.istore 4, 2) := by decide +kernel
theorem dX3_putInQueue_25 : decode cX3_putInQueue 25 = .ok (.aload_n 0, 1) := by decide +kernel
theorem dX3_putInQueue_26 : decode cX3_putInQueue 26 = .ok (.getfield 39, 3) := by decide +kernel
theorem dX3_putInQueue_29 : decode cX3_putInQueue 29 = .ok (.iload 4, 2) := by decide +kernel
theorem dX3_putInQueue_31 : decode cX3_putInQueue 31 = .ok (.iload_n 1, 1) := by decide +kernel
theorem dX3_putInQueue_32 : decode cX3_putInQueue 32 = .ok (.iastore, 1) := by decide +kernel
theorem dX3_putInQueue_33 : decode cX3_putInQueue 33 = .ok (.aload_n 0, 1) := by decide +kernel
theorem dX3_putInQueue_34 : decode cX3_putInQueue 34 = .ok (.getfield 42, 3) := by decide +kernel
theorem dX3_putInQueue_37 : decode cX3_putInQueue 37 = .ok (.iload 4, 2) := by decide +kernel
theorem dX3_putInQueue_39 : decode cX3_putInQueue 39 = .ok (.iload_n 3, 1) := by decide +kernel
theorem dX3_putInQueue_40 : decode cX3_putInQueue 40 = .ok (.iastore, 1) := by decide +kernel
theorem dX3_putInQueue_41 : decode cX3_putInQueue 41 = .ok (.aload_n 0, 1) := by decide +kernel
theorem dX3_putInQueue_42 : decode cX3_putInQueue 42 = .ok (.getfield 36, 3) := by decide +kernel
theorem dX3_putInQueue_45 : decode cX3_putInQueue 45 = .ok (.iload_n 2, 1) := by decide +kernel
theorem dX3_putInQueue_46 : decode cX3_putInQueue 46 = .ok (.dup2, 1) := by decide +kernel
theorem dX3_putInQueue_47 : decode cX3_putInQueue 47 = .ok (.iaload, 1) := by decide +kernel
theorem dX3_putInQueue_48 : decode cX3_putInQueue 48 = .ok (.iconst 1, 1) := by decide +kernel
theorem dX3_putInQueue_49 : decode cX3_putInQueue 49 = .ok (.iadd, 1) := by decide +kernel
theorem dX3_putInQueue_50 : decode cX3_putInQueue 50 = .ok (.iastore, 1) := by decide +kernel
theorem dX3_putInQueue_51 : decode cX3_putInQueue 51 = .ok (.return_, 1) := by decide +kernel
theorem dX3_doWhatIsAtHand_0 : decode cX3_doWhatIsAtHand 0 = .ok (.aload_n 0, 1) := by decide +kernel
theorem dX3_doWhatIsAtHand_1 : decode cX3_doWhatIsAtHand 1 = .ok (.getfield 12, 3) := by decide +kernel
theorem dX3_doWhatIsAtHand_4 : decode cX3_doWhatIsAtHand 4 = .ok (.getfield 67, 3) := by decide +kernel
theorem dX3_doWhatIsAtHand_7 : decode cX3_doWhatIsAtHand 7 = .ok (.iconst 4, 1) := by decide +kernel
theorem dX3_doWhatIsAtHand_8 : decode cX3_doWhatIsAtHand 8 = .ok (.imul, 1) := by decide +kernel
theorem dX3_doWhatIsAtHand_9 : decode cX3_doWhatIsAtHand 9 = .ok (.aload_n 0, 1) := by decide +kernel
theorem dX3_doWhatIsAtHand_10 : decode cX3_doWhatIsAtHand 10 = .ok (.getfield 12, 3) := by decide +kernel
theorem dX3_doWhatIsAtHand_13 : decode cX3_doWhatIsAtHand 13 = .ok (.getfield 70, 3) := by decide +kernel
theorem dX3_doWhatIsAtHand_16 : decode cX3_doWhatIsAtHand 16 = .ok (.iadd, 1) := by decide +kernel
theorem dX3_doWhatIsAtHand_17 : decode cX3_doWhatIsAtHand 17 = .ok (.istore_n 1, 1) := by decide +kernel
theorem dX3_doWhatIsAtHand_18 : decode cX3_doWhatIsAtHand 18 = .ok (.aload_n 0, 1) := by decide +kernel
theorem dX3_doWhatIsAtHand_19 : decode cX3_doWhatIsAtHand 19 = .ok (.getfield 12, 3) := by decide +kernel
theorem dX3_doWhatIsAtHand_22 : decode cX3_doWhatIsAtHand 22 = .ok (.getfield 73, 3) := by decide +kernel
theorem dX3_doWhatIsAtHand_25 : decode cX3_doWhatIsAtHand 25 = .ok (.ifCond .eq 16, 3) := by decide +kernel
theorem dX3_doWhatIsAtHand_28 : decode cX3_doWhatIsAtHand 28 = .ok (.aload_n 0, 1) := by decide +kernel
theorem dX3_doWhatIsAtHand_29 : decode cX3_doWhatIsAtHand 29 = .ok (.getfield 32, 3) := by decide +kernel
theorem dX3_doWhatIsAtHand_32 : decode cX3_doWhatIsAtHand 32 = .ok (.iload_n 1, 1) := by decide +kernel
theorem dX3_doWhatIsAtHand_33 : decode cX3_doWhatIsAtHand 33 = .ok (.aload_n 0, 1) := by decide +kernel
theorem dX3_doWhatIsAtHand_34 : decode cX3_doWhatIsAtHand 34 = .ok (.getfield 12, 3) := by decide +kernel
theorem dX3_doWhatIsAtHand_37 : decode cX3_doWhatIsAtHand 37 = .ok (.getfield 77, 3) := by decide +kernel
theorem dX3_doWhatIsAtHand_40 : decode cX3_doWhatIsAtHand 40 = .ok (.lastore, 1) := by decide +kernel
theorem dX3_doWhatIsAtHand_41 : decode cX3_doWhatIsAtHand 41 = .ok (.aload_n 0, 1) := by decide +kernel
theorem dX3_doWhatIsAtHand_42 : decode cX3_doWhatIsAtHand 42 = .ok (.getfield 12, 3) := by decide +kernel
theorem dX3_doWhatIsAtHand_45 : decode cX3_doWhatIsAtHand 45 = .ok (.aload_n 0, 1) := by decide +kernel
theorem dX3_doWhatIsAtHand_46 : decode cX3_doWhatIsAtHand 46 = .ok (.getfield 32, 3) := by decide +kernel
theorem dX3_doWhatIsAtHand_49 : decode cX3_doWhatIsAtHand 49 = .ok (.iload_n 1, 1) := by decide +kernel
theorem dX3_doWhatIsAtHand_50 : decode cX3_doWhatIsAtHand 50 = .ok (.laload, 1) := by decide +kernel
theorem dX3_doWhatIsAtHand_51 : decode cX3_doWhatIsAtHand 51 = .ok (.putfield 81, 3) := by decide +kernel
theorem dX3_doWhatIsAtHand_54 : decode cX3_doWhatIsAtHand 54 = .ok (.aload_n 0, 1) := by decide +kernel
theorem dX3_doWhatIsAtHand_55 : decode cX3_doWhatIsAtHand 55 = .ok (.getfield 12, 3) := by decide +kernel
theorem dX3_doWhatIsAtHand_58 : decode cX3_doWhatIsAtHand 58 = .ok (.iconst 0, 1) := by decide +kernel
theorem dX3_doWhatIsAtHand_59 : decode cX3_doWhatIsAtHand 59 = .ok (.putfield 84, 3) := by decide +kernel
theorem dX3_doWhatIsAtHand_62 : decode cX3_doWhatIsAtHand 62 = .ok (.aload_n 0, 1) := by decide +kernel
theorem dX3_doWhatIsAtHand_63 : decode cX3_doWhatIsAtHand 63 = .ok (.getfield 12, 3) := by decide +kernel
theorem dX3_doWhatIsAtHand_66 : decode cX3_doWhatIsAtHand 66 = .ok (.dup, 1) := by decide +kernel
theorem dX3_doWhatIsAtHand_67 : decode cX3_doWhatIsAtHand 67 = .ok (.getfield 87, 3) := by decide +kernel
theorem dX3_doWhatIsAtHand_70 : decode cX3_doWhatIsAtHand 70 = .ok (.iconst 1, 1) := by decide +kernel
theorem dX3_doWhatIsAtHand_71 : decode cX3_doWhatIsAtHand 71 = .ok (.iadd, 1) := by decide +kernel
theorem dX3_doWhatIsAtHand_72 : decode cX3_doWhatIsAtHand 72 = .ok (.putfield 87, 3) := by decide +kernel
theorem dX3_doWhatIsAtHand_75 : decode cX3_doWhatIsAtHand 75 = .ok (.return_, 1) := by decide +kernel
set_option maxRecDepth 20000 in
theorem ggX4_init_X2_init : GoodIn wsX4_init wsX2_init := goodIn_r _ [16, 17, 2, 3, 18, 19, 20, 21, 22, 23, 24, 25, 26, 96, 97, 108, 109, 110, 111, 112, 113, 114] (by decide +kernel) (by decide +kernel)
set_option maxRecDepth 20000 in
theorem gX4_init_X2_init : GoodIn wsX4_init (wsX2_init) := ggX4_init_X2_init
set_option maxRecDepth 20000 in
theorem ggX4_init_X3_init : GoodIn wsX4_init wsX3_init := goodIn_r _ [29, 30, 2, 3, 31, 32, 33, 34, 10, 35, 36, 37, 38, 39, 25, 40, 41, 42, 43, 44, 45, 46, 47, 115, 116, 117, 118, 119, 120, 121, 122, 123, 124, 98, 99, 100, 101, 102, 103, 104, 105, 106, 107] (by decide +kernel) (by decide +kernel)
set_option maxRecDepth 20000 in
theorem gX4_init_X3_init : GoodIn wsX4_init (wsX3_init) := ggX4_init_X3_init
set_option maxRecDepth 20000 in
theorem ggX4_init_X4_startAnew : GoodIn wsX4_init wsX4_startAnew := goodIn_r _ [52, 53, 5, 9, 54, 11, 55, 56, 57, 13, 58, 34, 40, 59, 60, 61, 62, 37, 44, 35, 38, 39, 41, 63, 64, 65, 33, 66, 67, 68, 69, 70, 71, 72, 73, 74, 75, 76, 77, 78, 79, 80, 81, 82, 83, 84, 85, 86, 87, 88, 89, 90, 91, 92, 93, 94, 95, 96, 97, 98, 99, 100, 101, 102, 103, 104, 105, 106, 107, 115, 116, 117, 118, 119, 120, 121, 122, 123, 124] (by decide +kernel) (by decide +kernel)
set_option maxRecDepth 20000 in
theorem gX4_init_X4_startAnew : GoodIn wsX4_init (wsV RX4 29 RX4 yX4_startAnew wsX4_startAnew) := goodIn_app (goodIn_of _ (by decide +kernel)) ggX4_init_X4_startAnew
