theorem inlX0 : ∀ w ∈ wsX00, w ∈ wsL_law := fun _ h => List.mem_append_left _ (List.mem_append_left _ (List.mem_append_left _ (List.mem_append_left _ (List.mem_append_right _ h))))
theorem inX0 : ∀ w ∈ wsX00, w ∈ lw_tbl := fun w h => wsL_law_in w (inlX0 w h)
theorem inlX1 : ∀ w ∈ wsX10, w ∈ wsL_law := fun _ h => List.mem_append_left _ (List.mem_append_left _ (List.mem_append_right _ h))
theorem inX1 : ∀ w ∈ wsX10, w ∈ lw_tbl := fun w h => wsL_law_in w (inlX1 w h)
theorem inlX2 : ∀ w ∈ wsX20, w ∈ wsL_law := fun _ h => List.mem_append_left _ (List.mem_append_left _ (List.mem_append_left _ (List.mem_append_right _ h)))
theorem inX2 : ∀ w ∈ wsX20, w ∈ lw_tbl := fun w h => wsL_law_in w (inlX2 w h)
theorem inlX3 : ∀ w ∈ wsX30, w ∈ wsL_law := fun _ h => List.mem_append_left _ (List.mem_append_left _ (List.mem_append_left _ (List.mem_append_left _ (List.mem_append_left _ (List.mem_append_left _ (List.mem_append_right _ h))))))
theorem inX3 : ∀ w ∈ wsX30, w ∈ lw_tbl := fun w h => wsL_law_in w (inlX3 w h)
theorem inlX4 : ∀ w ∈ wsX40, w ∈ wsL_law := fun _ h => List.mem_append_left _ (List.mem_append_left _ (List.mem_append_left _ (List.mem_append_left _ (List.mem_append_left _ (List.mem_append_right _ h)))))
theorem inX4 : ∀ w ∈ wsX40, w ∈ lw_tbl := fun w h => wsL_law_in w (inlX4 w h)
theorem inlX5 : ∀ w ∈ wsX50, w ∈ wsL_law := fun _ h => List.mem_append_left _ (List.mem_append_right _ h)
theorem inX5 : ∀ w ∈ wsX50, w ∈ lw_tbl := fun w h => wsL_law_in w (inlX5 w h)
theorem inlX6 : ∀ w ∈ wsX60, w ∈ wsL_law := fun _ h => List.mem_append_left _ (List.mem_append_left _ (List.mem_append_left _ (List.mem_append_left _ (List.mem_append_left _ (List.mem_append_left _ (List.mem_append_left _ (List.mem_append_left _ (List.mem_append_right _ h))))))))
theorem inX6 : ∀ w ∈ wsX60, w ∈ lw_tbl := fun w h => wsL_law_in w (inlX6 w h)
theorem inlX7 : ∀ w ∈ wsX70, w ∈ wsL_law := fun _ h => List.mem_append_left _ (List.mem_append_left _ (List.mem_append_left _ (List.mem_append_left _ (List.mem_append_left _ (List.mem_append_left _ (List.mem_append_left _ (List.mem_append_right _ h)))))))
theorem inX7 : ∀ w ∈ wsX70, w ∈ lw_tbl := fun w h => wsL_law_in w (inlX7 w h)
theorem inJ9 : ∀ w ∈ wsJ90, w ∈ lw_tbl := by decide +kernel
theorem inJ0 : ∀ w ∈ wsJ00, w ∈ lw_tbl := by decide +kernel
theorem inJ1 : ∀ w ∈ wsJ10, w ∈ lw_tbl := by decide +kernel
theorem inJ2 : ∀ w ∈ wsJ20, w ∈ lw_tbl := by decide +kernel
theorem inJ3 : ∀ w ∈ wsJ30, w ∈ lw_tbl := by decide +kernel
theorem dX0_init_0 : decode cX0_init 0 = .ok (.aload_n 0, 1) := by decide +kernel
theorem dX0_init_1 : decode cX0_init 1 = .ok (.invokespecial 3, 3) := by decide +kernel
theorem dX0_init_4 : decode cX0_init 4 = .ok (.return_, 1) := by decide +kernel
theorem dX0_startFull_0 : decode cX0_startFull 0 = .ok (.aload_n 0, 1) := by decide +kernel
theorem dX0_startFull_1 : decode cX0_startFull 1 = .ok (.iconst 0, 1) := by decide +kernel
theorem dX0_startFull_2 : decode cX0_startFull 2 = .ok (.putfield 9, 3) := by decide +kernel
theorem dX0_startFull_5 : decode cX0_startFull 5 = .ok (.aload_n 0, 1) := by decide +kernel
theorem dX0_startFull_6 : decode cX0_startFull 6 = .ok (.bipush 100, 2) := by decide +kernel
theorem dX0_startFull_8 : decode cX0_startFull 8 = .ok (.putfield 15, 3) := by decide +kernel
theorem dX0_startFull_11 : decode cX0_startFull 11 = .ok (.aload_n 0, 1) := by decide +kernel
theorem dX0_startFull_12 : decode cX0_startFull 12 = .ok (.iconst 0, 1) := by decide +kernel
theorem dX0_startFull_13 : decode cX0_startFull 13 = .ok (.putfield 18, 3) := by decide +kernel
theorem dX0_startFull_16 : decode cX0_startFull 16 = .ok (.aload_n 0, 1) := by decide +kernel
theorem dX0_startFull_17 : decode cX0_startFull 17 = .ok (.iconst 0, 1) := by decide +kernel
theorem dX0_startFull_18 : decode cX0_startFull 18 = .ok (.putfield 21, 3) := by decide +kernel
theorem dX0_startFull_21 : decode cX0_startFull 21 = .ok (.aload_n 0, 1) := by decide +kernel
theorem dX0_startFull_22 : decode cX0_startFull 22 = .ok (.iconst 0, 1) := by decide +kernel
theorem dX0_startFull_23 : decode cX0_startFull 23 = .ok (.putfield 24, 3) := by decide +kernel
theorem dX0_startFull_26 : decode cX0_startFull 26 = .ok (.aload_n 0, 1) := by decide +kernel
theorem dX0_startFull_27 : decode cX0_startFull 27 = .ok (.iconst 0, 1) := by decide +kernel
theorem dX0_startFull_28 : decode cX0_startFull 28 = .ok (.putfield 27, 3) := by decide +kernel
theorem dX0_startFull_31 : decode cX0_startFull 31 = .ok (.aload_n 0, 1) := by decide +kernel
theorem dX0_startFull_32 : decode cX0_startFull 32 = .ok (.iconst 0, 1) := by decide +kernel
theorem dX0_startFull_33 : decode cX0_startFull 33 = .ok (.putfield 30, 3) := by decide +kernel
theorem dX0_startFull_36 : decode cX0_startFull 36 = .ok (.return_, 1) := by decide +kernel
set_option maxRecDepth 20000 in
theorem ggX0_startEmpty_X0_startFull : GoodIn wsX0_startEmpty wsX0_startFull := goodIn_r _ [8, 1, 3, 9, 10, 11, 12, 13, 21, 22, 23, 24, 25, 26, 27] (by decide +kernel) (by decide +kernel)
set_option maxRecDepth 20000 in
theorem gX0_startEmpty_X0_startFull : GoodIn wsX0_startEmpty (wsV RX0 33 RX0 yX0_startFull wsX0_startFull) := goodIn_app (goodIn_of _ (by decide +kernel)) ggX0_startEmpty_X0_startFull
set_option maxRecDepth 20000 in
theorem ggX0_startEmpty_X4_depth : GoodIn wsX0_startEmpty wsX4_depth := goodIn_r _ [18, 19, 20, 28, 29, 30, 31, 32, 33, 34, 35, 36, 37, 38] (by decide +kernel) (by decide +kernel)
set_option maxRecDepth 20000 in
theorem gX0_startEmpty_X4_depth : GoodIn wsX0_startEmpty (wsV RX0 36 RX4 yX4_depth wsX4_depth) := goodIn_app (goodIn_of _ (by decide +kernel)) ggX0_startEmpty_X4_depth
theorem dX0_startEmpty_0 : decode cX0_startEmpty 0 = .ok (.aload_n 0, 1) := by decide +kernel
theorem dX0_startEmpty_1 : decode cX0_startEmpty 1 = .ok (.invokevirtual 33, 3) := by decide +kernel
theorem dX0_startEmpty_4 : decode cX0_startEmpty 4 = .ok (.aload_n 0, 1) := by decide +kernel
theorem dX0_startEmpty_5 : decode cX0_startEmpty 5 = .ok (.aload_n 1, 1) := by decide +kernel
theorem dX0_startEmpty_6 : decode cX0_startEmpty 6 = .ok (.iconst 0, 1) := by decide +kernel
theorem dX0_startEmpty_7 : decode cX0_startEmpty 7 = .ok (.invokevirtual 36, 3) := by decide +kernel
theorem dX0_startEmpty_10 : decode cX0_startEmpty 10 = .ok (.putfield 9, 3) := by decide +kernel
theorem dX0_startEmpty_13 : decode cX0_startEmpty 13 = .ok (.aload_n 0, 1) := by decide +kernel
theorem dX0_startEmpty_14 : decode cX0_startEmpty 14 = .ok (.aload_n 1, 1) := by decide +kernel
theorem dX0_startEmpty_15 : decode cX0_startEmpty 15 = .ok (.getfield 42, 3) := by decide +kernel
theorem dX0_startEmpty_18 : decode cX0_startEmpty 18 = .ok (.putfield 15, 3) := by decide +kernel
theorem dX0_startEmpty_21 : decode cX0_startEmpty 21 = .ok (.return_, 1) := by decide +kernel
theorem dX0_beLike_0 : decode cX0_beLike 0 = .ok (.aload_n 0, 1) := by decide +kernel
theorem dX0_beLike_1 : decode cX0_beLike 1 = .ok (.aload_n 1, 1) := by decide +kernel
theorem dX0_beLike_2 : decode cX0_beLike 2 = .ok (.getfield 9, 3) := by decide +kernel
theorem dX0_beLike_5 : decode cX0_beLike 5 = .ok (.putfield 9, 3) := by decide +kernel
theorem dX0_beLike_8 : decode cX0_beLike 8 = .ok (.aload_n 0, 1) := by decide +kernel
theorem dX0_beLike_9 : decode cX0_beLike 9 = .ok (.aload_n 1, 1) := by decide +kernel
theorem dX0_beLike_10 : decode cX0_beLike 10 = .ok (.getfield 15, 3) := by decide +kernel
theorem dX0_beLike_13 : decode cX0_beLike 13 = .ok (.putfield 15, 3) := by decide +kernel
theorem dX0_beLike_16 : decode cX0_beLike 16 = .ok (.aload_n 0, 1) := by decide +kernel
theorem dX0_beLike_17 : decode cX0_beLike 17 = .ok (.aload_n 1, 1) := by decide +kernel
theorem dX0_beLike_18 : decode cX0_beLike 18 = .ok (.getfield 18, 3) := by decide +kernel
theorem dX0_beLike_21 : decode cX0_beLike 21 = .ok (.putfield 18, 3) := by decide +kernel
theorem dX0_beLike_24 : decode cX0_beLike 24 = .ok (.aload_n 0, 1) := by decide +kernel
theorem dX0_beLike_25 : decode cX0_beLike 25 = .ok (.aload_n 1, 1) := by decide +kernel
theorem dX0_beLike_26 : decode cX0_beLike 26 = .ok (.getfield 21, 3) := by decide +kernel
theorem dX0_beLike_29 : decode cX0_beLike 29 = .ok (.putfield 21, 3) := by decide +kernel
theorem dX0_beLike_32 : decode cX0_beLike 32 = .ok (.aload_n 0, 1) := by decide +kernel
theorem dX0_beLike_33 : decode cX0_beLike 33 = .ok (.aload_n 1, 1) := by decide +kernel
theorem dX0_beLike_34 : decode cX0_beLike 34 = .ok (.getfield 24, 3) := by decide +kernel
theorem dX0_beLike_37 : decode cX0_beLike 37 = .ok (.putfield 24, 3) := by decide +kernel
theorem dX0_beLike_40 : decode cX0_beLike 40 = .ok (.aload_n 0, 1) := by decide +kernel
theorem dX0_beLike_41 : decode cX0_beLike 41 = .ok (.aload_n 1, 1) := by decide +kernel
theorem dX0_beLike_42 : decode cX0_beLike 42 = .ok (.getfield 27, 3) := by decide +kernel
theorem dX0_beLike_45 : decode cX0_beLike 45 = .ok (.putfield 27, 3) := by decide +kernel
theorem dX0_beLike_48 : decode cX0_beLike 48 = .ok (.aload_n 0, 1) := by decide +kernel
theorem dX0_beLike_49 : decode cX0_beLike 49 = .ok (.aload_n 1, 1) := by decide +kernel
theorem dX0_beLike_50 : decode cX0_beLike 50 = .ok (.getfield 30, 3) := by decide +kernel
theorem dX0_beLike_53 : decode cX0_beLike 53 = .ok (.putfield 30, 3) := by decide +kernel
theorem dX0_beLike_56 : decode cX0_beLike 56 = .ok (.return_, 1) := by decide +kernel
set_option maxRecDepth 20000 in
theorem ggX0_pull_X0_pullOnce : GoodIn wsX0_pull wsX0_pullOnce := goodIn_r _ [7, 8, 9, 1, 10, 11, 12, 13, 14, 15, 16, 17, 18, 19, 20, 21, 22, 23, 24, 25, 26, 27, 28, 29, 30, 31, 32, 33, 34, 35, 36, 37, 38, 39, 40, 41, 42, 43, 44, 45, 46, 47, 48, 49, 50, 51, 52, 53, 54, 55, 56, 57, 58, 59, 60, 61, 62] (by decide +kernel) (by decide +kernel)
set_option maxRecDepth 20000 in
theorem gX0_pull_X0_pullOnce : GoodIn wsX0_pull (wsV RX0 43 RX0 yX0_pullOnce wsX0_pullOnce) := goodIn_app (goodIn_of _ (by decide +kernel)) ggX0_pull_X0_pullOnce
theorem dX0_pull_0 : decode cX0_pull 0 = .ok (.iconst 0, 1) := by decide +kernel
theorem dX0_pull_1 : decode cX0_pull 1 = .ok (.istore_n 3, 1) := by decide +kernel
theorem dX0_pull_2 : decode cX0_pull 2 = .ok (.iconst 0, 1) := by decide +kernel
theorem dX0_pull_3 : decode cX0_pull 3 = .ok (.istore 4, 2) := by decide +kernel
theorem dX0_pull_5 : decode cX0_pull 5 = .ok (.iload 4, 2) := by decide +kernel
theorem dX0_pull_7 : decode cX0_pull 7 = .ok (.iload_n 2, 1) := by decide +kernel
theorem dX0_pull_8 : decode cX0_pull 8 = .ok (.if_icmp .ge 44, 3) := by decide +kernel
theorem dX0_pull_11 : decode cX0_pull 11 = .ok (.aload_n 0, 1) := by decide +kernel
theorem dX0_pull_12 : decode cX0_pull 12 = .ok (.getfield 9, 3) := by decide +kernel
theorem dX0_pull_15 : decode cX0_pull 15 = .ok (.istore 5, 2) := by decide +kernel
theorem dX0_pull_17 : decode cX0_pull 17 = .ok (.aload_n 0, 1) := by decide +kernel
theorem dX0_pull_18 : decode cX0_pull 18 = .ok (.aload_n 1, 1) := by decide +kernel
theorem dX0_pull_19 : decode cX0_pull 19 = .ok (.invokevirtual 43, 3) := by decide +kernel
theorem dX0_pull_22 : decode cX0_pull 22 = .ok (.istore 6, 2) := by decide +kernel
theorem dX0_pull_24 : decode cX0_pull 24 = .ok (.iload_n 3, 1) := by decide +kernel
theorem dX0_pull_25 : decode cX0_pull 25 = .ok (.iload 6, 2) := by decide +kernel
theorem dX0_pull_27 : decode cX0_pull 27 = .ok (.iadd, 1) := by decide +kernel
theorem dX0_pull_28 : decode cX0_pull 28 = .ok (.istore_n 3, 1) := by decide +kernel
theorem dX0_pull_29 : decode cX0_pull 29 = .ok (.iload 6, 2) := by decide +kernel
theorem dX0_pull_31 : decode cX0_pull 31 = .ok (.ifCond .ne 15, 3) := by decide +kernel
theorem dX0_pull_34 : decode cX0_pull 34 = .ok (.aload_n 0, 1) := by decide +kernel
theorem dX0_pull_35 : decode cX0_pull 35 = .ok (.getfield 9, 3) := by decide +kernel
theorem dX0_pull_38 : decode cX0_pull 38 = .ok (.iload 5, 2) := by decide +kernel
theorem dX0_pull_40 : decode cX0_pull 40 = .ok (.if_icmp .ne 6, 3) := by decide +kernel
theorem dX0_pull_43 : decode cX0_pull 43 = .ok (.goto 9, 3) := by decide +kernel
theorem dX0_pull_46 : decode cX0_pull 46 = .ok (.iinc 4 1, 3) := by decide +kernel
theorem dX0_pull_49 : decode cX0_pull 49 = .ok (.goto (-44), 3) := by decide +kernel
theorem dX0_pull_52 : decode cX0_pull 52 = .ok (.aload_n 0, 1) := by decide +kernel
theorem dX0_pull_53 : decode cX0_pull 53 = .ok (.dup, 1) := by decide +kernel
theorem dX0_pull_54 : decode cX0_pull 54 = .ok (.getfield 24, 3) := by decide +kernel
theorem dX0_pull_57 : decode cX0_pull 57 = .ok (.iload_n 2, 1) := by decide +kernel
theorem dX0_pull_58 : decode cX0_pull 58 = .ok (.iadd, 1) := by decide +kernel
theorem dX0_pull_59 : decode cX0_pull 59 = .ok (.putfield 24, 3) := by decide +kernel
theorem dX0_pull_62 : decode cX0_pull 62 = .ok (.iload_n 3, 1) := by decide +kernel
theorem dX0_pull_63 : decode cX0_pull 63 = .ok (.ireturn, 1) := by decide +kernel
set_option maxRecDepth 20000 in
theorem ggX0_pullOnce_X4_depth : GoodIn wsX0_pullOnce wsX4_depth := goodIn_r _ [17, 18, 19, 46, 47, 48, 49, 50, 51, 52, 53, 54, 55, 56] (by decide +kernel) (by decide +kernel)
set_option maxRecDepth 20000 in
theorem gX0_pullOnce_X4_depth : GoodIn wsX0_pullOnce (wsV RX0 36 RX4 yX4_depth wsX4_depth) := goodIn_app (goodIn_of _ (by decide +kernel)) ggX0_pullOnce_X4_depth
set_option maxRecDepth 20000 in
theorem ggX0_pullOnce_X4_gain : GoodIn wsX0_pullOnce wsX4_gain := goodIn_r _ [23, 24, 25, 26, 6, 7, 8, 27, 28, 29, 16, 30, 31, 32, 46, 47, 48, 49, 50, 51, 52, 53, 54, 55, 56] (by decide +kernel) (by decide +kernel)
set_option maxRecDepth 20000 in
theorem gX0_pullOnce_X4_gain : GoodIn wsX0_pullOnce (wsV RX0 47 RX4 yX4_gain wsX4_gain) := goodIn_app (goodIn_of _ (by decide +kernel)) ggX0_pullOnce_X4_gain
set_option maxRecDepth 20000 in
theorem ggX0_pullOnce_X4_lift : GoodIn wsX0_pullOnce wsX4_lift := goodIn_r _ [36, 37, 38, 46, 47, 48, 49, 50, 51, 52, 53, 54, 55, 56] (by decide +kernel) (by decide +kernel)
set_option maxRecDepth 20000 in
theorem gX0_pullOnce_X4_lift : GoodIn wsX0_pullOnce (wsV RX0 51 RX4 yX4_lift wsX4_lift) := goodIn_app (goodIn_of _ (by decide +kernel)) ggX0_pullOnce_X4_lift
theorem dX0_pullOnce_0 : decode cX0_pullOnce 0 = .ok (.aload_n 1, 1) := by decide +kernel
theorem dX0_pullOnce_1 : decode cX0_pullOnce 1 = .ok (.aload_n 0, 1) := by decide +kernel
theorem dX0_pullOnce_2 : decode cX0_pullOnce 2 = .ok (.getfield 18, 3) := by decide +kernel
theorem dX0_pullOnce_5 : decode cX0_pullOnce 5 = .ok (.invokevirtual 36, 3) := by decide +kernel
theorem dX0_pullOnce_8 : decode cX0_pullOnce 8 = .ok (.istore_n 2, 1) := by decide +kernel
theorem dX0_pullOnce_9 : decode cX0_pullOnce 9 = .ok (.aload_n 1, 1) := by decide +kernel
theorem dX0_pullOnce_10 : decode cX0_pullOnce 10 = .ok (.aload_n 0, 1) := by decide +kernel
theorem dX0_pullOnce_11 : decode cX0_pullOnce 11 = .ok (.getfield 15, 3) := by decide +kernel
theorem dX0_pullOnce_14 : decode cX0_pullOnce 14 = .ok (.iload_n 2, 1) := by decide +kernel
theorem dX0_pullOnce_15 : decode cX0_pullOnce 15 = .ok (.invokevirtual 47, 3) := by decide +kernel
theorem dX0_pullOnce_18 : decode cX0_pullOnce 18 = .ok (.istore_n 3, 1) := by decide +kernel
theorem dX0_pullOnce_19 : decode cX0_pullOnce 19 = .ok (.aload_n 0, 1) := by decide +kernel
theorem dX0_pullOnce_20 : decode cX0_pullOnce 20 = .ok (.iload_n 3, 1) := by decide +kernel
theorem dX0_pullOnce_21 : decode cX0_pullOnce 21 = .ok (.ifCond .le 15, 3) := by decide +kernel
theorem dX0_pullOnce_24 : decode cX0_pullOnce 24 = .ok (.iload_n 2, 1) := by decide +kernel
theorem dX0_pullOnce_25 : decode cX0_pullOnce 25 = .ok (.aload_n 0, 1) := by decide +kernel
theorem dX0_pullOnce_26 : decode cX0_pullOnce 26 = .ok (.getfield 9, 3) := by decide +kernel
theorem dX0_pullOnce_29 : decode cX0_pullOnce 29 = .ok (.isub, 1) := by decide +kernel
theorem dX0_pullOnce_30 : decode cX0_pullOnce 30 = .ok (.bipush 10, 2) := by decide +kernel
theorem dX0_pullOnce_32 : decode cX0_pullOnce 32 = .ok (.idiv, 1) := by decide +kernel
theorem dX0_pullOnce_33 : decode cX0_pullOnce 33 = .ok (.goto 4, 3) := by decide +kernel
theorem dX0_pullOnce_36 : decode cX0_pullOnce 36 = .ok (.iconst 0, 1) := by decide +kernel
theorem dX0_pullOnce_37 : decode cX0_pullOnce 37 = .ok (.putfield 30, 3) := by decide +kernel
theorem dX0_pullOnce_40 : decode cX0_pullOnce 40 = .ok (.iload_n 2, 1) := by decide +kernel
theorem dX0_pullOnce_41 : decode cX0_pullOnce 41 = .ok (.aload_n 1, 1) := by decide +kernel
theorem dX0_pullOnce_42 : decode cX0_pullOnce 42 = .ok (.invokevirtual 51, 3) := by decide +kernel
theorem dX0_pullOnce_45 : decode cX0_pullOnce 45 = .ok (.isub, 1) := by decide +kernel
theorem dX0_pullOnce_46 : decode cX0_pullOnce 46 = .ok (.istore 4, 2) := by decide +kernel
theorem dX0_pullOnce_48 : decode cX0_pullOnce 48 = .ok (.iload 4, 2) := by decide +kernel
theorem dX0_pullOnce_50 : decode cX0_pullOnce 50 = .ok (.ifCond .le 27, 3) := by decide +kernel
theorem dX0_pullOnce_53 : decode cX0_pullOnce 53 = .ok (.aload_n 0, 1) := by decide +kernel
theorem dX0_pullOnce_54 : decode cX0_pullOnce 54 = .ok (.aload_n 0, 1) := by decide +kernel
theorem dX0_pullOnce_55 : decode cX0_pullOnce 55 = .ok (.getfield 9, 3) := by decide +kernel
theorem dX0_pullOnce_58 : decode cX0_pullOnce 58 = .ok (.iload 4, 2) := by decide +kernel
theorem dX0_pullOnce_60 : decode cX0_pullOnce 60 = .ok (.aload_n 0, 1) := by decide +kernel
theorem dX0_pullOnce_61 : decode cX0_pullOnce 61 = .ok (.getfield 9, 3) := by decide +kernel
theorem dX0_pullOnce_64 : decode cX0_pullOnce 64 = .ok (.iload_n 3, 1) := by decide +kernel
theorem dX0_pullOnce_65 : decode cX0_pullOnce 65 = .ok (.isub, 1) := by decide +kernel
theorem dX0_pullOnce_66 : decode cX0_pullOnce 66 = .ok (.invokestatic 55, 3) := by decide +kernel
theorem dX0_pullOnce_69 : decode cX0_pullOnce 69 = .ok (.invokestatic 60, 3) := by decide +kernel
theorem dX0_pullOnce_72 : decode cX0_pullOnce 72 = .ok (.putfield 9, 3) := by decide +kernel
theorem dX0_pullOnce_75 : decode cX0_pullOnce 75 = .ok (.iconst 0, 1) := by decide +kernel
theorem dX0_pullOnce_76 : decode cX0_pullOnce 76 = .ok (.ireturn, 1) := by decide +kernel
theorem dX0_pullOnce_77 : decode cX0_pullOnce 77 = .ok (.iload_n 3, 1) := by decide +kernel
theorem dX0_pullOnce_78 : decode cX0_pullOnce 78 = .ok (.aload_n 0, 1) := by decide +kernel
theorem dX0_pullOnce_79 : decode cX0_pullOnce 79 = .ok (.getfield 9, 3) := by decide +kernel
theorem dX0_pullOnce_82 : decode cX0_pullOnce 82 = .ok (.if_icmp .gt 15, 3) := by decide +kernel
theorem dX0_pullOnce_85 : decode cX0_pullOnce 85 = .ok (.aload_n 0, 1) := by decide +kernel
theorem dX0_pullOnce_86 : decode cX0_pullOnce 86 = .ok (.dup, 1) := by decide +kernel
theorem dX0_pullOnce_87 : decode cX0_pullOnce 87 = .ok (.getfield 9, 3) := by decide +kernel
theorem dX0_pullOnce_90 : decode cX0_pullOnce 90 = .ok (.iload_n 3, 1) := by decide +kernel
theorem dX0_pullOnce_91 : decode cX0_pullOnce 91 = .ok (.isub, 1) := by decide +kernel
theorem dX0_pullOnce_92 : decode cX0_pullOnce 92 = .ok (.putfield 9, 3) := by decide +kernel
theorem dX0_pullOnce_95 : decode cX0_pullOnce 95 = .ok (.iconst 0, 1) := by decide +kernel
theorem dX0_pullOnce_96 : decode cX0_pullOnce 96 = .ok (.ireturn, 1) := by decide +kernel
theorem dX0_pullOnce_97 : decode cX0_pullOnce 97 = .ok (.iload_n 3, 1) := by decide +kernel
theorem dX0_pullOnce_98 : decode cX0_pullOnce 98 = .ok (.aload_n 0, 1) := by decide +kernel
theorem dX0_pullOnce_99 : decode cX0_pullOnce 99 = .ok (.getfield 9, 3) := by decide +kernel
theorem dX0_pullOnce_102 : decode cX0_pullOnce 102 = .ok (.isub, 1) := by decide +kernel
theorem dX0_pullOnce_103 : decode cX0_pullOnce 103 = .ok (.istore 5, 2) := by decide +kernel
theorem dX0_pullOnce_105 : decode cX0_pullOnce 105 = .ok (.aload_n 0, 1) := by decide +kernel
theorem dX0_pullOnce_106 : decode cX0_pullOnce 106 = .ok (.iconst 0, 1) := by decide +kernel
theorem dX0_pullOnce_107 : decode cX0_pullOnce 107 = .ok (.putfield 9, 3) := by decide +kernel
theorem dX0_pullOnce_110 : decode cX0_pullOnce 110 = .ok (.aload_n 0, 1) := by decide +kernel
theorem dX0_pullOnce_111 : decode cX0_pullOnce 111 = .ok (.bipush 100, 2) := by decide +kernel
theorem dX0_pullOnce_113 : decode cX0_pullOnce 113 = .ok (.putfield 15, 3) := by decide +kernel
theorem dX0_pullOnce_116 : decode cX0_pullOnce 116 = .ok (.aload_n 0, 1) := by decide +kernel
theorem dX0_pullOnce_117 : decode cX0_pullOnce 117 = .ok (.dup, 1) := by decide +kernel
theorem dX0_pullOnce_118 : decode cX0_pullOnce 118 = .ok (.getfield 18, 3) := by decide +kernel
theorem dX0_pullOnce_121 : decode cX0_pullOnce 121 = .ok (.iload 5, 2) := by decide +kernel
theorem dX0_pullOnce_123 : decode cX0_pullOnce 123 = .ok (.iadd, 1) := by decide +kernel
theorem dX0_pullOnce_124 : decode cX0_pullOnce 124 = .ok (.putfield 18, 3) := by decide +kernel
theorem dX0_pullOnce_127 : decode cX0_pullOnce 127 = .ok (.aload_n 0, 1) := by decide +kernel
theorem dX0_pullOnce_128 : decode cX0_pullOnce 128 = .ok (.dup, 1) := by decide +kernel
theorem dX0_pullOnce_129 : decode cX0_pullOnce 129 = .ok (.getfield 21, 3) := by decide +kernel
theorem dX0_pullOnce_132 : decode cX0_pullOnce 132 = .ok (.iload 5, 2) := by decide +kernel
theorem dX0_pullOnce_134 : decode cX0_pullOnce 134 = .ok (.iadd, 1) := by decide +kernel
theorem dX0_pullOnce_135 : decode cX0_pullOnce 135 = .ok (.putfield 21, 3) := by decide +kernel
theorem dX0_pullOnce_138 : decode cX0_pullOnce 138 = .ok (.iload 5, 2) := by decide +kernel
theorem dX0_pullOnce_140 : decode cX0_pullOnce 140 = .ok (.ireturn, 1) := by decide +kernel
set_option maxRecDepth 20000 in
theorem ggX0_pullsToWater_X4_depth : GoodIn wsX0_pullsToWater wsX4_depth := goodIn_r _ [8, 9, 10, 40, 41, 42, 43, 44, 45, 46, 47, 48, 49, 50] (by decide +kernel) (by decide +kernel)
set_option maxRecDepth 20000 in
theorem gX0_pullsToWater_X4_depth : GoodIn wsX0_pullsToWater (wsV RX0 36 RX4 yX4_depth wsX4_depth) := goodIn_app (goodIn_of _ (by decide +kernel)) ggX0_pullsToWater_X4_depth
set_option maxRecDepth 20000 in
theorem ggX0_pullsToWater_X4_gain : GoodIn wsX0_pullsToWater wsX4_gain := goodIn_r _ [14, 15, 16, 17, 18, 19, 20, 21, 22, 23, 7, 24, 25, 26, 40, 41, 42, 43, 44, 45, 46, 47, 48, 49, 50] (by decide +kernel) (by decide +kernel)
set_option maxRecDepth 20000 in
theorem gX0_pullsToWater_X4_gain : GoodIn wsX0_pullsToWater (wsV RX0 47 RX4 yX4_gain wsX4_gain) := goodIn_app (goodIn_of _ (by decide +kernel)) ggX0_pullsToWater_X4_gain
set_option maxRecDepth 20000 in
theorem ggX0_pullsToWater_X4_lift : GoodIn wsX0_pullsToWater wsX4_lift := goodIn_r _ [30, 31, 32, 40, 41, 42, 43, 44, 45, 46, 47, 48, 49, 50] (by decide +kernel) (by decide +kernel)
set_option maxRecDepth 20000 in
theorem gX0_pullsToWater_X4_lift : GoodIn wsX0_pullsToWater (wsV RX0 51 RX4 yX4_lift wsX4_lift) := goodIn_app (goodIn_of _ (by decide +kernel)) ggX0_pullsToWater_X4_lift
theorem dX0_pullsToWater_0 : decode cX0_pullsToWater 0 = .ok (.aload_n 1, 1) := by decide +kernel
theorem dX0_pullsToWater_1 : decode cX0_pullsToWater 1 = .ok (.aload_n 0, 1) := by decide +kernel
theorem dX0_pullsToWater_2 : decode cX0_pullsToWater 2 = .ok (.getfield 18, 3) := by decide +kernel
theorem dX0_pullsToWater_5 : decode cX0_pullsToWater 5 = .ok (.invokevirtual 36, 3) := by decide +kernel
theorem dX0_pullsToWater_8 : decode cX0_pullsToWater 8 = .ok (.istore_n 2, 1) := by decide +kernel
theorem dX0_pullsToWater_9 : decode cX0_pullsToWater 9 = .ok (.aload_n 1, 1) := by decide +kernel
theorem dX0_pullsToWater_10 : decode cX0_pullsToWater 10 = .ok (.aload_n 0, 1) := by decide +kernel
theorem dX0_pullsToWater_11 : decode cX0_pullsToWater 11 = .ok (.getfield 15, 3) := by decide +kernel
theorem dX0_pullsToWater_14 : decode cX0_pullsToWater 14 = .ok (.iload_n 2, 1) := by decide +kernel
theorem dX0_pullsToWater_15 : decode cX0_pullsToWater 15 = .ok (.invokevirtual 47, 3) := by decide +kernel
theorem dX0_pullsToWater_18 : decode cX0_pullsToWater 18 = .ok (.istore_n 3, 1) := by decide +kernel
theorem dX0_pullsToWater_19 : decode cX0_pullsToWater 19 = .ok (.iload_n 3, 1) := by decide +kernel
theorem dX0_pullsToWater_20 : decode cX0_pullsToWater 20 = .ok (.ifCond .le 11, 3) := by decide +kernel
theorem dX0_pullsToWater_23 : decode cX0_pullsToWater 23 = .ok (.iload_n 2, 1) := by decide +kernel
theorem dX0_pullsToWater_24 : decode cX0_pullsToWater 24 = .ok (.aload_n 1, 1) := by decide +kernel
theorem dX0_pullsToWater_25 : decode cX0_pullsToWater 25 = .ok (.invokevirtual 51, 3) := by decide +kernel
theorem dX0_pullsToWater_28 : decode cX0_pullsToWater 28 = .ok (.if_icmp .le 5, 3) := by decide +kernel
theorem dX0_pullsToWater_31 : decode cX0_pullsToWater 31 = .ok (.iconst 0, 1) := by decide +kernel
theorem dX0_pullsToWater_32 : decode cX0_pullsToWater 32 = .ok (.ireturn, 1) := by decide +kernel
theorem dX0_pullsToWater_33 : decode cX0_pullsToWater 33 = .ok (.aload_n 0, 1) := by decide +kernel
theorem dX0_pullsToWater_34 : decode cX0_pullsToWater 34 = .ok (.getfield 9, 3) := by decide +kernel
theorem dX0_pullsToWater_37 : decode cX0_pullsToWater 37 = .ok (.iload_n 3, 1) := by decide +kernel
theorem dX0_pullsToWater_38 : decode cX0_pullsToWater 38 = .ok (.idiv, 1) := by decide +kernel
theorem dX0_pullsToWater_39 : decode cX0_pullsToWater 39 = .ok (.iconst 1, 1) := by decide +kernel
theorem dX0_pullsToWater_40 : decode cX0_pullsToWater 40 = .ok (.iadd, 1) := by decide +kernel
theorem dX0_pullsToWater_41 : decode cX0_pullsToWater 41 = .ok (.istore 4, 2) := by decide +kernel
theorem dX0_pullsToWater_43 : decode cX0_pullsToWater 43 = .ok (.iload 4, 2) := by decide +kernel
theorem dX0_pullsToWater_45 : decode cX0_pullsToWater 45 = .ok (.sipush 200, 3) := by decide +kernel
theorem dX0_pullsToWater_48 : decode cX0_pullsToWater 48 = .ok (.if_icmp .gt 8, 3) := by decide +kernel
theorem dX0_pullsToWater_51 : decode cX0_pullsToWater 51 = .ok (.iload 4, 2) := by decide +kernel
theorem dX0_pullsToWater_53 : decode cX0_pullsToWater 53 = .ok (.goto 4, 3) := by decide +kernel
theorem dX0_pullsToWater_56 : decode cX0_pullsToWater 56 = .ok (.iconst 0, 1) := by decide +kernel
theorem dX0_pullsToWater_57 : decode cX0_pullsToWater 57 = .ok (.ireturn, 1) := by decide +kernel
theorem dX0_pour_0 : decode cX0_pour 0 = .ok (.iconst 0, 1) := by decide +kernel
theorem dX0_pour_1 : decode cX0_pour 1 = .ok (.iload_n 1, 1) := by decide +kernel
theorem dX0_pour_2 : decode cX0_pour 2 = .ok (.aload_n 0, 1) := by decide +kernel
theorem dX0_pour_3 : decode cX0_pour 3 = .ok (.getfield 9, 3) := by decide +kernel
theorem dX0_pour_6 : decode cX0_pour 6 = .ok (.isub, 1) := by decide +kernel
theorem dX0_pour_7 : decode cX0_pour 7 = .ok (.invokestatic 55, 3) := by decide +kernel
theorem dX0_pour_10 : decode cX0_pour 10 = .ok (.istore_n 2, 1) := by decide +kernel
theorem dX0_pour_11 : decode cX0_pour 11 = .ok (.aload_n 0, 1) := by decide +kernel
theorem dX0_pour_12 : decode cX0_pour 12 = .ok (.iconst 0, 1) := by decide +kernel
theorem dX0_pour_13 : decode cX0_pour 13 = .ok (.aload_n 0, 1) := by decide +kernel
theorem dX0_pour_14 : decode cX0_pour 14 = .ok (.getfield 9, 3) := by decide +kernel
theorem dX0_pour_17 : decode cX0_pour 17 = .ok (.iload_n 1, 1) := by decide +kernel
theorem dX0_pour_18 : decode cX0_pour 18 = .ok (.isub, 1) := by decide +kernel
theorem dX0_pour_19 : decode cX0_pour 19 = .ok (.invokestatic 55, 3) := by decide +kernel
theorem dX0_pour_22 : decode cX0_pour 22 = .ok (.putfield 9, 3) := by decide +kernel
theorem dX0_pour_25 : decode cX0_pour 25 = .ok (.aload_n 0, 1) := by decide +kernel
theorem dX0_pour_26 : decode cX0_pour 26 = .ok (.bipush 100, 2) := by decide +kernel
theorem dX0_pour_28 : decode cX0_pour 28 = .ok (.aload_n 0, 1) := by decide +kernel
theorem dX0_pour_29 : decode cX0_pour 29 = .ok (.getfield 15, 3) := by decide +kernel
theorem dX0_pour_32 : decode cX0_pour 32 = .ok (.iconst 5, 1) := by decide +kernel
theorem dX0_pour_33 : decode cX0_pour 33 = .ok (.iload_n 1, 1) := by decide +kernel
theorem dX0_pour_34 : decode cX0_pour 34 = .ok (.imul, 1) := by decide +kernel
theorem dX0_pour_35 : decode cX0_pour 35 = .ok (.iadd, 1) := by decide +kernel
theorem dX0_pour_36 : decode cX0_pour 36 = .ok (.invokestatic 60, 3) := by decide +kernel
theorem dX0_pour_39 : decode cX0_pour 39 = .ok (.putfield 15, 3) := by decide +kernel
theorem dX0_pour_42 : decode cX0_pour 42 = .ok (.iload_n 2, 1) := by decide +kernel
theorem dX0_pour_43 : decode cX0_pour 43 = .ok (.ireturn, 1) := by decide +kernel
set_option maxRecDepth 20000 in
theorem ggX0_stand_X0_standAnHour : GoodIn wsX0_stand wsX0_standAnHour := goodIn_r _ [7, 8, 2, 9, 10, 11, 12, 13, 14, 15, 16, 17, 18, 19, 20, 21, 22, 23, 24, 25, 26, 27, 28, 29, 30, 31, 32, 33, 34, 35, 36, 37, 38, 39, 40, 41, 42, 43, 44, 45, 46, 47, 48, 49] (by decide +kernel) (by decide +kernel)
set_option maxRecDepth 20000 in
theorem gX0_stand_X0_standAnHour : GoodIn wsX0_stand (wsV RX0 63 RX0 yX0_standAnHour wsX0_standAnHour) := goodIn_app (goodIn_of _ (by decide +kernel)) ggX0_stand_X0_standAnHour
theorem dX0_stand_0 : decode cX0_stand 0 = .ok (.iconst 0, 1) := by decide +kernel
theorem dX0_stand_1 : decode cX0_stand 1 = .ok (.istore_n 3, 1) := by decide +kernel
theorem dX0_stand_2 : decode cX0_stand 2 = .ok (.iload_n 3, 1) := by decide +kernel
theorem dX0_stand_3 : decode cX0_stand 3 = .ok (.iload_n 2, 1) := by decide +kernel
theorem dX0_stand_4 : decode cX0_stand 4 = .ok (.if_icmp .ge 14, 3) := by decide +kernel
theorem dX0_stand_7 : decode cX0_stand 7 = .ok (.aload_n 0, 1) := by decide +kernel
theorem dX0_stand_8 : decode cX0_stand 8 = .ok (.aload_n 1, 1) := by decide +kernel
theorem dX0_stand_9 : decode cX0_stand 9 = .ok (.invokevirtual 63, 3) := by decide +kernel
theorem dX0_stand_12 : decode cX0_stand 12 = .ok (.iinc 3 1, 3) := by decide +kernel
theorem dX0_stand_15 : decode cX0_stand 15 = .ok (.goto (-13), 3) := by decide +kernel
theorem dX0_stand_18 : decode cX0_stand 18 = .ok (.aload_n 0, 1) := by decide +kernel
theorem dX0_stand_19 : decode cX0_stand 19 = .ok (.dup, 1) := by decide +kernel
theorem dX0_stand_20 : decode cX0_stand 20 = .ok (.getfield 27, 3) := by decide +kernel
theorem dX0_stand_23 : decode cX0_stand 23 = .ok (.iload_n 2, 1) := by decide +kernel
theorem dX0_stand_24 : decode cX0_stand 24 = .ok (.iadd, 1) := by decide +kernel
theorem dX0_stand_25 : decode cX0_stand 25 = .ok (.putfield 27, 3) := by decide +kernel
theorem dX0_stand_28 : decode cX0_stand 28 = .ok (.aload_n 0, 1) := by decide +kernel
theorem dX0_stand_29 : decode cX0_stand 29 = .ok (.getfield 9, 3) := by decide +kernel
theorem dX0_stand_32 : decode cX0_stand 32 = .ok (.ireturn, 1) := by decide +kernel
set_option maxRecDepth 20000 in
theorem ggX0_standAnHour_X4_depth : GoodIn wsX0_standAnHour wsX4_depth := goodIn_r _ [17, 18, 19, 33, 34, 35, 36, 37, 38, 39, 40, 41, 42, 43] (by decide +kernel) (by decide +kernel)
set_option maxRecDepth 20000 in
theorem gX0_standAnHour_X4_depth : GoodIn wsX0_standAnHour (wsV RX0 36 RX4 yX4_depth wsX4_depth) := goodIn_app (goodIn_of _ (by decide +kernel)) ggX0_standAnHour_X4_depth
set_option maxRecDepth 20000 in
theorem ggX0_standAnHour_X4_airAbove : GoodIn wsX0_standAnHour wsX4_airAbove := goodIn_r _ [23, 24, 25, 33, 34, 35, 36, 37, 38, 39, 40, 41, 42, 43] (by decide +kernel) (by decide +kernel)
set_option maxRecDepth 20000 in
theorem gX0_standAnHour_X4_airAbove : GoodIn wsX0_standAnHour (wsV RX0 70 RX4 yX4_airAbove wsX4_airAbove) := goodIn_app (goodIn_of _ (by decide +kernel)) ggX0_standAnHour_X4_airAbove
theorem dX0_standAnHour_0 : decode cX0_standAnHour 0 = .ok (.aload_n 1, 1) := by decide +kernel
theorem dX0_standAnHour_1 : decode cX0_standAnHour 1 = .ok (.aload_n 0, 1) := by decide +kernel
theorem dX0_standAnHour_2 : decode cX0_standAnHour 2 = .ok (.getfield 18, 3) := by decide +kernel
theorem dX0_standAnHour_5 : decode cX0_standAnHour 5 = .ok (.invokevirtual 36, 3) := by decide +kernel
theorem dX0_standAnHour_8 : decode cX0_standAnHour 8 = .ok (.istore_n 2, 1) := by decide +kernel
theorem dX0_standAnHour_9 : decode cX0_standAnHour 9 = .ok (.aload_n 0, 1) := by decide +kernel
theorem dX0_standAnHour_10 : decode cX0_standAnHour 10 = .ok (.iload_n 2, 1) := by decide +kernel
theorem dX0_standAnHour_11 : decode cX0_standAnHour 11 = .ok (.aload_n 0, 1) := by decide +kernel
theorem dX0_standAnHour_12 : decode cX0_standAnHour 12 = .ok (.getfield 9, 3) := by decide +kernel
theorem dX0_standAnHour_15 : decode cX0_standAnHour 15 = .ok (.aload_n 1, 1) := by decide +kernel
theorem dX0_standAnHour_16 : decode cX0_standAnHour 16 = .ok (.getfield 67, 3) := by decide +kernel
theorem dX0_standAnHour_19 : decode cX0_standAnHour 19 = .ok (.iadd, 1) := by decide +kernel
theorem dX0_standAnHour_20 : decode cX0_standAnHour 20 = .ok (.aload_n 1, 1) := by decide +kernel
theorem dX0_standAnHour_21 : decode cX0_standAnHour 21 = .ok (.iload_n 2, 1) := by decide +kernel
theorem dX0_standAnHour_22 : decode cX0_standAnHour 22 = .ok (.invokevirtual 70, 3) := by decide +kernel
theorem dX0_standAnHour_25 : decode cX0_standAnHour 25 = .ok (.iadd, 1) := by decide +kernel
theorem dX0_standAnHour_26 : decode cX0_standAnHour 26 = .ok (.invokestatic 60, 3) := by decide +kernel
theorem dX0_standAnHour_29 : decode cX0_standAnHour 29 = .ok (.putfield 9, 3) := by decide +kernel
theorem dX0_standAnHour_32 : decode cX0_standAnHour 32 = .ok (.aload_n 0, 1) := by decide +kernel
theorem dX0_standAnHour_33 : decode cX0_standAnHour 33 = .ok (.getfield 9, 3) := by decide +kernel
theorem dX0_standAnHour_36 : decode cX0_standAnHour 36 = .ok (.ifCond .le 18, 3) := by decide +kernel
theorem dX0_standAnHour_39 : decode cX0_standAnHour 39 = .ok (.aload_n 0, 1) := by decide +kernel
theorem dX0_standAnHour_40 : decode cX0_standAnHour 40 = .ok (.iconst 0, 1) := by decide +kernel
theorem dX0_standAnHour_41 : decode cX0_standAnHour 41 = .ok (.aload_n 0, 1) := by decide +kernel
theorem dX0_standAnHour_42 : decode cX0_standAnHour 42 = .ok (.getfield 15, 3) := by decide +kernel
theorem dX0_standAnHour_45 : decode cX0_standAnHour 45 = .ok (.bipush 10, 2) := by decide +kernel
theorem dX0_standAnHour_47 : decode cX0_standAnHour 47 = .ok (.isub, 1) := by decide +kernel
theorem dX0_standAnHour_48 : decode cX0_standAnHour 48 = .ok (.invokestatic 55, 3) := by decide +kernel
theorem dX0_standAnHour_51 : decode cX0_standAnHour 51 = .ok (.putfield 15, 3) := by decide +kernel
theorem dX0_standAnHour_54 : decode cX0_standAnHour 54 = .ok (.aload_n 0, 1) := by decide +kernel
theorem dX0_standAnHour_55 : decode cX0_standAnHour 55 = .ok (.iconst 0, 1) := by decide +kernel
theorem dX0_standAnHour_56 : decode cX0_standAnHour 56 = .ok (.aload_n 0, 1) := by decide +kernel
theorem dX0_standAnHour_57 : decode cX0_standAnHour 57 = .ok (.getfield 18, 3) := by decide +kernel
theorem dX0_standAnHour_60 : decode cX0_standAnHour 60 = .ok (.aload_n 1, 1) := by decide +kernel
theorem dX0_standAnHour_61 : decode cX0_standAnHour 61 = .ok (.getfield 73, 3) := by decide +kernel
theorem dX0_standAnHour_64 : decode cX0_standAnHour 64 = .ok (.isub, 1) := by decide +kernel
theorem dX0_standAnHour_65 : decode cX0_standAnHour 65 = .ok (.invokestatic 55, 3) := by decide +kernel
theorem dX0_standAnHour_68 : decode cX0_standAnHour 68 = .ok (.putfield 18, 3) := by decide +kernel
theorem dX0_standAnHour_71 : decode cX0_standAnHour 71 = .ok (.aload_n 0, 1) := by decide +kernel
theorem dX0_standAnHour_72 : decode cX0_standAnHour 72 = .ok (.aload_n 0, 1) := by decide +kernel
theorem dX0_standAnHour_73 : decode cX0_standAnHour 73 = .ok (.getfield 9, 3) := by decide +kernel
theorem dX0_standAnHour_76 : decode cX0_standAnHour 76 = .ok (.aload_n 1, 1) := by decide +kernel
theorem dX0_standAnHour_77 : decode cX0_standAnHour 77 = .ok (.aload_n 0, 1) := by decide +kernel
theorem dX0_standAnHour_78 : decode cX0_standAnHour 78 = .ok (.getfield 18, 3) := by decide +kernel
theorem dX0_standAnHour_81 : decode cX0_standAnHour 81 = .ok (.invokevirtual 36, 3) := by decide +kernel
theorem dX0_standAnHour_84 : decode cX0_standAnHour 84 = .ok (.invokestatic 60, 3) := by decide +kernel
theorem dX0_standAnHour_87 : decode cX0_standAnHour 87 = .ok (.putfield 9, 3) := by decide +kernel
theorem dX0_standAnHour_90 : decode cX0_standAnHour 90 = .ok (.return_, 1) := by decide +kernel
theorem dX1_init_0 : decode cX1_init 0 = .ok (.aload_n 0, 1) := by decide +kernel
theorem dX1_init_1 : decode cX1_init 1 = .ok (.invokespecial 3, 3) := by decide +kernel
theorem dX1_init_4 : decode cX1_init 4 = .ok (.aload_n 0, 1) := by decide +kernel
theorem dX1_init_5 : decode cX1_init 5 = .ok (.bipush 30, 2) := by decide +kernel
theorem dX1_init_7 : decode cX1_init 7 = .ok (.newarray .int, 2) := by decide +kernel
theorem dX1_init_9 : decode cX1_init 9 = .ok (.putfield 9, 3) := by decide +kernel
theorem dX1_init_12 : decode cX1_init 12 = .ok (.aload_n 0, 1) := by decide +kernel
theorem dX1_init_13 : decode cX1_init 13 = .ok (.bipush 30, 2) := by decide +kernel
theorem dX1_init_15 : decode cX1_init 15 = .ok (.newarray .int, 2) := by decide +kernel
theorem dX1_init_17 : decode cX1_init 17 = .ok (.putfield 15, 3) := by decide +kernel
theorem dX1_init_20 : decode cX1_init 20 = .ok (.return_, 1) := by decide +kernel
theorem dX1_add_0 : decode cX1_add 0 = .ok (.aload_n 0, 1) := by decide +kernel
theorem dX1_add_1 : decode cX1_add 1 = .ok (.getfield 18, 3) := by decide +kernel
theorem dX1_add_4 : decode cX1_add 4 = .ok (.aload_n 0, 1) := by decide +kernel
theorem dX1_add_5 : decode cX1_add 5 = .ok (.getfield 9, 3) := by decide +kernel
theorem dX1_add_8 : decode cX1_add 8 = .ok (.arraylength, 1) := by decide +kernel
theorem dX1_add_9 : decode cX1_add 9 = .ok (.if_icmp .lt 6, 3) := by decide +kernel
theorem dX1_add_12 : decode cX1_add 12 = .ok (.bipush (-3), 2) := by decide +kernel
theorem dX1_add_14 : decode cX1_add 14 = .ok (.ireturn, 1) := by decide +kernel
theorem dX1_add_15 : decode cX1_add 15 = .ok (.aload_n 0, 1) := by decide +kernel
theorem dX1_add_16 : decode cX1_add 16 = .ok (.getfield 9, 3) := by decide +kernel
theorem dX1_add_19 : decode cX1_add 19 = .ok (.aload_n 0, 1) := by decide +kernel
theorem dX1_add_20 : decode cX1_add 20 = .ok (.getfield 18, 3) := by decide +kernel
theorem dX1_add_23 : decode cX1_add 23 = .ok (.iload_n 1, 1) := by decide +kernel
theorem dX1_add_24 : decode cX1_add 24 = .ok (.iastore, 1) := by decide +kernel
theorem dX1_add_25 : decode cX1_add 25 = .ok (.aload_n 0, 1) := by decide +kernel
theorem dX1_add_26 : decode cX1_add 26 = .ok (.getfield 15, 3) := by decide +kernel
theorem dX1_add_29 : decode cX1_add 29 = .ok (.aload_n 0, 1) := by decide +kernel
theorem dX1_add_30 : decode cX1_add 30 = .ok (.getfield 18, 3) := by decide +kernel
theorem dX1_add_33 : decode cX1_add 33 = .ok (.iload_n 2, 1) := by decide +kernel
theorem dX1_add_34 : decode cX1_add 34 = .ok (.iastore, 1) := by decide +kernel
theorem dX1_add_35 : decode cX1_add 35 = .ok (.aload_n 0, 1) := by decide +kernel
theorem dX1_add_36 : decode cX1_add 36 = .ok (.dup, 1) := by decide +kernel
theorem dX1_add_37 : decode cX1_add 37 = .ok (.getfield 18, 3) := by decide +kernel
theorem dX1_add_40 : decode cX1_add 40 = .ok (.iconst 1, 1) := by decide +kernel
theorem dX1_add_41 : decode cX1_add 41 = .ok (.iadd, 1) := by decide +kernel
theorem dX1_add_42 : decode cX1_add 42 = .ok (.putfield 18, 3) := by decide +kernel
theorem dX1_add_45 : decode cX1_add 45 = .ok (.aload_n 0, 1) := by decide +kernel
theorem dX1_add_46 : decode cX1_add 46 = .ok (.getfield 18, 3) := by decide +kernel
theorem dX1_add_49 : decode cX1_add 49 = .ok (.ireturn, 1) := by decide +kernel
theorem dX1_greatestClean_0 : decode cX1_greatestClean 0 = .ok (.iconst 0, 1) := by decide +kernel
theorem dX1_greatestClean_1 : decode cX1_greatestClean 1 = .ok (.istore_n 1, 1) := by decide +kernel
theorem dX1_greatestClean_2 : decode cX1_greatestClean 2 = .ok (.iconst 0, 1) := by decide +kernel
theorem dX1_greatestClean_3 : decode cX1_greatestClean 3 = .ok (.istore_n 2, 1) := by decide +kernel
theorem dX1_greatestClean_4 : decode cX1_greatestClean 4 = .ok (.iload_n 2, 1) := by decide +kernel
theorem dX1_greatestClean_5 : decode cX1_greatestClean 5 = .ok (.aload_n 0, 1) := by decide +kernel
theorem dX1_greatestClean_6 : decode cX1_greatestClean 6 = .ok (.getfield 18, 3) := by decide +kernel
theorem dX1_greatestClean_9 : decode cX1_greatestClean 9 = .ok (.if_icmp .ge 29, 3) := by decide +kernel
theorem dX1_greatestClean_12 : decode cX1_greatestClean 12 = .ok (.aload_n 0, 1) := by decide +kernel
theorem dX1_greatestClean_13 : decode cX1_greatestClean 13 = .ok (.getfield 15, 3) := by decide +kernel
theorem dX1_greatestClean_16 : decode cX1_greatestClean 16 = .ok (.iload_n 2, 1) := by decide +kernel
theorem dX1_greatestClean_17 : decode cX1_greatestClean 17 = .ok (.iaload, 1) := by decide +kernel
theorem dX1_greatestClean_18 : decode cX1_greatestClean 18 = .ok (.ifCond .ne 14, 3) := by decide +kernel
theorem dX1_greatestClean_21 : decode cX1_greatestClean 21 = .ok (.iload_n 1, 1) := by decide +kernel
theorem dX1_greatestClean_22 : decode cX1_greatestClean 22 = .ok (.aload_n 0, 1) := by decide +kernel
theorem dX1_greatestClean_23 : decode cX1_greatestClean 23 = .ok (.getfield 9, 3) := by decide +kernel
theorem dX1_greatestClean_26 : decode cX1_greatestClean 26 = .ok (.iload_n 2, 1) := by decide +kernel
theorem dX1_greatestClean_27 : decode cX1_greatestClean 27 = .ok (.iaload, 1) := by decide +kernel
theorem dX1_greatestClean_28 : decode cX1_greatestClean 28 = .ok (.invokestatic 22, 3) := by decide +kernel
theorem dX1_greatestClean_31 : decode cX1_greatestClean 31 = .ok (.istore_n 1, 1) := by decide +kernel
theorem dX1_greatestClean_32 : decode cX1_greatestClean 32 = .ok (.iinc 2 1, 3) := by decide +kernel
theorem dX1_greatestClean_35 : decode cX1_greatestClean 35 = .ok (.goto (-31), 3) := by decide +kernel
theorem dX1_greatestClean_38 : decode cX1_greatestClean 38 = .ok (.iload_n 1, 1) := by decide +kernel
theorem dX1_greatestClean_39 : decode cX1_greatestClean 39 = .ok (.ireturn, 1) := by decide +kernel
theorem dX1_leastSandy_0 : decode cX1_leastSandy 0 = .ok (.bipush (-9), 2) := by decide +kernel
theorem dX1_leastSandy_2 : decode cX1_leastSandy 2 = .ok (.istore_n 1, 1) := by decide +kernel
theorem dX1_leastSandy_3 : decode cX1_leastSandy 3 = .ok (.iconst 0, 1) := by decide +kernel
theorem dX1_leastSandy_4 : decode cX1_leastSandy 4 = .ok (.istore_n 2, 1) := by decide +kernel
theorem dX1_leastSandy_5 : decode cX1_leastSandy 5 = .ok (.iload_n 2, 1) := by decide +kernel
theorem dX1_leastSandy_6 : decode cX1_leastSandy 6 = .ok (.aload_n 0, 1) := by decide +kernel
theorem dX1_leastSandy_7 : decode cX1_leastSandy 7 = .ok (.getfield 18, 3) := by decide +kernel
theorem dX1_leastSandy_10 : decode cX1_leastSandy 10 = .ok (.if_icmp .ge 42, 3) := by decide +kernel
theorem dX1_leastSandy_13 : decode cX1_leastSandy 13 = .ok (.aload_n 0, 1) := by decide +kernel
theorem dX1_leastSandy_14 : decode cX1_leastSandy 14 = .ok (.getfield 15, 3) := by decide +kernel
theorem dX1_leastSandy_17 : decode cX1_leastSandy 17 = .ok (.iload_n 2, 1) := by decide +kernel
theorem dX1_leastSandy_18 : decode cX1_leastSandy 18 = .ok (.iaload, 1) := by decide +kernel
theorem dX1_leastSandy_19 : decode cX1_leastSandy 19 = .ok (.iconst 1, 1) := by decide +kernel
theorem dX1_leastSandy_20 : decode cX1_leastSandy 20 = .ok (.if_icmp .ne 26, 3) := by decide +kernel
theorem dX1_leastSandy_23 : decode cX1_leastSandy 23 = .ok (.iload_n 1, 1) := by decide +kernel
theorem dX1_leastSandy_24 : decode cX1_leastSandy 24 = .ok (.bipush (-9), 2) := by decide +kernel
theorem dX1_leastSandy_26 : decode cX1_leastSandy 26 = .ok (.if_icmp .eq 13, 3) := by decide +kernel
theorem dX1_leastSandy_29 : decode cX1_leastSandy 29 = .ok (.aload_n 0, 1) := by decide +kernel
theorem dX1_leastSandy_30 : decode cX1_leastSandy 30 = .ok (.getfield 9, 3) := by decide +kernel
theorem dX1_leastSandy_33 : decode cX1_leastSandy 33 = .ok (.iload_n 2, 1) := by decide +kernel
theorem dX1_leastSandy_34 : decode cX1_leastSandy 34 = .ok (.iaload, 1) := by decide +kernel
theorem dX1_leastSandy_35 : decode cX1_leastSandy 35 = .ok (.iload_n 1, 1) := by decide +kernel
theorem dX1_leastSandy_36 : decode cX1_leastSandy 36 = .ok (.if_icmp .ge 10, 3) := by decide +kernel
theorem dX1_leastSandy_39 : decode cX1_leastSandy 39 = .ok (.aload_n 0, 1) := by decide +kernel
theorem dX1_leastSandy_40 : decode cX1_leastSandy 40 = .ok (.getfield 9, 3) := by decide +kernel
theorem dX1_leastSandy_43 : decode cX1_leastSandy 43 = .ok (.iload_n 2, 1) := by decide +kernel
theorem dX1_leastSandy_44 : decode cX1_leastSandy 44 = .ok (.iaload, 1) := by decide +kernel
theorem dX1_leastSandy_45 : decode cX1_leastSandy 45 = .ok (.istore_n 1, 1) := by decide +kernel
theorem dX1_leastSandy_46 : decode cX1_leastSandy 46 = .ok (.iinc 2 1, 3) := by decide +kernel
theorem dX1_leastSandy_49 : decode cX1_leastSandy 49 = .ok (.goto (-44), 3) := by decide +kernel
theorem dX1_leastSandy_52 : decode cX1_leastSandy 52 = .ok (.iload_n 1, 1) := by decide +kernel
theorem dX1_leastSandy_53 : decode cX1_leastSandy 53 = .ok (.ireturn, 1) := by decide +kernel
theorem dX2_init_0 : decode cX2_init 0 = .ok (.aload_n 0, 1) := by decide +kernel
theorem dX2_init_1 : decode cX2_init 1 = .ok (.invokespecial 3, 3) := by decide +kernel
theorem dX2_init_4 : decode cX2_init 4 = .ok (.aload_n 0, 1) := by decide +kernel
theorem dX2_init_5 : decode cX2_init 5 = .ok (.bipush 6, 2) := by decide +kernel
theorem dX2_init_7 : decode cX2_init 7 = .ok (.newarray .int, 2) := by decide +kernel
theorem dX2_init_9 : decode cX2_init 9 = .ok (.putfield 9, 3) := by decide +kernel
theorem dX2_init_12 : decode cX2_init 12 = .ok (.aload_n 0, 1) := by decide +kernel
theorem dX2_init_13 : decode cX2_init 13 = .ok (.bipush 6, 2) := by decide +kernel
theorem dX2_init_15 : decode cX2_init 15 = .ok (.newarray .int, 2) := by decide +kernel
theorem dX2_init_17 : decode cX2_init 17 = .ok (.putfield 15, 3) := by decide +kernel
theorem dX2_init_20 : decode cX2_init 20 = .ok (.aload_n 0, 1) := by decide +kernel
theorem dX2_init_21 : decode cX2_init 21 = .ok (.bipush 6, 2) := by decide +kernel
theorem dX2_init_23 : decode cX2_init 23 = .ok (.newarray .int, 2) := by decide +kernel
theorem dX2_init_25 : decode cX2_init 25 = .ok (.putfield 18, 3) := by decide +kernel
theorem dX2_init_28 : decode cX2_init 28 = .ok (.return_, 1) := by decide +kernel
theorem dX2_add_0 : decode cX2_add 0 = .ok (.aload_n 0, 1) := by decide +kernel
theorem dX2_add_1 : decode cX2_add 1 = .ok (.getfield 21, 3) := by decide +kernel
theorem dX2_add_4 : decode cX2_add 4 = .ok (.aload_n 0, 1) := by decide +kernel
theorem dX2_add_5 : decode cX2_add 5 = .ok (.getfield 9, 3) := by decide +kernel
theorem dX2_add_8 : decode cX2_add 8 = .ok (.arraylength, 1) := by decide +kernel
theorem dX2_add_9 : decode cX2_add 9 = .ok (.if_icmp .lt 6, 3) := by decide +kernel
theorem dX2_add_12 : decode cX2_add 12 = .ok (.bipush (-3), 2) := by decide +kernel
theorem dX2_add_14 : decode cX2_add 14 = .ok (.ireturn, 1) := by decide +kernel
theorem dX2_add_15 : decode cX2_add 15 = .ok (.aload_n 0, 1) := by decide +kernel
theorem dX2_add_16 : decode cX2_add 16 = .ok (.getfield 9, 3) := by decide +kernel
theorem dX2_add_19 : decode cX2_add 19 = .ok (.aload_n 0, 1) := by decide +kernel
theorem dX2_add_20 : decode cX2_add 20 = .ok (.getfield 21, 3) := by decide +kernel
theorem dX2_add_23 : decode cX2_add 23 = .ok (.iload_n 1, 1) := by decide +kernel
theorem dX2_add_24 : decode cX2_add 24 = .ok (.iastore, 1) := by decide +kernel
theorem dX2_add_25 : decode cX2_add 25 = .ok (.aload_n 0, 1) := by decide +kernel
theorem dX2_add_26 : decode cX2_add 26 = .ok (.getfield 15, 3) := by decide +kernel
theorem dX2_add_29 : decode cX2_add 29 = .ok (.aload_n 0, 1) := by decide +kernel
theorem dX2_add_30 : decode cX2_add 30 = .ok (.getfield 21, 3) := by decide +kernel
theorem dX2_add_33 : decode cX2_add 33 = .ok (.iload_n 2, 1) := by decide +kernel
theorem dX2_add_34 : decode cX2_add 34 = .ok (.iastore, 1) := by decide +kernel
theorem dX2_add_35 : decode cX2_add 35 = .ok (.aload_n 0, 1) := by decide +kernel
theorem dX2_add_36 : decode cX2_add 36 = .ok (.getfield 18, 3) := by decide +kernel
theorem dX2_add_39 : decode cX2_add 39 = .ok (.aload_n 0, 1) := by decide +kernel
theorem dX2_add_40 : decode cX2_add 40 = .ok (.getfield 21, 3) := by decide +kernel
theorem dX2_add_43 : decode cX2_add 43 = .ok (.iload_n 3, 1) := by decide +kernel
theorem dX2_add_44 : decode cX2_add 44 = .ok (.iastore, 1) := by decide +kernel
theorem dX2_add_45 : decode cX2_add 45 = .ok (.aload_n 0, 1) := by decide +kernel
theorem dX2_add_46 : decode cX2_add 46 = .ok (.dup, 1) := by decide +kernel
theorem dX2_add_47 : decode cX2_add 47 = .ok (.getfield 21, 3) := by decide +kernel
theorem dX2_add_50 : decode cX2_add 50 = .ok (.iconst 1, 1) := by decide +kernel
theorem dX2_add_51 : decode cX2_add 51 = .ok (.iadd, 1) := by decide +kernel
theorem dX2_add_52 : decode cX2_add 52 = .ok (.putfield 21, 3) := by decide +kernel
theorem dX2_add_55 : decode cX2_add 55 = .ok (.aload_n 0, 1) := by decide +kernel
theorem dX2_add_56 : decode cX2_add 56 = .ok (.getfield 21, 3) := by decide +kernel
theorem dX2_add_59 : decode cX2_add 59 = .ok (.ireturn, 1) := by decide +kernel
theorem dX2_empty_0 : decode cX2_empty 0 = .ok (.aload_n 0, 1) := by decide +kernel
theorem dX2_empty_1 : decode cX2_empty 1 = .ok (.getfield 21, 3) := by decide +kernel
theorem dX2_empty_4 : decode cX2_empty 4 = .ok (.istore_n 1, 1) := by decide +kernel
theorem dX2_empty_5 : decode cX2_empty 5 = .ok (.aload_n 0, 1) := by decide +kernel
theorem dX2_empty_6 : decode cX2_empty 6 = .ok (.iconst 0, 1) := by decide +kernel
theorem dX2_empty_7 : decode cX2_empty 7 = .ok (.putfield 21, 3) := by decide +kernel
theorem dX2_empty_10 : decode cX2_empty 10 = .ok (.iload_n 1, 1) := by decide +kernel
theorem dX2_empty_11 : decode cX2_empty 11 = .ok (.ireturn, 1) := by decide +kernel
theorem dX3_init_0 : decode cX3_init 0 = .ok (.aload_n 0, 1) := by decide +kernel
theorem dX3_init_1 : decode cX3_init 1 = .ok (.invokespecial 3, 3) := by decide +kernel
theorem dX3_init_4 : decode cX3_init 4 = .ok (.aload_n 0, 1) := by decide +kernel
theorem dX3_init_5 : decode cX3_init 5 = .ok (.sipush 300, 3) := by decide +kernel
theorem dX3_init_8 : decode cX3_init 8 = .ok (.newarray .int, 2) := by decide +kernel
theorem dX3_init_10 : decode cX3_init 10 = .ok (.putfield 9, 3) := by decide +kernel
theorem dX3_init_13 : decode cX3_init 13 = .ok (.return_, 1) := by decide +kernel
theorem dX3_add_0 : decode cX3_add 0 = .ok (.aload_n 0, 1) := by decide +kernel
theorem dX3_add_1 : decode cX3_add 1 = .ok (.getfield 15, 3) := by decide +kernel
theorem dX3_add_4 : decode cX3_add 4 = .ok (.iload_n 3, 1) := by decide +kernel
theorem dX3_add_5 : decode cX3_add 5 = .ok (.iadd, 1) := by decide +kernel
theorem dX3_add_6 : decode cX3_add 6 = .ok (.aload_n 0, 1) := by decide +kernel
theorem dX3_add_7 : decode cX3_add 7 = .ok (.getfield 9, 3) := by decide +kernel
theorem dX3_add_10 : decode cX3_add 10 = .ok (.arraylength, 1) := by decide +kernel
theorem dX3_add_11 : decode cX3_add 11 = .ok (.if_icmp .le 6, 3) := by decide +kernel
theorem dX3_add_14 : decode cX3_add 14 = .ok (.bipush (-3), 2) := by decide +kernel
theorem dX3_add_16 : decode cX3_add 16 = .ok (.ireturn, 1) := by decide +kernel
theorem dX3_add_17 : decode cX3_add 17 = .ok (.iload_n 3, 1) := by decide +kernel
theorem dX3_add_18 : decode cX3_add 18 = .ok (.iconst 1, 1) := by decide +kernel
theorem dX3_add_19 : decode cX3_add 19 = .ok (.isub, 1) := by decide +kernel
theorem dX3_add_20 : decode cX3_add 20 = .ok (.istore 4, 2) := by decide +kernel
theorem dX3_add_22 : decode cX3_add 22 = .ok (.iload 4, 2) := by decide +kernel
theorem dX3_add_24 : decode cX3_add 24 = .ok (.ifCond .lt 40, 3) := by decide +kernel
theorem dX3_add_27 : decode cX3_add 27 = .ok (.aload_n 0, 1) := by decide +kernel
theorem dX3_add_28 : decode cX3_add 28 = .ok (.getfield 9, 3) := by decide +kernel
theorem dX3_add_31 : decode cX3_add 31 = .ok (.aload_n 0, 1) := by decide +kernel
theorem dX3_add_32 : decode cX3_add 32 = .ok (.getfield 15, 3) := by decide +kernel
theorem dX3_add_35 : decode cX3_add 35 = .ok (.lload_n 1, 1) := by decide +kernel
theorem dX3_add_36 : decode cX3_add 36 = .ok (.bipush 8, 2) := by decide +kernel
theorem dX3_add_38 : decode cX3_add 38 = .ok (.iload 4, 2) := by decide +kernel
theorem dX3_add_40 : decode cX3_add 40 = .ok (.imul, 1) := by decide +kernel
theorem dX3_add_41 : decode cX3_add 41 = .ok (.lshr, 1) := by decide +kernel
theorem dX3_add_42 : decode cX3_add 42 = .ok (.ldc2_w 19, 3) := by decide +kernel
theorem dX3_add_45 : decode cX3_add 45 = .ok (.land, 1) := by decide +kernel
theorem dX3_add_46 : decode cX3_add 46 = .ok (.l2i, 1) := by decide +kernel
theorem dX3_add_47 : decode cX3_add 47 = .ok (.iastore, 1) := by decide +kernel
theorem dX3_add_48 : decode cX3_add 48 = .ok (.aload_n 0, 1) := by decide +kernel
theorem dX3_add_49 : decode cX3_add 49 = .ok (.dup, 1) := by decide +kernel
theorem dX3_add_50 : decode cX3_add 50 = .ok (.getfield 15, 3) := by decide +kernel
theorem dX3_add_53 : decode cX3_add 53 = .ok (.iconst 1, 1) := by decide +kernel
theorem dX3_add_54 : decode cX3_add 54 = .ok (.iadd, 1) := by decide +kernel
theorem dX3_add_55 : decode cX3_add 55 = .ok (.putfield 15, 3) := by decide +kernel
theorem dX3_add_58 : decode cX3_add 58 = .ok (.iinc 4 (-1), 3) := by decide +kernel
theorem dX3_add_61 : decode cX3_add 61 = .ok (.goto (-39), 3) := by decide +kernel
theorem dX3_add_64 : decode cX3_add 64 = .ok (.aload_n 0, 1) := by decide +kernel
theorem dX3_add_65 : decode cX3_add 65 = .ok (.getfield 15, 3) := by decide +kernel
theorem dX3_add_68 : decode cX3_add 68 = .ok (.ireturn, 1) := by decide +kernel
theorem dX3_empty_0 : decode cX3_empty 0 = .ok (.aload_n 0, 1) := by decide +kernel
theorem dX3_empty_1 : decode cX3_empty 1 = .ok (.getfield 15, 3) := by decide +kernel
theorem dX3_empty_4 : decode cX3_empty 4 = .ok (.istore_n 1, 1) := by decide +kernel
theorem dX3_empty_5 : decode cX3_empty 5 = .ok (.aload_n 0, 1) := by decide +kernel
theorem dX3_empty_6 : decode cX3_empty 6 = .ok (.iconst 0, 1) := by decide +kernel
theorem dX3_empty_7 : decode cX3_empty 7 = .ok (.putfield 15, 3) := by decide +kernel
theorem dX3_empty_10 : decode cX3_empty 10 = .ok (.iload_n 1, 1) := by decide +kernel
theorem dX3_empty_11 : decode cX3_empty 11 = .ok (.ireturn, 1) := by decide +kernel
set_option maxRecDepth 20000 in
theorem ggX3_read_X4_beUntold : GoodIn wsX3_read wsX4_beUntold := goodIn_r _ [9, 10, 11, 12, 8, 13, 14, 15, 16, 17, 18, 19, 20, 21, 22, 23, 24, 122, 123, 124, 125, 126, 127, 128, 129, 130, 131, 132] (by decide +kernel) (by decide +kernel)
set_option maxRecDepth 20000 in
theorem gX3_read_X4_beUntold : GoodIn wsX3_read (wsV RX3 27 RX4 yX4_beUntold wsX4_beUntold) := goodIn_app (goodIn_of _ (by decide +kernel)) ggX3_read_X4_beUntold
set_option maxRecDepth 20000 in
theorem ggX3_read_X3_nextToken : GoodIn wsX3_read wsX3_nextToken := goodIn_r _ [29, 1, 30, 31, 4, 3, 32, 33, 28, 34, 35, 36, 37, 38, 39, 40, 41, 42, 43, 44, 45, 46, 47, 48, 49, 50, 51, 52, 53, 54, 55, 56, 57, 58, 59, 60, 61, 62, 63, 64, 65, 66, 67, 68, 69, 70, 71, 72, 73, 74, 75, 76, 77, 78, 79, 80, 81, 82, 83, 84, 85, 86, 87, 88, 89, 90, 91, 92, 93, 94, 95, 96, 97, 98, 99, 100, 101, 102, 103, 104, 105, 106, 115, 116, 117, 118, 119, 120, 121] (by decide +kernel) (by decide +kernel)
set_option maxRecDepth 20000 in
theorem gX3_read_X3_nextToken : GoodIn wsX3_read (wsV RX3 32 RX3 yX3_nextToken wsX3_nextToken) := goodIn_app (goodIn_of _ (by decide +kernel)) ggX3_read_X3_nextToken
set_option maxRecDepth 20000 in
theorem ggX3_read_X3_readItem : GoodIn wsX3_read wsX3_readItem := goodIn_r _ [110, 3, 2, 39, 25, 26, 27, 28, 29, 1, 30, 31, 4, 32, 33, 34, 35, 36, 37, 38, 40, 41, 42, 43, 44, 45, 46, 47, 48, 49, 50, 51, 52, 53, 54, 55, 56, 57, 58, 59, 60, 61, 62, 63, 64, 65, 66, 67, 68, 69, 70, 71, 72, 73, 74, 75, 76, 77, 78, 79, 80, 81, 82, 83, 84, 85, 86, 87, 88, 89, 90, 91, 92, 93, 94, 95, 96, 97, 98, 99, 100, 101, 102, 103, 104, 105, 106, 111, 112, 113, 114, 11, 12, 8, 13, 14, 15, 16, 17, 18, 19, 20, 21, 22, 23, 24, 115, 116, 117, 118, 119, 120, 121, 122, 123, 124, 125, 126, 127, 128, 129, 130, 131, 132] (by decide +kernel) (by decide +kernel)
set_option maxRecDepth 20000 in
theorem gX3_read_X3_readItem : GoodIn wsX3_read (wsV RX3 38 RX3 yX3_readItem wsX3_readItem) := goodIn_app (goodIn_of _ (by decide +kernel)) ggX3_read_X3_readItem
theorem dX3_read_0 : decode cX3_read 0 = .ok (.aload_n 0, 1) := by decide +kernel
theorem dX3_read_1 : decode cX3_read 1 = .ok (.iconst 0, 1) := by decide +kernel
theorem dX3_read_2 : decode cX3_read 2 = .ok (.putfield 21, 3) := by decide +kernel
theorem dX3_read_5 : decode cX3_read 5 = .ok (.aload_n 0, 1) := by decide +kernel
theorem dX3_read_6 : decode cX3_read 6 = .ok (.iconst 0, 1) := by decide +kernel
theorem dX3_read_7 : decode cX3_read 7 = .ok (.putfield 24, 3) := by decide +kernel
theorem dX3_read_10 : decode cX3_read 10 = .ok (.aload_n 1, 1) := by decide +kernel
theorem dX3_read_11 : decode cX3_read 11 = .ok (.invokevirtual 27, 3) := by decide +kernel
theorem dX3_read_14 : decode cX3_read 14 = .ok (.iconst 0, 1) := by decide +kernel
theorem dX3_read_15 : decode cX3_read 15 = .ok (.istore_n 2, 1) := by decide +kernel
theorem dX3_read_16 : decode cX3_read 16 = .ok (.iload_n 2, 1) := by decide +kernel
theorem dX3_read_17 : decode cX3_read 17 = .ok (.bipush 6, 2) := by decide +kernel
theorem dX3_read_19 : decode cX3_read 19 = .ok (.if_icmp .gt 33, 3) := by decide +kernel
theorem dX3_read_22 : decode cX3_read 22 = .ok (.aload_n 0, 1) := by decide +kernel
theorem dX3_read_23 : decode cX3_read 23 = .ok (.invokevirtual 32, 3) := by decide +kernel
theorem dX3_read_26 : decode cX3_read 26 = .ok (.aload_n 0, 1) := by decide +kernel
theorem dX3_read_27 : decode cX3_read 27 = .ok (.getfield 35, 3) := by decide +kernel
theorem dX3_read_30 : decode cX3_read 30 = .ok (.ifCond .ne 5, 3) := by decide +kernel
theorem dX3_read_33 : decode cX3_read 33 = .ok (.iload_n 2, 1) := by decide +kernel
theorem dX3_read_34 : decode cX3_read 34 = .ok (.ireturn, 1) := by decide +kernel
theorem dX3_read_35 : decode cX3_read 35 = .ok (.aload_n 0, 1) := by decide +kernel
theorem dX3_read_36 : decode cX3_read 36 = .ok (.aload_n 1, 1) := by decide +kernel
theorem dX3_read_37 : decode cX3_read 37 = .ok (.invokevirtual 38, 3) := by decide +kernel
theorem dX3_read_40 : decode cX3_read 40 = .ok (.ifCond .ne 6, 3) := by decide +kernel
theorem dX3_read_43 : decode cX3_read 43 = .ok (.goto 9, 3) := by decide +kernel
theorem dX3_read_46 : decode cX3_read 46 = .ok (.iinc 2 1, 3) := by decide +kernel
theorem dX3_read_49 : decode cX3_read 49 = .ok (.goto (-33), 3) := by decide +kernel
theorem dX3_read_52 : decode cX3_read 52 = .ok (.bipush (-10), 2) := by decide +kernel
theorem dX3_read_54 : decode cX3_read 54 = .ok (.aload_n 0, 1) := by decide +kernel
theorem dX3_read_55 : decode cX3_read 55 = .ok (.getfield 42, 3) := by decide +kernel
theorem dX3_read_58 : decode cX3_read 58 = .ok (.isub, 1) := by decide +kernel
theorem dX3_read_59 : decode cX3_read 59 = .ok (.ireturn, 1) := by decide +kernel
set_option maxRecDepth 20000 in
theorem ggX3_readItem_X3_nextToken : GoodIn wsX3_readItem wsX3_nextToken := goodIn_r _ [8, 9, 10, 11, 12, 1, 13, 14, 7, 15, 16, 17, 18, 19, 3, 20, 21, 22, 23, 24, 25, 26, 27, 28, 29, 30, 31, 32, 33, 34, 35, 36, 37, 38, 39, 40, 41, 42, 43, 44, 45, 46, 47, 48, 49, 50, 51, 52, 53, 54, 55, 56, 57, 58, 59, 60, 61, 62, 63, 64, 65, 66, 67, 68, 69, 70, 71, 72, 73, 74, 75, 76, 77, 78, 79, 80, 81, 82, 83, 84, 85, 86, 106, 107, 108, 109, 110, 111, 112] (by decide +kernel) (by decide +kernel)
set_option maxRecDepth 20000 in
theorem gX3_readItem_X3_nextToken : GoodIn wsX3_readItem (wsV RX3 32 RX3 yX3_nextToken wsX3_nextToken) := goodIn_app (goodIn_of _ (by decide +kernel)) ggX3_readItem_X3_nextToken
set_option maxRecDepth 20000 in
theorem ggX3_readItem_X6_outside : GoodIn wsX3_readItem wsX6_outside := goodIn_r _ [89] (by decide +kernel) (by decide +kernel)
set_option maxRecDepth 20000 in
theorem gX3_readItem_X6_outside_n57 : GoodIn wsX3_readItem (wsX6_outside) := ggX3_readItem_X6_outside
set_option maxRecDepth 20000 in
theorem ggX3_readItem_X4_put : GoodIn wsX3_readItem wsX4_put := goodIn_r _ [94, 95, 96, 97, 98, 99, 100, 101, 102, 103, 104, 105, 113, 114, 115, 116, 117, 118, 119, 120, 121, 122, 123] (by decide +kernel) (by decide +kernel)
set_option maxRecDepth 20000 in
theorem gX3_readItem_X4_put : GoodIn wsX3_readItem (wsV RX3 61 RX4 yX4_put wsX4_put) := goodIn_app (goodIn_of _ (by decide +kernel)) ggX3_readItem_X4_put
theorem dX3_readItem_0 : decode cX3_readItem 0 = .ok (.aload_n 0, 1) := by decide +kernel
theorem dX3_readItem_1 : decode cX3_readItem 1 = .ok (.getfield 35, 3) := by decide +kernel
theorem dX3_readItem_4 : decode cX3_readItem 4 = .ok (.iconst 1, 1) := by decide +kernel
theorem dX3_readItem_5 : decode cX3_readItem 5 = .ok (.if_icmp .ne 18, 3) := by decide +kernel
theorem dX3_readItem_8 : decode cX3_readItem 8 = .ok (.aload_n 0, 1) := by decide +kernel
theorem dX3_readItem_9 : decode cX3_readItem 9 = .ok (.getfield 24, 3) := by decide +kernel
theorem dX3_readItem_12 : decode cX3_readItem 12 = .ok (.aload_n 0, 1) := by decide +kernel
theorem dX3_readItem_13 : decode cX3_readItem 13 = .ok (.getfield 45, 3) := by decide +kernel
theorem dX3_readItem_16 : decode cX3_readItem 16 = .ok (.ishr, 1) := by decide +kernel
theorem dX3_readItem_17 : decode cX3_readItem 17 = .ok (.iconst 1, 1) := by decide +kernel
theorem dX3_readItem_18 : decode cX3_readItem 18 = .ok (.iand, 1) := by decide +kernel
theorem dX3_readItem_19 : decode cX3_readItem 19 = .ok (.iconst 1, 1) := by decide +kernel
theorem dX3_readItem_20 : decode cX3_readItem 20 = .ok (.if_icmp .ne 5, 3) := by decide +kernel
theorem dX3_readItem_23 : decode cX3_readItem 23 = .ok (.iconst 0, 1) := by decide +kernel
theorem dX3_readItem_24 : decode cX3_readItem 24 = .ok (.ireturn, 1) := by decide +kernel
theorem dX3_readItem_25 : decode cX3_readItem 25 = .ok (.aload_n 0, 1) := by decide +kernel
theorem dX3_readItem_26 : decode cX3_readItem 26 = .ok (.getfield 45, 3) := by decide +kernel
theorem dX3_readItem_29 : decode cX3_readItem 29 = .ok (.istore_n 2, 1) := by decide +kernel
theorem dX3_readItem_30 : decode cX3_readItem 30 = .ok (.aload_n 0, 1) := by decide +kernel
theorem dX3_readItem_31 : decode cX3_readItem 31 = .ok (.dup, 1) := by decide +kernel
theorem dX3_readItem_32 : decode cX3_readItem 32 = .ok (.getfield 24, 3) := by decide +kernel
theorem dX3_readItem_35 : decode cX3_readItem 35 = .ok (.iconst 1, 1) := by decide +kernel
theorem dX3_readItem_36 : decode cX3_readItem 36 = .ok (.iload_n 2, 1) := by decide +kernel
theorem dX3_readItem_37 : decode cX3_readItem 37 = .ok (.ishl, 1) := by decide +kernel
theorem dX3_readItem_38 : decode cX3_readItem 38 = .ok (.ior, 1) := by decide +kernel
theorem dX3_readItem_39 : decode cX3_readItem 39 = .ok (.putfield 24, 3) := by decide +kernel
theorem dX3_readItem_42 : decode cX3_readItem 42 = .ok (.getstatic 48, 3) := by decide +kernel
theorem dX3_readItem_45 : decode cX3_readItem 45 = .ok (.iload_n 2, 1) := by decide +kernel
theorem dX3_readItem_46 : decode cX3_readItem 46 = .ok (.iaload, 1) := by decide +kernel
theorem dX3_readItem_47 : decode cX3_readItem 47 = .ok (.istore_n 3, 1) := by decide +kernel
theorem dX3_readItem_48 : decode cX3_readItem 48 = .ok (.iload_n 3, 1) := by decide +kernel
theorem dX3_readItem_49 : decode cX3_readItem 49 = .ok (.getstatic 48, 3) := by decide +kernel
theorem dX3_readItem_52 : decode cX3_readItem 52 = .ok (.iload_n 2, 1) := by decide +kernel
theorem dX3_readItem_53 : decode cX3_readItem 53 = .ok (.iconst 1, 1) := by decide +kernel
theorem dX3_readItem_54 : decode cX3_readItem 54 = .ok (.iadd, 1) := by decide +kernel
theorem dX3_readItem_55 : decode cX3_readItem 55 = .ok (.iaload, 1) := by decide +kernel
theorem dX3_readItem_56 : decode cX3_readItem 56 = .ok (.if_icmp .ge 52, 3) := by decide +kernel
theorem dX3_readItem_59 : decode cX3_readItem 59 = .ok (.aload_n 0, 1) := by decide +kernel
theorem dX3_readItem_60 : decode cX3_readItem 60 = .ok (.invokevirtual 32, 3) := by decide +kernel
theorem dX3_readItem_63 : decode cX3_readItem 63 = .ok (.aload_n 0, 1) := by decide +kernel
theorem dX3_readItem_64 : decode cX3_readItem 64 = .ok (.getfield 35, 3) := by decide +kernel
theorem dX3_readItem_67 : decode cX3_readItem 67 = .ok (.iconst 2, 1) := by decide +kernel
theorem dX3_readItem_68 : decode cX3_readItem 68 = .ok (.if_icmp .ne 23, 3) := by decide +kernel
theorem dX3_readItem_71 : decode cX3_readItem 71 = .ok (.aload_n 0, 1) := by decide +kernel
theorem dX3_readItem_72 : decode cX3_readItem 72 = .ok (.getfield 45, 3) := by decide +kernel
theorem dX3_readItem_75 : decode cX3_readItem 75 = .ok (.getstatic 51, 3) := by decide +kernel
theorem dX3_readItem_78 : decode cX3_readItem 78 = .ok (.iload_n 3, 1) := by decide +kernel
theorem dX3_readItem_79 : decode cX3_readItem 79 = .ok (.iaload, 1) := by decide +kernel
theorem dX3_readItem_80 : decode cX3_readItem 80 = .ok (.getstatic 54, 3) := by decide +kernel
theorem dX3_readItem_83 : decode cX3_readItem 83 = .ok (.iload_n 3, 1) := by decide +kernel
theorem dX3_readItem_84 : decode cX3_readItem 84 = .ok (.iaload, 1) := by decide +kernel
theorem dX3_readItem_85 : decode cX3_readItem 85 = .ok (.invokestatic 57, 3) := by decide +kernel
theorem dX3_readItem_88 : decode cX3_readItem 88 = .ok (.ifCond .eq 5, 3) := by decide +kernel
theorem dX3_readItem_91 : decode cX3_readItem 91 = .ok (.iconst 0, 1) := by decide +kernel
theorem dX3_readItem_92 : decode cX3_readItem 92 = .ok (.ireturn, 1) := by decide +kernel
theorem dX3_readItem_93 : decode cX3_readItem 93 = .ok (.aload_n 1, 1) := by decide +kernel
theorem dX3_readItem_94 : decode cX3_readItem 94 = .ok (.iload_n 3, 1) := by decide +kernel
theorem dX3_readItem_95 : decode cX3_readItem 95 = .ok (.aload_n 0, 1) := by decide +kernel
theorem dX3_readItem_96 : decode cX3_readItem 96 = .ok (.getfield 45, 3) := by decide +kernel
theorem dX3_readItem_99 : decode cX3_readItem 99 = .ok (.invokevirtual 61, 3) := by decide +kernel
theorem dX3_readItem_102 : decode cX3_readItem 102 = .ok (.iinc 3 1, 3) := by decide +kernel
theorem dX3_readItem_105 : decode cX3_readItem 105 = .ok (.goto (-57), 3) := by decide +kernel
theorem dX3_readItem_108 : decode cX3_readItem 108 = .ok (.aload_n 0, 1) := by decide +kernel
theorem dX3_readItem_109 : decode cX3_readItem 109 = .ok (.invokevirtual 32, 3) := by decide +kernel
theorem dX3_readItem_112 : decode cX3_readItem 112 = .ok (.aload_n 0, 1) := by decide +kernel
theorem dX3_readItem_113 : decode cX3_readItem 113 = .ok (.getfield 35, 3) := by decide +kernel
theorem dX3_readItem_116 : decode cX3_readItem 116 = .ok (.iconst 3, 1) := by decide +kernel
theorem dX3_readItem_117 : decode cX3_readItem 117 = .ok (.if_icmp .ne 7, 3) := by decide +kernel
theorem dX3_readItem_120 : decode cX3_readItem 120 = .ok (.iconst 1, 1) := by decide +kernel
theorem dX3_readItem_121 : decode cX3_readItem 121 = .ok (.goto 4, 3) := by decide +kernel
theorem dX3_readItem_124 : decode cX3_readItem 124 = .ok (.iconst 0, 1) := by decide +kernel
theorem dX3_readItem_125 : decode cX3_readItem 125 = .ok (.ireturn, 1) := by decide +kernel
set_option maxRecDepth 20000 in
theorem ggX3_nextToken_X3_isDigit : GoodIn wsX3_nextToken wsX3_isDigit := goodIn_r _ [9] (by decide +kernel) (by decide +kernel)
set_option maxRecDepth 20000 in
theorem gX3_nextToken_X3_isDigit : GoodIn wsX3_nextToken (va_wsS RX3 65 yX3_isDigit wsX3_isDigit) := goodIn_app (goodIn_of _ (by decide +kernel)) ggX3_nextToken_X3_isDigit
set_option maxRecDepth 20000 in
theorem ggX3_nextToken_X3_nextNumber : GoodIn wsX3_nextToken wsX3_nextNumber := goodIn_r _ [13, 3, 1, 14, 2, 15, 16, 17, 18, 4, 5, 6, 7, 8, 9, 82, 83, 84, 85, 86, 87, 88] (by decide +kernel) (by decide +kernel)
set_option maxRecDepth 20000 in
theorem gX3_nextToken_X3_nextNumber : GoodIn wsX3_nextToken (wsV RX3 69 RX3 yX3_nextNumber wsX3_nextNumber) := goodIn_app (goodIn_of _ (by decide +kernel)) ggX3_nextToken_X3_nextNumber
set_option maxRecDepth 20000 in
theorem ggX3_nextToken_X3_isLetter : GoodIn wsX3_nextToken wsX3_isLetter := goodIn_r _ [21] (by decide +kernel) (by decide +kernel)
set_option maxRecDepth 20000 in
theorem gX3_nextToken_X3_isLetter : GoodIn wsX3_nextToken (va_wsS RX3 72 yX3_isLetter wsX3_isLetter) := goodIn_app (goodIn_of _ (by decide +kernel)) ggX3_nextToken_X3_isLetter
set_option maxRecDepth 20000 in
theorem ggX3_nextToken_X3_nextWord : GoodIn wsX3_nextToken wsX3_nextWord := goodIn_r _ [25, 1, 2, 3, 5, 14, 19, 20, 8, 21, 26, 27, 28, 29, 30, 31, 32, 4, 33, 34, 35, 36, 37, 38, 39, 40, 41, 42, 43, 44, 45, 46, 47, 48, 49, 50, 51, 52, 53, 54, 55, 56, 57, 58, 59, 60, 61, 62, 63, 64, 65, 66, 67, 68, 69, 70, 71, 72, 73, 74, 75, 76, 77, 78, 79, 80, 81, 82, 83, 84, 85, 86, 87, 88] (by decide +kernel) (by decide +kernel)
set_option maxRecDepth 20000 in
theorem gX3_nextToken_X3_nextWord : GoodIn wsX3_nextToken (wsV RX3 75 RX3 yX3_nextWord wsX3_nextWord) := goodIn_app (goodIn_of _ (by decide +kernel)) ggX3_nextToken_X3_nextWord
theorem dX3_nextToken_0 : decode cX3_nextToken 0 = .ok (.aload_n 0, 1) := by decide +kernel
theorem dX3_nextToken_1 : decode cX3_nextToken 1 = .ok (.getfield 21, 3) := by decide +kernel
theorem dX3_nextToken_4 : decode cX3_nextToken 4 = .ok (.aload_n 0, 1) := by decide +kernel
theorem dX3_nextToken_5 : decode cX3_nextToken 5 = .ok (.getfield 15, 3) := by decide +kernel
theorem dX3_nextToken_8 : decode cX3_nextToken 8 = .ok (.if_icmp .ge 30, 3) := by decide +kernel
theorem dX3_nextToken_11 : decode cX3_nextToken 11 = .ok (.aload_n 0, 1) := by decide +kernel
theorem dX3_nextToken_12 : decode cX3_nextToken 12 = .ok (.getfield 9, 3) := by decide +kernel
theorem dX3_nextToken_15 : decode cX3_nextToken 15 = .ok (.aload_n 0, 1) := by decide +kernel
theorem dX3_nextToken_16 : decode cX3_nextToken 16 = .ok (.getfield 21, 3) := by decide +kernel
theorem dX3_nextToken_19 : decode cX3_nextToken 19 = .ok (.iaload, 1) := by decide +kernel
theorem dX3_nextToken_20 : decode cX3_nextToken 20 = .ok (.bipush 32, 2) := by decide +kernel
theorem dX3_nextToken_22 : decode cX3_nextToken 22 = .ok (.if_icmp .ne 16, 3) := by decide +kernel
theorem dX3_nextToken_25 : decode cX3_nextToken 25 = .ok (.aload_n 0, 1) := by decide +kernel
theorem dX3_nextToken_26 : decode cX3_nextToken 26 = .ok (.dup, 1) := by decide +kernel
theorem dX3_nextToken_27 : decode cX3_nextToken 27 = .ok (.getfield 21, 3) := by decide +kernel
theorem dX3_nextToken_30 : decode cX3_nextToken 30 = .ok (.iconst 1, 1) := by decide +kernel
theorem dX3_nextToken_31 : decode cX3_nextToken 31 = .ok (.iadd, 1) := by decide +kernel
theorem dX3_nextToken_32 : decode cX3_nextToken 32 = .ok (.putfield 21, 3) := by decide +kernel
theorem dX3_nextToken_35 : decode cX3_nextToken 35 = .ok (.goto (-35), 3) := by decide +kernel
theorem dX3_nextToken_38 : decode cX3_nextToken 38 = .ok (.aload_n 0, 1) := by decide +kernel
theorem dX3_nextToken_39 : decode cX3_nextToken 39 = .ok (.aload_n 0, 1) := by decide +kernel
theorem dX3_nextToken_40 : decode cX3_nextToken 40 = .ok (.getfield 21, 3) := by decide +kernel
theorem dX3_nextToken_43 : decode cX3_nextToken 43 = .ok (.putfield 42, 3) := by decide +kernel
theorem dX3_nextToken_46 : decode cX3_nextToken 46 = .ok (.aload_n 0, 1) := by decide +kernel
theorem dX3_nextToken_47 : decode cX3_nextToken 47 = .ok (.getfield 21, 3) := by decide +kernel
theorem dX3_nextToken_50 : decode cX3_nextToken 50 = .ok (.aload_n 0, 1) := by decide +kernel
theorem dX3_nextToken_51 : decode cX3_nextToken 51 = .ok (.getfield 15, 3) := by decide +kernel
theorem dX3_nextToken_54 : decode cX3_nextToken 54 = .ok (.if_icmp .lt 11, 3) := by decide +kernel
theorem dX3_nextToken_57 : decode cX3_nextToken 57 = .ok (.aload_n 0, 1) := by decide +kernel
theorem dX3_nextToken_58 : decode cX3_nextToken 58 = .ok (.iconst 0, 1) := by decide +kernel
theorem dX3_nextToken_59 : decode cX3_nextToken 59 = .ok (.putfield 35, 3) := by decide +kernel
theorem dX3_nextToken_62 : decode cX3_nextToken 62 = .ok (.goto 84, 3) := by decide +kernel
theorem dX3_nextToken_65 : decode cX3_nextToken 65 = .ok (.aload_n 0, 1) := by decide +kernel
theorem dX3_nextToken_66 : decode cX3_nextToken 66 = .ok (.getfield 9, 3) := by decide +kernel
theorem dX3_nextToken_69 : decode cX3_nextToken 69 = .ok (.aload_n 0, 1) := by decide +kernel
theorem dX3_nextToken_70 : decode cX3_nextToken 70 = .ok (.getfield 21, 3) := by decide +kernel
theorem dX3_nextToken_73 : decode cX3_nextToken 73 = .ok (.iaload, 1) := by decide +kernel
theorem dX3_nextToken_74 : decode cX3_nextToken 74 = .ok (.bipush 59, 2) := by decide +kernel
theorem dX3_nextToken_76 : decode cX3_nextToken 76 = .ok (.if_icmp .ne 21, 3) := by decide +kernel
theorem dX3_nextToken_79 : decode cX3_nextToken 79 = .ok (.aload_n 0, 1) := by decide +kernel
theorem dX3_nextToken_80 : decode cX3_nextToken 80 = .ok (.dup, 1) := by decide +kernel
theorem dX3_nextToken_81 : decode cX3_nextToken 81 = .ok (.getfield 21, 3) := by decide +kernel
theorem dX3_nextToken_84 : decode cX3_nextToken 84 = .ok (.iconst 1, 1) := by decide +kernel
theorem dX3_nextToken_85 : decode cX3_nextToken 85 = .ok (.iadd, 1) := by decide +kernel
theorem dX3_nextToken_86 : decode cX3_nextToken 86 = .ok (.putfield 21, 3) := by decide +kernel
theorem dX3_nextToken_89 : decode cX3_nextToken 89 = .ok (.aload_n 0, 1) := by decide +kernel
theorem dX3_nextToken_90 : decode cX3_nextToken 90 = .ok (.iconst 3, 1) := by decide +kernel
theorem dX3_nextToken_91 : decode cX3_nextToken 91 = .ok (.putfield 35, 3) := by decide +kernel
theorem dX3_nextToken_94 : decode cX3_nextToken 94 = .ok (.goto 52, 3) := by decide +kernel
theorem dX3_nextToken_97 : decode cX3_nextToken 97 = .ok (.aload_n 0, 1) := by decide +kernel
theorem dX3_nextToken_98 : decode cX3_nextToken 98 = .ok (.getfield 9, 3) := by decide +kernel
theorem dX3_nextToken_101 : decode cX3_nextToken 101 = .ok (.aload_n 0, 1) := by decide +kernel
theorem dX3_nextToken_102 : decode cX3_nextToken 102 = .ok (.getfield 21, 3) := by decide +kernel
theorem dX3_nextToken_105 : decode cX3_nextToken 105 = .ok (.iaload, 1) := by decide +kernel
theorem dX3_nextToken_106 : decode cX3_nextToken 106 = .ok (.invokestatic 65, 3) := by decide +kernel
theorem dX3_nextToken_109 : decode cX3_nextToken 109 = .ok (.ifCond .eq 10, 3) := by decide +kernel
theorem dX3_nextToken_112 : decode cX3_nextToken 112 = .ok (.aload_n 0, 1) := by decide +kernel
theorem dX3_nextToken_113 : decode cX3_nextToken 113 = .ok (.invokevirtual 69, 3) := by decide +kernel
theorem dX3_nextToken_116 : decode cX3_nextToken 116 = .ok (.goto 30, 3) := by decide +kernel
theorem dX3_nextToken_119 : decode cX3_nextToken 119 = .ok (.aload_n 0, 1) := by decide +kernel
theorem dX3_nextToken_120 : decode cX3_nextToken 120 = .ok (.getfield 9, 3) := by decide +kernel
theorem dX3_nextToken_123 : decode cX3_nextToken 123 = .ok (.aload_n 0, 1) := by decide +kernel
theorem dX3_nextToken_124 : decode cX3_nextToken 124 = .ok (.getfield 21, 3) := by decide +kernel
theorem dX3_nextToken_127 : decode cX3_nextToken 127 = .ok (.iaload, 1) := by decide +kernel
theorem dX3_nextToken_128 : decode cX3_nextToken 128 = .ok (.invokestatic 72, 3) := by decide +kernel
theorem dX3_nextToken_131 : decode cX3_nextToken 131 = .ok (.ifCond .eq 10, 3) := by decide +kernel
theorem dX3_nextToken_134 : decode cX3_nextToken 134 = .ok (.aload_n 0, 1) := by decide +kernel
theorem dX3_nextToken_135 : decode cX3_nextToken 135 = .ok (.invokevirtual 75, 3) := by decide +kernel
theorem dX3_nextToken_138 : decode cX3_nextToken 138 = .ok (.goto 8, 3) := by decide +kernel
theorem dX3_nextToken_141 : decode cX3_nextToken 141 = .ok (.aload_n 0, 1) := by decide +kernel
theorem dX3_nextToken_142 : decode cX3_nextToken 142 = .ok (.iconst 4, 1) := by decide +kernel
theorem dX3_nextToken_143 : decode cX3_nextToken 143 = .ok (.putfield 35, 3) := by decide +kernel
theorem dX3_nextToken_146 : decode cX3_nextToken 146 = .ok (.return_, 1) := by decide +kernel
set_option maxRecDepth 20000 in
theorem ggX3_nextNumber_X3_isDigit : GoodIn wsX3_nextNumber wsX3_isDigit := goodIn_r _ [14] (by decide +kernel) (by decide +kernel)
set_option maxRecDepth 20000 in
theorem gX3_nextNumber_X3_isDigit : GoodIn wsX3_nextNumber (va_wsS RX3 65 yX3_isDigit wsX3_isDigit) := goodIn_app (goodIn_of _ (by decide +kernel)) ggX3_nextNumber_X3_isDigit
theorem dX3_nextNumber_0 : decode cX3_nextNumber 0 = .ok (.aload_n 0, 1) := by decide +kernel
theorem dX3_nextNumber_1 : decode cX3_nextNumber 1 = .ok (.getfield 9, 3) := by decide +kernel
theorem dX3_nextNumber_4 : decode cX3_nextNumber 4 = .ok (.aload_n 0, 1) := by decide +kernel
theorem dX3_nextNumber_5 : decode cX3_nextNumber 5 = .ok (.getfield 21, 3) := by decide +kernel
theorem dX3_nextNumber_8 : decode cX3_nextNumber 8 = .ok (.iaload, 1) := by decide +kernel
theorem dX3_nextNumber_9 : decode cX3_nextNumber 9 = .ok (.bipush 48, 2) := by decide +kernel
theorem dX3_nextNumber_11 : decode cX3_nextNumber 11 = .ok (.if_icmp .ne 7, 3) := by decide +kernel
theorem dX3_nextNumber_14 : decode cX3_nextNumber 14 = .ok (.iconst 1, 1) := by decide +kernel
theorem dX3_nextNumber_15 : decode cX3_nextNumber 15 = .ok (.goto 4, 3) := by decide +kernel
theorem dX3_nextNumber_18 : decode cX3_nextNumber 18 = .ok (.iconst 0, 1) := by decide +kernel
theorem dX3_nextNumber_19 : decode cX3_nextNumber 19 = .ok (.istore_n 1, 1) := by decide +kernel
theorem dX3_nextNumber_20 : decode cX3_nextNumber 20 = .ok (.aload_n 0, 1) := by decide +kernel
theorem dX3_nextNumber_21 : decode cX3_nextNumber 21 = .ok (.iconst 0, 1) := by decide +kernel
theorem dX3_nextNumber_22 : decode cX3_nextNumber 22 = .ok (.putfield 45, 3) := by decide +kernel
theorem dX3_nextNumber_25 : decode cX3_nextNumber 25 = .ok (.aload_n 0, 1) := by decide +kernel
theorem dX3_nextNumber_26 : decode cX3_nextNumber 26 = .ok (.getfield 21, 3) := by decide +kernel
theorem dX3_nextNumber_29 : decode cX3_nextNumber 29 = .ok (.aload_n 0, 1) := by decide +kernel
theorem dX3_nextNumber_30 : decode cX3_nextNumber 30 = .ok (.getfield 15, 3) := by decide +kernel
theorem dX3_nextNumber_33 : decode cX3_nextNumber 33 = .ok (.if_icmp .ge 60, 3) := by decide +kernel
theorem dX3_nextNumber_36 : decode cX3_nextNumber 36 = .ok (.aload_n 0, 1) := by decide +kernel
theorem dX3_nextNumber_37 : decode cX3_nextNumber 37 = .ok (.getfield 9, 3) := by decide +kernel
theorem dX3_nextNumber_40 : decode cX3_nextNumber 40 = .ok (.aload_n 0, 1) := by decide +kernel
theorem dX3_nextNumber_41 : decode cX3_nextNumber 41 = .ok (.getfield 21, 3) := by decide +kernel
theorem dX3_nextNumber_44 : decode cX3_nextNumber 44 = .ok (.iaload, 1) := by decide +kernel
theorem dX3_nextNumber_45 : decode cX3_nextNumber 45 = .ok (.invokestatic 65, 3) := by decide +kernel
theorem dX3_nextNumber_48 : decode cX3_nextNumber 48 = .ok (.ifCond .eq 45, 3) := by decide +kernel
theorem dX3_nextNumber_51 : decode cX3_nextNumber 51 = .ok (.aload_n 0, 1) := by decide +kernel
theorem dX3_nextNumber_52 : decode cX3_nextNumber 52 = .ok (.bipush 101, 2) := by decide +kernel
theorem dX3_nextNumber_54 : decode cX3_nextNumber 54 = .ok (.bipush 10, 2) := by decide +kernel
theorem dX3_nextNumber_56 : decode cX3_nextNumber 56 = .ok (.aload_n 0, 1) := by decide +kernel
theorem dX3_nextNumber_57 : decode cX3_nextNumber 57 = .ok (.getfield 45, 3) := by decide +kernel
theorem dX3_nextNumber_60 : decode cX3_nextNumber 60 = .ok (.imul, 1) := by decide +kernel
theorem dX3_nextNumber_61 : decode cX3_nextNumber 61 = .ok (.aload_n 0, 1) := by decide +kernel
theorem dX3_nextNumber_62 : decode cX3_nextNumber 62 = .ok (.getfield 9, 3) := by decide +kernel
theorem dX3_nextNumber_65 : decode cX3_nextNumber 65 = .ok (.aload_n 0, 1) := by decide +kernel
theorem dX3_nextNumber_66 : decode cX3_nextNumber 66 = .ok (.getfield 21, 3) := by decide +kernel
theorem dX3_nextNumber_69 : decode cX3_nextNumber 69 = .ok (.iaload, 1) := by decide +kernel
theorem dX3_nextNumber_70 : decode cX3_nextNumber 70 = .ok (.iadd, 1) := by decide +kernel
theorem dX3_nextNumber_71 : decode cX3_nextNumber 71 = .ok (.bipush 48, 2) := by decide +kernel
theorem dX3_nextNumber_73 : decode cX3_nextNumber 73 = .ok (.isub, 1) := by decide +kernel
theorem dX3_nextNumber_74 : decode cX3_nextNumber 74 = .ok (.invokestatic 78, 3) := by decide +kernel
theorem dX3_nextNumber_77 : decode cX3_nextNumber 77 = .ok (.putfield 45, 3) := by decide +kernel
theorem dX3_nextNumber_80 : decode cX3_nextNumber 80 = .ok (.aload_n 0, 1) := by decide +kernel
theorem dX3_nextNumber_81 : decode cX3_nextNumber 81 = .ok (.dup, 1) := by decide +kernel
theorem dX3_nextNumber_82 : decode cX3_nextNumber 82 = .ok (.getfield 21, 3) := by decide +kernel
theorem dX3_nextNumber_85 : decode cX3_nextNumber 85 = .ok (.iconst 1, 1) := by decide +kernel
theorem dX3_nextNumber_86 : decode cX3_nextNumber 86 = .ok (.iadd, 1) := by decide +kernel
theorem dX3_nextNumber_87 : decode cX3_nextNumber 87 = .ok (.putfield 21, 3) := by decide +kernel
theorem dX3_nextNumber_90 : decode cX3_nextNumber 90 = .ok (.goto (-65), 3) := by decide +kernel
theorem dX3_nextNumber_93 : decode cX3_nextNumber 93 = .ok (.aload_n 0, 1) := by decide +kernel
theorem dX3_nextNumber_94 : decode cX3_nextNumber 94 = .ok (.getfield 45, 3) := by decide +kernel
theorem dX3_nextNumber_97 : decode cX3_nextNumber 97 = .ok (.bipush 100, 2) := by decide +kernel
theorem dX3_nextNumber_99 : decode cX3_nextNumber 99 = .ok (.if_icmp .gt 20, 3) := by decide +kernel
theorem dX3_nextNumber_102 : decode cX3_nextNumber 102 = .ok (.iload_n 1, 1) := by decide +kernel
theorem dX3_nextNumber_103 : decode cX3_nextNumber 103 = .ok (.ifCond .eq 20, 3) := by decide +kernel
theorem dX3_nextNumber_106 : decode cX3_nextNumber 106 = .ok (.aload_n 0, 1) := by decide +kernel
theorem dX3_nextNumber_107 : decode cX3_nextNumber 107 = .ok (.getfield 21, 3) := by decide +kernel
theorem dX3_nextNumber_110 : decode cX3_nextNumber 110 = .ok (.aload_n 0, 1) := by decide +kernel
theorem dX3_nextNumber_111 : decode cX3_nextNumber 111 = .ok (.getfield 42, 3) := by decide +kernel
theorem dX3_nextNumber_114 : decode cX3_nextNumber 114 = .ok (.isub, 1) := by decide +kernel
theorem dX3_nextNumber_115 : decode cX3_nextNumber 115 = .ok (.iconst 1, 1) := by decide +kernel
theorem dX3_nextNumber_116 : decode cX3_nextNumber 116 = .ok (.if_icmp .le 7, 3) := by decide +kernel
theorem dX3_nextNumber_119 : decode cX3_nextNumber 119 = .ok (.iconst 1, 1) := by decide +kernel
theorem dX3_nextNumber_120 : decode cX3_nextNumber 120 = .ok (.goto 4, 3) := by decide +kernel
theorem dX3_nextNumber_123 : decode cX3_nextNumber 123 = .ok (.iconst 0, 1) := by decide +kernel
theorem dX3_nextNumber_124 : decode cX3_nextNumber 124 = .ok (.istore_n 2, 1) := by decide +kernel
theorem dX3_nextNumber_125 : decode cX3_nextNumber 125 = .ok (.aload_n 0, 1) := by decide +kernel
theorem dX3_nextNumber_126 : decode cX3_nextNumber 126 = .ok (.iload_n 2, 1) := by decide +kernel
theorem dX3_nextNumber_127 : decode cX3_nextNumber 127 = .ok (.ifCond .eq 7, 3) := by decide +kernel
theorem dX3_nextNumber_130 : decode cX3_nextNumber 130 = .ok (.iconst 4, 1) := by decide +kernel
theorem dX3_nextNumber_131 : decode cX3_nextNumber 131 = .ok (.goto 4, 3) := by decide +kernel
theorem dX3_nextNumber_134 : decode cX3_nextNumber 134 = .ok (.iconst 2, 1) := by decide +kernel
theorem dX3_nextNumber_135 : decode cX3_nextNumber 135 = .ok (.putfield 35, 3) := by decide +kernel
theorem dX3_nextNumber_138 : decode cX3_nextNumber 138 = .ok (.return_, 1) := by decide +kernel
set_option maxRecDepth 20000 in
theorem ggX3_nextWord_X3_isLetter : GoodIn wsX3_nextWord wsX3_isLetter := goodIn_r _ [9] (by decide +kernel) (by decide +kernel)
set_option maxRecDepth 20000 in
theorem gX3_nextWord_X3_isLetter : GoodIn wsX3_nextWord (va_wsS RX3 72 yX3_isLetter wsX3_isLetter) := goodIn_app (goodIn_of _ (by decide +kernel)) ggX3_nextWord_X3_isLetter
set_option maxRecDepth 20000 in
theorem ggX3_nextWord_X3_nameOf : GoodIn wsX3_nextWord wsX3_nameOf := goodIn_r _ [12] (by decide +kernel) (by decide +kernel)
set_option maxRecDepth 20000 in
theorem gX3_nextWord_X3_nameOf : GoodIn wsX3_nextWord (va_wsS RX3 84 yX3_nameOf wsX3_nameOf) := goodIn_app (goodIn_of _ (by decide +kernel)) ggX3_nextWord_X3_nameOf
set_option maxRecDepth 20000 in
theorem ggX3_nextWord_X3_tokenIs : GoodIn wsX3_nextWord wsX3_tokenIs := goodIn_r _ [16, 1, 17, 3, 18, 19, 20, 21, 22, 23, 24, 25, 26, 27, 28, 29, 30, 31, 32, 33, 34, 35, 36, 37, 38, 39, 40, 41, 42, 43, 44, 45, 46, 47, 48, 49, 50, 51, 52, 53, 54, 55, 56, 57, 58, 59, 60, 61, 62, 63, 64, 65, 66, 67, 68, 69, 70, 71, 72, 73] (by decide +kernel) (by decide +kernel)
set_option maxRecDepth 20000 in
theorem gX3_nextWord_X3_tokenIs : GoodIn wsX3_nextWord (wsV RX3 88 RX3 yX3_tokenIs wsX3_tokenIs) := goodIn_app (goodIn_of _ (by decide +kernel)) ggX3_nextWord_X3_tokenIs
theorem dX3_nextWord_0 : decode cX3_nextWord 0 = .ok (.aload_n 0, 1) := by decide +kernel
theorem dX3_nextWord_1 : decode cX3_nextWord 1 = .ok (.getfield 21, 3) := by decide +kernel
theorem dX3_nextWord_4 : decode cX3_nextWord 4 = .ok (.aload_n 0, 1) := by decide +kernel
theorem dX3_nextWord_5 : decode cX3_nextWord 5 = .ok (.getfield 15, 3) := by decide +kernel
theorem dX3_nextWord_8 : decode cX3_nextWord 8 = .ok (.if_icmp .ge 31, 3) := by decide +kernel
theorem dX3_nextWord_11 : decode cX3_nextWord 11 = .ok (.aload_n 0, 1) := by decide +kernel
theorem dX3_nextWord_12 : decode cX3_nextWord 12 = .ok (.getfield 9, 3) := by decide +kernel
theorem dX3_nextWord_15 : decode cX3_nextWord 15 = .ok (.aload_n 0, 1) := by decide +kernel
theorem dX3_nextWord_16 : decode cX3_nextWord 16 = .ok (.getfield 21, 3) := by decide +kernel
theorem dX3_nextWord_19 : decode cX3_nextWord 19 = .ok (.iaload, 1) := by decide +kernel
theorem dX3_nextWord_20 : decode cX3_nextWord 20 = .ok (.invokestatic 72, 3) := by decide +kernel
theorem dX3_nextWord_23 : decode cX3_nextWord 23 = .ok (.ifCond .eq 16, 3) := by decide +kernel
theorem dX3_nextWord_26 : decode cX3_nextWord 26 = .ok (.aload_n 0, 1) := by decide +kernel
theorem dX3_nextWord_27 : decode cX3_nextWord 27 = .ok (.dup, 1) := by decide +kernel
theorem dX3_nextWord_28 : decode cX3_nextWord 28 = .ok (.getfield 21, 3) := by decide +kernel
theorem dX3_nextWord_31 : decode cX3_nextWord 31 = .ok (.iconst 1, 1) := by decide +kernel
theorem dX3_nextWord_32 : decode cX3_nextWord 32 = .ok (.iadd, 1) := by decide +kernel
theorem dX3_nextWord_33 : decode cX3_nextWord 33 = .ok (.putfield 21, 3) := by decide +kernel
theorem dX3_nextWord_36 : decode cX3_nextWord 36 = .ok (.goto (-36), 3) := by decide +kernel
theorem dX3_nextWord_39 : decode cX3_nextWord 39 = .ok (.aload_n 0, 1) := by decide +kernel
theorem dX3_nextWord_40 : decode cX3_nextWord 40 = .ok (.iconst 4, 1) := by decide +kernel
theorem dX3_nextWord_41 : decode cX3_nextWord 41 = .ok (.putfield 35, 3) := by decide +kernel
theorem dX3_nextWord_44 : decode cX3_nextWord 44 = .ok (.iconst 0, 1) := by decide +kernel
theorem dX3_nextWord_45 : decode cX3_nextWord 45 = .ok (.istore_n 1, 1) := by decide +kernel
theorem dX3_nextWord_46 : decode cX3_nextWord 46 = .ok (.iload_n 1, 1) := by decide +kernel
theorem dX3_nextWord_47 : decode cX3_nextWord 47 = .ok (.bipush 6, 2) := by decide +kernel
theorem dX3_nextWord_49 : decode cX3_nextWord 49 = .ok (.if_icmp .ge 30, 3) := by decide +kernel
theorem dX3_nextWord_52 : decode cX3_nextWord 52 = .ok (.aload_n 0, 1) := by decide +kernel
theorem dX3_nextWord_53 : decode cX3_nextWord 53 = .ok (.iload_n 1, 1) := by decide +kernel
theorem dX3_nextWord_54 : decode cX3_nextWord 54 = .ok (.invokestatic 84, 3) := by decide +kernel
theorem dX3_nextWord_57 : decode cX3_nextWord 57 = .ok (.invokevirtual 88, 3) := by decide +kernel
theorem dX3_nextWord_60 : decode cX3_nextWord 60 = .ok (.ifCond .eq 13, 3) := by decide +kernel
theorem dX3_nextWord_63 : decode cX3_nextWord 63 = .ok (.aload_n 0, 1) := by decide +kernel
theorem dX3_nextWord_64 : decode cX3_nextWord 64 = .ok (.iconst 1, 1) := by decide +kernel
theorem dX3_nextWord_65 : decode cX3_nextWord 65 = .ok (.putfield 35, 3) := by decide +kernel
theorem dX3_nextWord_68 : decode cX3_nextWord 68 = .ok (.aload_n 0, 1) := by decide +kernel
theorem dX3_nextWord_69 : decode cX3_nextWord 69 = .ok (.iload_n 1, 1) := by decide +kernel
theorem dX3_nextWord_70 : decode cX3_nextWord 70 = .ok (.putfield 45, 3) := by decide +kernel
theorem dX3_nextWord_73 : decode cX3_nextWord 73 = .ok (.iinc 1 1, 3) := by decide +kernel
theorem dX3_nextWord_76 : decode cX3_nextWord 76 = .ok (.goto (-30), 3) := by decide +kernel
theorem dX3_nextWord_79 : decode cX3_nextWord 79 = .ok (.return_, 1) := by decide +kernel
set_option maxRecDepth 20000 in
theorem ggX3_tokenIs_J0_length_8abf5 : GoodIn wsX3_tokenIs wsJ0_length_8abf5 := goodIn_r _ [8, 9, 10, 11, 12, 7, 13, 14, 15] (by decide +kernel) (by decide +kernel)
set_option maxRecDepth 20000 in
theorem gX3_tokenIs_J0_length_8abf5 : GoodIn wsX3_tokenIs (wsV RX3 92 RJ0 yJ0_length_8abf5 wsJ0_length_8abf5) := goodIn_app (goodIn_of _ (by decide +kernel)) ggX3_tokenIs_J0_length_8abf5
set_option maxRecDepth 20000 in
theorem ggX3_tokenIs_J0_charAt_5068e : GoodIn wsX3_tokenIs wsJ0_charAt_5068e := goodIn_r _ [19, 9, 20, 21, 22, 7, 23, 14, 15, 24, 25, 26, 27, 28, 29, 30, 31, 32, 33, 34, 35, 36, 37, 38, 39, 40, 41, 42, 43, 44, 45, 46, 47, 48, 49, 50, 51, 52] (by decide +kernel) (by decide +kernel)
set_option maxRecDepth 20000 in
theorem gX3_tokenIs_J0_charAt_5068e : GoodIn wsX3_tokenIs (wsV RX3 98 RJ0 yJ0_charAt_5068e wsJ0_charAt_5068e) := goodIn_app (goodIn_of _ (by decide +kernel)) ggX3_tokenIs_J0_charAt_5068e
theorem dX3_tokenIs_0 : decode cX3_tokenIs 0 = .ok (.aload_n 0, 1) := by decide +kernel
theorem dX3_tokenIs_1 : decode cX3_tokenIs 1 = .ok (.getfield 21, 3) := by decide +kernel
theorem dX3_tokenIs_4 : decode cX3_tokenIs 4 = .ok (.aload_n 0, 1) := by decide +kernel
theorem dX3_tokenIs_5 : decode cX3_tokenIs 5 = .ok (.getfield 42, 3) := by decide +kernel
theorem dX3_tokenIs_8 : decode cX3_tokenIs 8 = .ok (.isub, 1) := by decide +kernel
theorem dX3_tokenIs_9 : decode cX3_tokenIs 9 = .ok (.aload_n 1, 1) := by decide +kernel
theorem dX3_tokenIs_10 : decode cX3_tokenIs 10 = .ok (.invokevirtual 92, 3) := by decide +kernel
theorem dX3_tokenIs_13 : decode cX3_tokenIs 13 = .ok (.if_icmp .eq 5, 3) := by decide +kernel
theorem dX3_tokenIs_16 : decode cX3_tokenIs 16 = .ok (.iconst 0, 1) := by decide +kernel
theorem dX3_tokenIs_17 : decode cX3_tokenIs 17 = .ok (.ireturn, 1) := by decide +kernel
theorem dX3_tokenIs_18 : decode cX3_tokenIs 18 = .ok (.iconst 0, 1) := by decide +kernel
theorem dX3_tokenIs_19 : decode cX3_tokenIs 19 = .ok (.istore_n 2, 1) := by decide +kernel
theorem dX3_tokenIs_20 : decode cX3_tokenIs 20 = .ok (.iload_n 2, 1) := by decide +kernel
theorem dX3_tokenIs_21 : decode cX3_tokenIs 21 = .ok (.aload_n 1, 1) := by decide +kernel
theorem dX3_tokenIs_22 : decode cX3_tokenIs 22 = .ok (.invokevirtual 92, 3) := by decide +kernel
theorem dX3_tokenIs_25 : decode cX3_tokenIs 25 = .ok (.if_icmp .ge 30, 3) := by decide +kernel
theorem dX3_tokenIs_28 : decode cX3_tokenIs 28 = .ok (.aload_n 0, 1) := by decide +kernel
theorem dX3_tokenIs_29 : decode cX3_tokenIs 29 = .ok (.getfield 9, 3) := by decide +kernel
theorem dX3_tokenIs_32 : decode cX3_tokenIs 32 = .ok (.aload_n 0, 1) := by decide +kernel
theorem dX3_tokenIs_33 : decode cX3_tokenIs 33 = .ok (.getfield 42, 3) := by decide +kernel
theorem dX3_tokenIs_36 : decode cX3_tokenIs 36 = .ok (.iload_n 2, 1) := by decide +kernel
theorem dX3_tokenIs_37 : decode cX3_tokenIs 37 = .ok (.iadd, 1) := by decide +kernel
theorem dX3_tokenIs_38 : decode cX3_tokenIs 38 = .ok (.iaload, 1) := by decide +kernel
theorem dX3_tokenIs_39 : decode cX3_tokenIs 39 = .ok (.aload_n 1, 1) := by decide +kernel
theorem dX3_tokenIs_40 : decode cX3_tokenIs 40 = .ok (.iload_n 2, 1) := by decide +kernel
theorem dX3_tokenIs_41 : decode cX3_tokenIs 41 = .ok (.invokevirtual 98, 3) := by decide +kernel
theorem dX3_tokenIs_44 : decode cX3_tokenIs 44 = .ok (.if_icmp .eq 5, 3) := by decide +kernel
theorem dX3_tokenIs_47 : decode cX3_tokenIs 47 = .ok (.iconst 0, 1) := by decide +kernel
theorem dX3_tokenIs_48 : decode cX3_tokenIs 48 = .ok (.ireturn, 1) := by decide +kernel
theorem dX3_tokenIs_49 : decode cX3_tokenIs 49 = .ok (.iinc 2 1, 3) := by decide +kernel
theorem dX3_tokenIs_52 : decode cX3_tokenIs 52 = .ok (.goto (-32), 3) := by decide +kernel
theorem dX3_tokenIs_55 : decode cX3_tokenIs 55 = .ok (.iconst 1, 1) := by decide +kernel
theorem dX3_tokenIs_56 : decode cX3_tokenIs 56 = .ok (.ireturn, 1) := by decide +kernel
theorem dX3_nameOf_0 : decode cX3_nameOf 0 = .ok (.iload_n 0, 1) := by decide +kernel
theorem dX3_nameOf_1 : decode cX3_nameOf 1 = .ok (.tableswitch 50 0 4 #[35, 38, 41, 44, 47], 35) := by decide +kernel
theorem dX3_nameOf_36 : decode cX3_nameOf 36 = .ok (.ldc 102, 2) := by decide +kernel
theorem dX3_nameOf_38 : decode cX3_nameOf 38 = .ok (.areturn, 1) := by decide +kernel
theorem dX3_nameOf_39 : decode cX3_nameOf 39 = .ok (.ldc 104, 2) := by decide +kernel
theorem dX3_nameOf_41 : decode cX3_nameOf 41 = .ok (.areturn, 1) := by decide +kernel
theorem dX3_nameOf_42 : decode cX3_nameOf 42 = .ok (.ldc 106, 2) := by decide +kernel
theorem dX3_nameOf_44 : decode cX3_nameOf 44 = .ok (.areturn, 1) := by decide +kernel
theorem dX3_nameOf_45 : decode cX3_nameOf 45 = .ok (.ldc 108, 2) := by decide +kernel
theorem dX3_nameOf_47 : decode cX3_nameOf 47 = .ok (.areturn, 1) := by decide +kernel
theorem dX3_nameOf_48 : decode cX3_nameOf 48 = .ok (.ldc 110, 2) := by decide +kernel
theorem dX3_nameOf_50 : decode cX3_nameOf 50 = .ok (.areturn, 1) := by decide +kernel
theorem dX3_nameOf_51 : decode cX3_nameOf 51 = .ok (.ldc 112, 2) := by decide +kernel
theorem dX3_nameOf_53 : decode cX3_nameOf 53 = .ok (.areturn, 1) := by decide +kernel
theorem dX3_isDigit_0 : decode cX3_isDigit 0 = .ok (.iload_n 0, 1) := by decide +kernel
theorem dX3_isDigit_1 : decode cX3_isDigit 1 = .ok (.bipush 48, 2) := by decide +kernel
theorem dX3_isDigit_3 : decode cX3_isDigit 3 = .ok (.if_icmp .lt 13, 3) := by decide +kernel
theorem dX3_isDigit_6 : decode cX3_isDigit 6 = .ok (.iload_n 0, 1) := by decide +kernel
theorem dX3_isDigit_7 : decode cX3_isDigit 7 = .ok (.bipush 57, 2) := by decide +kernel
theorem dX3_isDigit_9 : decode cX3_isDigit 9 = .ok (.if_icmp .gt 7, 3) := by decide +kernel
theorem dX3_isDigit_12 : decode cX3_isDigit 12 = .ok (.iconst 1, 1) := by decide +kernel
theorem dX3_isDigit_13 : decode cX3_isDigit 13 = .ok (.goto 4, 3) := by decide +kernel
theorem dX3_isDigit_16 : decode cX3_isDigit 16 = .ok (.iconst 0, 1) := by decide +kernel
theorem dX3_isDigit_17 : decode cX3_isDigit 17 = .ok (.ireturn, 1) := by decide +kernel
theorem dX3_isLetter_0 : decode cX3_isLetter 0 = .ok (.iload_n 0, 1) := by decide +kernel
theorem dX3_isLetter_1 : decode cX3_isLetter 1 = .ok (.bipush 97, 2) := by decide +kernel
theorem dX3_isLetter_3 : decode cX3_isLetter 3 = .ok (.if_icmp .lt 13, 3) := by decide +kernel
theorem dX3_isLetter_6 : decode cX3_isLetter 6 = .ok (.iload_n 0, 1) := by decide +kernel
theorem dX3_isLetter_7 : decode cX3_isLetter 7 = .ok (.bipush 122, 2) := by decide +kernel
theorem dX3_isLetter_9 : decode cX3_isLetter 9 = .ok (.if_icmp .gt 7, 3) := by decide +kernel
theorem dX3_isLetter_12 : decode cX3_isLetter 12 = .ok (.iconst 1, 1) := by decide +kernel
theorem dX3_isLetter_13 : decode cX3_isLetter 13 = .ok (.goto 4, 3) := by decide +kernel
theorem dX3_isLetter_16 : decode cX3_isLetter 16 = .ok (.iconst 0, 1) := by decide +kernel
theorem dX3_isLetter_17 : decode cX3_isLetter 17 = .ok (.ireturn, 1) := by decide +kernel
set_option maxRecDepth 20000 in
theorem ggX4_init_X4_beUntold : GoodIn wsX4_init wsX4_beUntold := goodIn_r _ [8, 9, 10, 11, 7, 12, 13, 14, 15, 16, 17, 18, 19, 20, 21, 22, 23, 24, 25, 26, 27, 28, 29, 30, 31, 32, 33, 34] (by decide +kernel) (by decide +kernel)
set_option maxRecDepth 20000 in
theorem gX4_init_X4_beUntold : GoodIn wsX4_init (wsV RX4 9 RX4 yX4_beUntold wsX4_beUntold) := goodIn_app (goodIn_of _ (by decide +kernel)) ggX4_init_X4_beUntold
theorem dX4_init_0 : decode cX4_init 0 = .ok (.aload_n 0, 1) := by decide +kernel
theorem dX4_init_1 : decode cX4_init 1 = .ok (.invokespecial 3, 3) := by decide +kernel
theorem dX4_init_4 : decode cX4_init 4 = .ok (.aload_n 0, 1) := by decide +kernel
theorem dX4_init_5 : decode cX4_init 5 = .ok (.invokevirtual 9, 3) := by decide +kernel
theorem dX4_init_8 : decode cX4_init 8 = .ok (.return_, 1) := by decide +kernel
set_option maxRecDepth 20000 in
theorem ggX4_beUntold_X4_put : GoodIn wsX4_beUntold wsX4_put := goodIn_r _ [5, 6, 7, 8, 9, 10, 11, 12, 13, 14, 15, 16, 17, 18, 19, 20, 21, 22, 23, 24, 25, 26, 27] (by decide +kernel) (by decide +kernel)
set_option maxRecDepth 20000 in
theorem gX4_beUntold_X4_put : GoodIn wsX4_beUntold (wsV RX4 18 RX4 yX4_put wsX4_put) := goodIn_app (goodIn_of _ (by decide +kernel)) ggX4_beUntold_X4_put
theorem dX4_beUntold_0 : decode cX4_beUntold 0 = .ok (.iconst 0, 1) := by decide +kernel
theorem dX4_beUntold_1 : decode cX4_beUntold 1 = .ok (.istore_n 1, 1) := by decide +kernel
theorem dX4_beUntold_2 : decode cX4_beUntold 2 = .ok (.iload_n 1, 1) := by decide +kernel
theorem dX4_beUntold_3 : decode cX4_beUntold 3 = .ok (.bipush 11, 2) := by decide +kernel
theorem dX4_beUntold_5 : decode cX4_beUntold 5 = .ok (.if_icmp .ge 19, 3) := by decide +kernel
theorem dX4_beUntold_8 : decode cX4_beUntold 8 = .ok (.aload_n 0, 1) := by decide +kernel
theorem dX4_beUntold_9 : decode cX4_beUntold 9 = .ok (.iload_n 1, 1) := by decide +kernel
theorem dX4_beUntold_10 : decode cX4_beUntold 10 = .ok (.getstatic 14, 3) := by decide +kernel
theorem dX4_beUntold_13 : decode cX4_beUntold 13 = .ok (.iload_n 1, 1) := by decide +kernel
theorem dX4_beUntold_14 : decode cX4_beUntold 14 = .ok (.iaload, 1) := by decide +kernel
theorem dX4_beUntold_15 : decode cX4_beUntold 15 = .ok (.invokevirtual 18, 3) := by decide +kernel
theorem dX4_beUntold_18 : decode cX4_beUntold 18 = .ok (.iinc 1 1, 3) := by decide +kernel
theorem dX4_beUntold_21 : decode cX4_beUntold 21 = .ok (.goto (-19), 3) := by decide +kernel
theorem dX4_beUntold_24 : decode cX4_beUntold 24 = .ok (.return_, 1) := by decide +kernel
set_option maxRecDepth 20000 in
theorem ggX4_beLike_X4_get : GoodIn wsX4_beLike wsX4_get := goodIn_r _ [5, 6, 7, 8, 9, 10, 11, 12, 13, 14, 15, 16, 21, 22, 23, 24, 25, 26, 27, 28, 29, 30, 31] (by decide +kernel) (by decide +kernel)
set_option maxRecDepth 20000 in
theorem gX4_beLike_X4_get : GoodIn wsX4_beLike (wsV RX4 22 RX4 yX4_get wsX4_get) := goodIn_app (goodIn_of _ (by decide +kernel)) ggX4_beLike_X4_get
set_option maxRecDepth 20000 in
theorem ggX4_beLike_X4_put : GoodIn wsX4_beLike wsX4_put := goodIn_r _ [20, 6, 7, 8, 9, 10, 11, 12, 13, 14, 15, 16, 21, 22, 23, 24, 25, 26, 27, 28, 29, 30, 31] (by decide +kernel) (by decide +kernel)
set_option maxRecDepth 20000 in
theorem gX4_beLike_X4_put : GoodIn wsX4_beLike (wsV RX4 18 RX4 yX4_put wsX4_put) := goodIn_app (goodIn_of _ (by decide +kernel)) ggX4_beLike_X4_put
theorem dX4_beLike_0 : decode cX4_beLike 0 = .ok (.iconst 0, 1) := by decide +kernel
theorem dX4_beLike_1 : decode cX4_beLike 1 = .ok (.istore_n 2, 1) := by decide +kernel
theorem dX4_beLike_2 : decode cX4_beLike 2 = .ok (.iload_n 2, 1) := by decide +kernel
theorem dX4_beLike_3 : decode cX4_beLike 3 = .ok (.bipush 11, 2) := by decide +kernel
theorem dX4_beLike_5 : decode cX4_beLike 5 = .ok (.if_icmp .ge 19, 3) := by decide +kernel
theorem dX4_beLike_8 : decode cX4_beLike 8 = .ok (.aload_n 0, 1) := by decide +kernel
theorem dX4_beLike_9 : decode cX4_beLike 9 = .ok (.iload_n 2, 1) := by decide +kernel
theorem dX4_beLike_10 : decode cX4_beLike 10 = .ok (.aload_n 1, 1) := by decide +kernel
theorem dX4_beLike_11 : decode cX4_beLike 11 = .ok (.iload_n 2, 1) := by decide +kernel
theorem dX4_beLike_12 : decode cX4_beLike 12 = .ok (.invokevirtual 22, 3) := by decide +kernel
theorem dX4_beLike_15 : decode cX4_beLike 15 = .ok (.invokevirtual 18, 3) := by decide +kernel
theorem dX4_beLike_18 : decode cX4_beLike 18 = .ok (.iinc 2 1, 3) := by decide +kernel
theorem dX4_beLike_21 : decode cX4_beLike 21 = .ok (.goto (-19), 3) := by decide +kernel
theorem dX4_beLike_24 : decode cX4_beLike 24 = .ok (.return_, 1) := by decide +kernel
theorem dX4_get_0 : decode cX4_get 0 = .ok (.iload_n 1, 1) := by decide +kernel
theorem dX4_get_1 : decode cX4_get 1 = .ok (.tableswitch 105 0 9 #[55, 60, 65, 70, 75, 80, 85, 90, 95, 100], 55) := by decide +kernel
theorem dX4_get_56 : decode cX4_get 56 = .ok (.aload_n 0, 1) := by decide +kernel
theorem dX4_get_57 : decode cX4_get 57 = .ok (.getfield 26, 3) := by decide +kernel
theorem dX4_get_60 : decode cX4_get 60 = .ok (.ireturn, 1) := by decide +kernel
theorem dX4_get_61 : decode cX4_get 61 = .ok (.aload_n 0, 1) := by decide +kernel
theorem dX4_get_62 : decode cX4_get 62 = .ok (.getfield 30, 3) := by decide +kernel
theorem dX4_get_65 : decode cX4_get 65 = .ok (.ireturn, 1) := by decide +kernel
theorem dX4_get_66 : decode cX4_get 66 = .ok (.aload_n 0, 1) := by decide +kernel
theorem dX4_get_67 : decode cX4_get 67 = .ok (.getfield 33, 3) := by decide +kernel
theorem dX4_get_70 : decode cX4_get 70 = .ok (.ireturn, 1) := by decide +kernel
theorem dX4_get_71 : decode cX4_get 71 = .ok (.aload_n 0, 1) := by decide +kernel
theorem dX4_get_72 : decode cX4_get 72 = .ok (.getfield 36, 3) := by decide +kernel
theorem dX4_get_75 : decode cX4_get 75 = .ok (.ireturn, 1) := by decide +kernel
theorem dX4_get_76 : decode cX4_get 76 = .ok (.aload_n 0, 1) := by decide +kernel
theorem dX4_get_77 : decode cX4_get 77 = .ok (.getfield 39, 3) := by decide +kernel
theorem dX4_get_80 : decode cX4_get 80 = .ok (.ireturn, 1) := by decide +kernel
theorem dX4_get_81 : decode cX4_get 81 = .ok (.aload_n 0, 1) := by decide +kernel
theorem dX4_get_82 : decode cX4_get 82 = .ok (.getfield 42, 3) := by decide +kernel
theorem dX4_get_85 : decode cX4_get 85 = .ok (.ireturn, 1) := by decide +kernel
theorem dX4_get_86 : decode cX4_get 86 = .ok (.aload_n 0, 1) := by decide +kernel
theorem dX4_get_87 : decode cX4_get 87 = .ok (.getfield 45, 3) := by decide +kernel
theorem dX4_get_90 : decode cX4_get 90 = .ok (.ireturn, 1) := by decide +kernel
theorem dX4_get_91 : decode cX4_get 91 = .ok (.aload_n 0, 1) := by decide +kernel
theorem dX4_get_92 : decode cX4_get 92 = .ok (.getfield 48, 3) := by decide +kernel
theorem dX4_get_95 : decode cX4_get 95 = .ok (.ireturn, 1) := by decide +kernel
theorem dX4_get_96 : decode cX4_get 96 = .ok (.aload_n 0, 1) := by decide +kernel
theorem dX4_get_97 : decode cX4_get 97 = .ok (.getfield 51, 3) := by decide +kernel
theorem dX4_get_100 : decode cX4_get 100 = .ok (.ireturn, 1) := by decide +kernel
theorem dX4_get_101 : decode cX4_get 101 = .ok (.aload_n 0, 1) := by decide +kernel
theorem dX4_get_102 : decode cX4_get 102 = .ok (.getfield 54, 3) := by decide +kernel
theorem dX4_get_105 : decode cX4_get 105 = .ok (.ireturn, 1) := by decide +kernel
theorem dX4_get_106 : decode cX4_get 106 = .ok (.aload_n 0, 1) := by decide +kernel
theorem dX4_get_107 : decode cX4_get 107 = .ok (.getfield 57, 3) := by decide +kernel
theorem dX4_get_110 : decode cX4_get 110 = .ok (.ireturn, 1) := by decide +kernel
theorem dX4_put_0 : decode cX4_put 0 = .ok (.iload_n 1, 1) := by decide +kernel
theorem dX4_put_1 : decode cX4_put 1 = .ok (.tableswitch 135 0 9 #[55, 63, 71, 79, 87, 95, 103, 111, 119, 127], 55) := by decide +kernel
theorem dX4_put_56 : decode cX4_put 56 = .ok (.aload_n 0, 1) := by decide +kernel
theorem dX4_put_57 : decode cX4_put 57 = .ok (.iload_n 2, 1) := by decide +kernel
theorem dX4_put_58 : decode cX4_put 58 = .ok (.putfield 26, 3) := by decide +kernel
theorem dX4_put_61 : decode cX4_put 61 = .ok (.goto 80, 3) := by decide +kernel
theorem dX4_put_64 : decode cX4_put 64 = .ok (.aload_n 0, 1) := by decide +kernel
theorem dX4_put_65 : decode cX4_put 65 = .ok (.iload_n 2, 1) := by decide +kernel
theorem dX4_put_66 : decode cX4_put 66 = .ok (.putfield 30, 3) := by decide +kernel
theorem dX4_put_69 : decode cX4_put 69 = .ok (.goto 72, 3) := by decide +kernel
theorem dX4_put_72 : decode cX4_put 72 = .ok (.aload_n 0, 1) := by decide +kernel
theorem dX4_put_73 : decode cX4_put 73 = .ok (.iload_n 2, 1) := by decide +kernel
theorem dX4_put_74 : decode cX4_put 74 = .ok (.putfield 33, 3) := by decide +kernel
theorem dX4_put_77 : decode cX4_put 77 = .ok (.goto 64, 3) := by decide +kernel
theorem dX4_put_80 : decode cX4_put 80 = .ok (.aload_n 0, 1) := by decide +kernel
theorem dX4_put_81 : decode cX4_put 81 = .ok (.iload_n 2, 1) := by decide +kernel
theorem dX4_put_82 : decode cX4_put 82 = .ok (.putfield 36, 3) := by decide +kernel
theorem dX4_put_85 : decode cX4_put 85 = .ok (.goto 56, 3) := by decide +kernel
theorem dX4_put_88 : decode cX4_put 88 = .ok (.aload_n 0, 1) := by decide +kernel
theorem dX4_put_89 : decode cX4_put 89 = .ok (.iload_n 2, 1) := by decide +kernel
theorem dX4_put_90 : decode cX4_put 90 = .ok (.putfield 39, 3) := by decide +kernel
theorem dX4_put_93 : decode cX4_put 93 = .ok (.goto 48, 3) := by decide +kernel
theorem dX4_put_96 : decode cX4_put 96 = .ok (.aload_n 0, 1) := by decide +kernel
theorem dX4_put_97 : decode cX4_put 97 = .ok (.iload_n 2, 1) := by decide +kernel
theorem dX4_put_98 : decode cX4_put 98 = .ok (.putfield 42, 3) := by decide +kernel
theorem dX4_put_101 : decode cX4_put 101 = .ok (.goto 40, 3) := by decide +kernel
theorem dX4_put_104 : decode cX4_put 104 = .ok (.aload_n 0, 1) := by decide +kernel
theorem dX4_put_105 : decode cX4_put 105 = .ok (.iload_n 2, 1) := by decide +kernel
theorem dX4_put_106 : decode cX4_put 106 = .ok (.putfield 45, 3) := by decide +kernel
theorem dX4_put_109 : decode cX4_put 109 = .ok (.goto 32, 3) := by decide +kernel
theorem dX4_put_112 : decode cX4_put 112 = .ok (.aload_n 0, 1) := by decide +kernel
theorem dX4_put_113 : decode cX4_put 113 = .ok (.iload_n 2, 1) := by decide +kernel
theorem dX4_put_114 : decode cX4_put 114 = .ok (.putfield 48, 3) := by decide +kernel
theorem dX4_put_117 : decode cX4_put 117 = .ok (.goto 24, 3) := by decide +kernel
theorem dX4_put_120 : decode cX4_put 120 = .ok (.aload_n 0, 1) := by decide +kernel
theorem dX4_put_121 : decode cX4_put 121 = .ok (.iload_n 2, 1) := by decide +kernel
theorem dX4_put_122 : decode cX4_put 122 = .ok (.putfield 51, 3) := by decide +kernel
theorem dX4_put_125 : decode cX4_put 125 = .ok (.goto 16, 3) := by decide +kernel
theorem dX4_put_128 : decode cX4_put 128 = .ok (.aload_n 0, 1) := by decide +kernel
theorem dX4_put_129 : decode cX4_put 129 = .ok (.iload_n 2, 1) := by decide +kernel
theorem dX4_put_130 : decode cX4_put 130 = .ok (.putfield 54, 3) := by decide +kernel
theorem dX4_put_133 : decode cX4_put 133 = .ok (.goto 8, 3) := by decide +kernel
theorem dX4_put_136 : decode cX4_put 136 = .ok (.aload_n 0, 1) := by decide +kernel
theorem dX4_put_137 : decode cX4_put 137 = .ok (.iload_n 2, 1) := by decide +kernel
theorem dX4_put_138 : decode cX4_put 138 = .ok (.putfield 57, 3) := by decide +kernel
theorem dX4_put_141 : decode cX4_put 141 = .ok (.return_, 1) := by decide +kernel
theorem dX4_depth_0 : decode cX4_depth 0 = .ok (.aload_n 0, 1) := by decide +kernel
theorem dX4_depth_1 : decode cX4_depth 1 = .ok (.getfield 39, 3) := by decide +kernel
theorem dX4_depth_4 : decode cX4_depth 4 = .ok (.ifCond .le 12, 3) := by decide +kernel
theorem dX4_depth_7 : decode cX4_depth 7 = .ok (.iload_n 1, 1) := by decide +kernel
theorem dX4_depth_8 : decode cX4_depth 8 = .ok (.aload_n 0, 1) := by decide +kernel
theorem dX4_depth_9 : decode cX4_depth 9 = .ok (.getfield 39, 3) := by decide +kernel
theorem dX4_depth_12 : decode cX4_depth 12 = .ok (.idiv, 1) := by decide +kernel
theorem dX4_depth_13 : decode cX4_depth 13 = .ok (.goto 4, 3) := by decide +kernel
theorem dX4_depth_16 : decode cX4_depth 16 = .ok (.iconst 0, 1) := by decide +kernel
theorem dX4_depth_17 : decode cX4_depth 17 = .ok (.istore_n 2, 1) := by decide +kernel
theorem dX4_depth_18 : decode cX4_depth 18 = .ok (.bipush 10, 2) := by decide +kernel
theorem dX4_depth_20 : decode cX4_depth 20 = .ok (.aload_n 0, 1) := by decide +kernel
theorem dX4_depth_21 : decode cX4_depth 21 = .ok (.getfield 33, 3) := by decide +kernel
theorem dX4_depth_24 : decode cX4_depth 24 = .ok (.imul, 1) := by decide +kernel
theorem dX4_depth_25 : decode cX4_depth 25 = .ok (.iload_n 2, 1) := by decide +kernel
theorem dX4_depth_26 : decode cX4_depth 26 = .ok (.iadd, 1) := by decide +kernel
theorem dX4_depth_27 : decode cX4_depth 27 = .ok (.ireturn, 1) := by decide +kernel
theorem dX4_lift_0 : decode cX4_lift 0 = .ok (.sipush 340, 3) := by decide +kernel
theorem dX4_lift_3 : decode cX4_lift 3 = .ok (.aload_n 0, 1) := by decide +kernel
theorem dX4_lift_4 : decode cX4_lift 4 = .ok (.getfield 54, 3) := by decide +kernel
theorem dX4_lift_7 : decode cX4_lift 7 = .ok (.isub, 1) := by decide +kernel
theorem dX4_lift_8 : decode cX4_lift 8 = .ok (.aload_n 0, 1) := by decide +kernel
theorem dX4_lift_9 : decode cX4_lift 9 = .ok (.getfield 57, 3) := by decide +kernel
theorem dX4_lift_12 : decode cX4_lift 12 = .ok (.isub, 1) := by decide +kernel
theorem dX4_lift_13 : decode cX4_lift 13 = .ok (.ireturn, 1) := by decide +kernel
theorem dX4_airAbove_0 : decode cX4_airAbove 0 = .ok (.bipush 10, 2) := by decide +kernel
theorem dX4_airAbove_2 : decode cX4_airAbove 2 = .ok (.aload_n 0, 1) := by decide +kernel
theorem dX4_airAbove_3 : decode cX4_airAbove 3 = .ok (.getfield 45, 3) := by decide +kernel
theorem dX4_airAbove_6 : decode cX4_airAbove 6 = .ok (.imul, 1) := by decide +kernel
theorem dX4_airAbove_7 : decode cX4_airAbove 7 = .ok (.iload_n 1, 1) := by decide +kernel
theorem dX4_airAbove_8 : decode cX4_airAbove 8 = .ok (.if_icmp .ge 10, 3) := by decide +kernel
theorem dX4_airAbove_11 : decode cX4_airAbove 11 = .ok (.aload_n 0, 1) := by decide +kernel
theorem dX4_airAbove_12 : decode cX4_airAbove 12 = .ok (.getfield 48, 3) := by decide +kernel
theorem dX4_airAbove_15 : decode cX4_airAbove 15 = .ok (.goto 4, 3) := by decide +kernel
theorem dX4_airAbove_18 : decode cX4_airAbove 18 = .ok (.iconst 0, 1) := by decide +kernel
theorem dX4_airAbove_19 : decode cX4_airAbove 19 = .ok (.ireturn, 1) := by decide +kernel
set_option maxRecDepth 20000 in
theorem ggX4_gain_X4_airAbove : GoodIn wsX4_gain wsX4_airAbove := goodIn_r _ [11, 12, 13, 14, 15, 16, 17, 18, 19, 20, 21, 22, 23, 24] (by decide +kernel) (by decide +kernel)
set_option maxRecDepth 20000 in
theorem gX4_gain_X4_airAbove : GoodIn wsX4_gain (wsV RX4 60 RX4 yX4_airAbove wsX4_airAbove) := goodIn_app (goodIn_of _ (by decide +kernel)) ggX4_gain_X4_airAbove
theorem dX4_gain_0 : decode cX4_gain 0 = .ok (.iload_n 2, 1) := by decide +kernel
theorem dX4_gain_1 : decode cX4_gain 1 = .ok (.bipush 10, 2) := by decide +kernel
theorem dX4_gain_3 : decode cX4_gain 3 = .ok (.aload_n 0, 1) := by decide +kernel
theorem dX4_gain_4 : decode cX4_gain 4 = .ok (.getfield 26, 3) := by decide +kernel
theorem dX4_gain_7 : decode cX4_gain 7 = .ok (.imul, 1) := by decide +kernel
theorem dX4_gain_8 : decode cX4_gain 8 = .ok (.if_icmp .le 5, 3) := by decide +kernel
theorem dX4_gain_11 : decode cX4_gain 11 = .ok (.iconst 0, 1) := by decide +kernel
theorem dX4_gain_12 : decode cX4_gain 12 = .ok (.ireturn, 1) := by decide +kernel
theorem dX4_gain_13 : decode cX4_gain 13 = .ok (.iconst 0, 1) := by decide +kernel
theorem dX4_gain_14 : decode cX4_gain 14 = .ok (.aload_n 0, 1) := by decide +kernel
theorem dX4_gain_15 : decode cX4_gain 15 = .ok (.getfield 30, 3) := by decide +kernel
theorem dX4_gain_18 : decode cX4_gain 18 = .ok (.iload_n 1, 1) := by decide +kernel
theorem dX4_gain_19 : decode cX4_gain 19 = .ok (.imul, 1) := by decide +kernel
theorem dX4_gain_20 : decode cX4_gain 20 = .ok (.bipush 100, 2) := by decide +kernel
theorem dX4_gain_22 : decode cX4_gain 22 = .ok (.idiv, 1) := by decide +kernel
theorem dX4_gain_23 : decode cX4_gain 23 = .ok (.aload_n 0, 1) := by decide +kernel
theorem dX4_gain_24 : decode cX4_gain 24 = .ok (.iload_n 2, 1) := by decide +kernel
theorem dX4_gain_25 : decode cX4_gain 25 = .ok (.invokevirtual 60, 3) := by decide +kernel
theorem dX4_gain_28 : decode cX4_gain 28 = .ok (.isub, 1) := by decide +kernel
theorem dX4_gain_29 : decode cX4_gain 29 = .ok (.invokestatic 63, 3) := by decide +kernel
theorem dX4_gain_32 : decode cX4_gain 32 = .ok (.ireturn, 1) := by decide +kernel
theorem dX4_worsen_0 : decode cX4_worsen 0 = .ok (.iload_n 1, 1) := by decide +kernel
theorem dX4_worsen_1 : decode cX4_worsen 1 = .ok (.tableswitch 149 1 5 #[35, 55, 76, 110, 130], 35) := by decide +kernel
theorem dX4_worsen_36 : decode cX4_worsen 36 = .ok (.aload_n 0, 1) := by decide +kernel
theorem dX4_worsen_37 : decode cX4_worsen 37 = .ok (.iconst 0, 1) := by decide +kernel
theorem dX4_worsen_38 : decode cX4_worsen 38 = .ok (.aload_n 0, 1) := by decide +kernel
theorem dX4_worsen_39 : decode cX4_worsen 39 = .ok (.getfield 51, 3) := by decide +kernel
theorem dX4_worsen_42 : decode cX4_worsen 42 = .ok (.bipush 10, 2) := by decide +kernel
theorem dX4_worsen_44 : decode cX4_worsen 44 = .ok (.iload_n 2, 1) := by decide +kernel
theorem dX4_worsen_45 : decode cX4_worsen 45 = .ok (.imul, 1) := by decide +kernel
theorem dX4_worsen_46 : decode cX4_worsen 46 = .ok (.isub, 1) := by decide +kernel
theorem dX4_worsen_47 : decode cX4_worsen 47 = .ok (.invokestatic 63, 3) := by decide +kernel
theorem dX4_worsen_50 : decode cX4_worsen 50 = .ok (.putfield 51, 3) := by decide +kernel
theorem dX4_worsen_53 : decode cX4_worsen 53 = .ok (.goto 97, 3) := by decide +kernel
theorem dX4_worsen_56 : decode cX4_worsen 56 = .ok (.aload_n 0, 1) := by decide +kernel
theorem dX4_worsen_57 : decode cX4_worsen 57 = .ok (.bipush 99, 2) := by decide +kernel
theorem dX4_worsen_59 : decode cX4_worsen 59 = .ok (.aload_n 0, 1) := by decide +kernel
theorem dX4_worsen_60 : decode cX4_worsen 60 = .ok (.getfield 42, 3) := by decide +kernel
theorem dX4_worsen_63 : decode cX4_worsen 63 = .ok (.bipush 10, 2) := by decide +kernel
theorem dX4_worsen_65 : decode cX4_worsen 65 = .ok (.iload_n 2, 1) := by decide +kernel
theorem dX4_worsen_66 : decode cX4_worsen 66 = .ok (.imul, 1) := by decide +kernel
theorem dX4_worsen_67 : decode cX4_worsen 67 = .ok (.iadd, 1) := by decide +kernel
theorem dX4_worsen_68 : decode cX4_worsen 68 = .ok (.invokestatic 69, 3) := by decide +kernel
theorem dX4_worsen_71 : decode cX4_worsen 71 = .ok (.putfield 42, 3) := by decide +kernel
theorem dX4_worsen_74 : decode cX4_worsen 74 = .ok (.goto 76, 3) := by decide +kernel
theorem dX4_worsen_77 : decode cX4_worsen 77 = .ok (.aload_n 0, 1) := by decide +kernel
theorem dX4_worsen_78 : decode cX4_worsen 78 = .ok (.bipush 30, 2) := by decide +kernel
theorem dX4_worsen_80 : decode cX4_worsen 80 = .ok (.aload_n 0, 1) := by decide +kernel
theorem dX4_worsen_81 : decode cX4_worsen 81 = .ok (.getfield 48, 3) := by decide +kernel
theorem dX4_worsen_84 : decode cX4_worsen 84 = .ok (.iconst 3, 1) := by decide +kernel
theorem dX4_worsen_85 : decode cX4_worsen 85 = .ok (.iload_n 2, 1) := by decide +kernel
theorem dX4_worsen_86 : decode cX4_worsen 86 = .ok (.imul, 1) := by decide +kernel
theorem dX4_worsen_87 : decode cX4_worsen 87 = .ok (.iadd, 1) := by decide +kernel
theorem dX4_worsen_88 : decode cX4_worsen 88 = .ok (.invokestatic 69, 3) := by decide +kernel
theorem dX4_worsen_91 : decode cX4_worsen 91 = .ok (.putfield 48, 3) := by decide +kernel
theorem dX4_worsen_94 : decode cX4_worsen 94 = .ok (.aload_n 0, 1) := by decide +kernel
theorem dX4_worsen_95 : decode cX4_worsen 95 = .ok (.getfield 45, 3) := by decide +kernel
theorem dX4_worsen_98 : decode cX4_worsen 98 = .ok (.bipush 99, 2) := by decide +kernel
theorem dX4_worsen_100 : decode cX4_worsen 100 = .ok (.if_icmp .ne 50, 3) := by decide +kernel
theorem dX4_worsen_103 : decode cX4_worsen 103 = .ok (.aload_n 0, 1) := by decide +kernel
theorem dX4_worsen_104 : decode cX4_worsen 104 = .ok (.iconst 5, 1) := by decide +kernel
theorem dX4_worsen_105 : decode cX4_worsen 105 = .ok (.putfield 45, 3) := by decide +kernel
theorem dX4_worsen_108 : decode cX4_worsen 108 = .ok (.goto 42, 3) := by decide +kernel
theorem dX4_worsen_111 : decode cX4_worsen 111 = .ok (.aload_n 0, 1) := by decide +kernel
theorem dX4_worsen_112 : decode cX4_worsen 112 = .ok (.bipush 99, 2) := by decide +kernel
theorem dX4_worsen_114 : decode cX4_worsen 114 = .ok (.aload_n 0, 1) := by decide +kernel
theorem dX4_worsen_115 : decode cX4_worsen 115 = .ok (.getfield 33, 3) := by decide +kernel
theorem dX4_worsen_118 : decode cX4_worsen 118 = .ok (.iconst 2, 1) := by decide +kernel
theorem dX4_worsen_119 : decode cX4_worsen 119 = .ok (.iload_n 2, 1) := by decide +kernel
theorem dX4_worsen_120 : decode cX4_worsen 120 = .ok (.imul, 1) := by decide +kernel
theorem dX4_worsen_121 : decode cX4_worsen 121 = .ok (.iadd, 1) := by decide +kernel
theorem dX4_worsen_122 : decode cX4_worsen 122 = .ok (.invokestatic 69, 3) := by decide +kernel
theorem dX4_worsen_125 : decode cX4_worsen 125 = .ok (.putfield 33, 3) := by decide +kernel
theorem dX4_worsen_128 : decode cX4_worsen 128 = .ok (.goto 22, 3) := by decide +kernel
theorem dX4_worsen_131 : decode cX4_worsen 131 = .ok (.aload_n 0, 1) := by decide +kernel
theorem dX4_worsen_132 : decode cX4_worsen 132 = .ok (.iconst 1, 1) := by decide +kernel
theorem dX4_worsen_133 : decode cX4_worsen 133 = .ok (.aload_n 0, 1) := by decide +kernel
theorem dX4_worsen_134 : decode cX4_worsen 134 = .ok (.getfield 26, 3) := by decide +kernel
theorem dX4_worsen_137 : decode cX4_worsen 137 = .ok (.iconst 4, 1) := by decide +kernel
theorem dX4_worsen_138 : decode cX4_worsen 138 = .ok (.iload_n 2, 1) := by decide +kernel
theorem dX4_worsen_139 : decode cX4_worsen 139 = .ok (.imul, 1) := by decide +kernel
theorem dX4_worsen_140 : decode cX4_worsen 140 = .ok (.isub, 1) := by decide +kernel
theorem dX4_worsen_141 : decode cX4_worsen 141 = .ok (.invokestatic 63, 3) := by decide +kernel
theorem dX4_worsen_144 : decode cX4_worsen 144 = .ok (.putfield 26, 3) := by decide +kernel
theorem dX4_worsen_147 : decode cX4_worsen 147 = .ok (.goto 3, 3) := by decide +kernel
theorem dX4_worsen_150 : decode cX4_worsen 150 = .ok (.return_, 1) := by decide +kernel
theorem dX4_mend_0 : decode cX4_mend 0 = .ok (.iload_n 1, 1) := by decide +kernel
theorem dX4_mend_1 : decode cX4_mend 1 = .ok (.tableswitch 97 0 4 #[35, 44, 52, 60, 79], 35) := by decide +kernel
theorem dX4_mend_36 : decode cX4_mend 36 = .ok (.aload_n 0, 1) := by decide +kernel
theorem dX4_mend_37 : decode cX4_mend 37 = .ok (.bipush 100, 2) := by decide +kernel
theorem dX4_mend_39 : decode cX4_mend 39 = .ok (.putfield 51, 3) := by decide +kernel
theorem dX4_mend_42 : decode cX4_mend 42 = .ok (.goto 56, 3) := by decide +kernel
theorem dX4_mend_45 : decode cX4_mend 45 = .ok (.aload_n 0, 1) := by decide +kernel
theorem dX4_mend_46 : decode cX4_mend 46 = .ok (.iconst 0, 1) := by decide +kernel
theorem dX4_mend_47 : decode cX4_mend 47 = .ok (.putfield 42, 3) := by decide +kernel
theorem dX4_mend_50 : decode cX4_mend 50 = .ok (.goto 48, 3) := by decide +kernel
theorem dX4_mend_53 : decode cX4_mend 53 = .ok (.aload_n 0, 1) := by decide +kernel
theorem dX4_mend_54 : decode cX4_mend 54 = .ok (.iconst 0, 1) := by decide +kernel
theorem dX4_mend_55 : decode cX4_mend 55 = .ok (.putfield 48, 3) := by decide +kernel
theorem dX4_mend_58 : decode cX4_mend 58 = .ok (.goto 40, 3) := by decide +kernel
theorem dX4_mend_61 : decode cX4_mend 61 = .ok (.aload_n 0, 1) := by decide +kernel
theorem dX4_mend_62 : decode cX4_mend 62 = .ok (.bipush 99, 2) := by decide +kernel
theorem dX4_mend_64 : decode cX4_mend 64 = .ok (.aload_n 0, 1) := by decide +kernel
theorem dX4_mend_65 : decode cX4_mend 65 = .ok (.getfield 26, 3) := by decide +kernel
theorem dX4_mend_68 : decode cX4_mend 68 = .ok (.bipush 20, 2) := by decide +kernel
theorem dX4_mend_70 : decode cX4_mend 70 = .ok (.iadd, 1) := by decide +kernel
theorem dX4_mend_71 : decode cX4_mend 71 = .ok (.invokestatic 69, 3) := by decide +kernel
theorem dX4_mend_74 : decode cX4_mend 74 = .ok (.putfield 26, 3) := by decide +kernel
theorem dX4_mend_77 : decode cX4_mend 77 = .ok (.goto 21, 3) := by decide +kernel
theorem dX4_mend_80 : decode cX4_mend 80 = .ok (.aload_n 0, 1) := by decide +kernel
theorem dX4_mend_81 : decode cX4_mend 81 = .ok (.bipush 99, 2) := by decide +kernel
theorem dX4_mend_83 : decode cX4_mend 83 = .ok (.iconst 2, 1) := by decide +kernel
theorem dX4_mend_84 : decode cX4_mend 84 = .ok (.aload_n 0, 1) := by decide +kernel
theorem dX4_mend_85 : decode cX4_mend 85 = .ok (.getfield 36, 3) := by decide +kernel
theorem dX4_mend_88 : decode cX4_mend 88 = .ok (.imul, 1) := by decide +kernel
theorem dX4_mend_89 : decode cX4_mend 89 = .ok (.invokestatic 69, 3) := by decide +kernel
theorem dX4_mend_92 : decode cX4_mend 92 = .ok (.putfield 36, 3) := by decide +kernel
theorem dX4_mend_95 : decode cX4_mend 95 = .ok (.goto 3, 3) := by decide +kernel
theorem dX4_mend_98 : decode cX4_mend 98 = .ok (.return_, 1) := by decide +kernel
theorem dX5_init_0 : decode cX5_init 0 = .ok (.aload_n 0, 1) := by decide +kernel
theorem dX5_init_1 : decode cX5_init 1 = .ok (.invokespecial 3, 3) := by decide +kernel
theorem dX5_init_4 : decode cX5_init 4 = .ok (.aload_n 0, 1) := by decide +kernel
theorem dX5_init_5 : decode cX5_init 5 = .ok (.bipush 20, 2) := by decide +kernel
theorem dX5_init_7 : decode cX5_init 7 = .ok (.newarray .int, 2) := by decide +kernel
theorem dX5_init_9 : decode cX5_init 9 = .ok (.putfield 9, 3) := by decide +kernel
theorem dX5_init_12 : decode cX5_init 12 = .ok (.aload_n 0, 1) := by decide +kernel
theorem dX5_init_13 : decode cX5_init 13 = .ok (.bipush 20, 2) := by decide +kernel
theorem dX5_init_15 : decode cX5_init 15 = .ok (.newarray .int, 2) := by decide +kernel
theorem dX5_init_17 : decode cX5_init 17 = .ok (.putfield 15, 3) := by decide +kernel
theorem dX5_init_20 : decode cX5_init 20 = .ok (.return_, 1) := by decide +kernel
theorem dX5_add_0 : decode cX5_add 0 = .ok (.aload_n 0, 1) := by decide +kernel
theorem dX5_add_1 : decode cX5_add 1 = .ok (.getfield 18, 3) := by decide +kernel
theorem dX5_add_4 : decode cX5_add 4 = .ok (.aload_n 0, 1) := by decide +kernel
theorem dX5_add_5 : decode cX5_add 5 = .ok (.getfield 9, 3) := by decide +kernel
theorem dX5_add_8 : decode cX5_add 8 = .ok (.arraylength, 1) := by decide +kernel
theorem dX5_add_9 : decode cX5_add 9 = .ok (.if_icmp .lt 6, 3) := by decide +kernel
theorem dX5_add_12 : decode cX5_add 12 = .ok (.bipush (-3), 2) := by decide +kernel
theorem dX5_add_14 : decode cX5_add 14 = .ok (.ireturn, 1) := by decide +kernel
theorem dX5_add_15 : decode cX5_add 15 = .ok (.aload_n 0, 1) := by decide +kernel
theorem dX5_add_16 : decode cX5_add 16 = .ok (.getfield 9, 3) := by decide +kernel
theorem dX5_add_19 : decode cX5_add 19 = .ok (.aload_n 0, 1) := by decide +kernel
theorem dX5_add_20 : decode cX5_add 20 = .ok (.getfield 18, 3) := by decide +kernel
theorem dX5_add_23 : decode cX5_add 23 = .ok (.iload_n 1, 1) := by decide +kernel
theorem dX5_add_24 : decode cX5_add 24 = .ok (.iastore, 1) := by decide +kernel
theorem dX5_add_25 : decode cX5_add 25 = .ok (.aload_n 0, 1) := by decide +kernel
theorem dX5_add_26 : decode cX5_add 26 = .ok (.getfield 15, 3) := by decide +kernel
theorem dX5_add_29 : decode cX5_add 29 = .ok (.aload_n 0, 1) := by decide +kernel
theorem dX5_add_30 : decode cX5_add 30 = .ok (.getfield 18, 3) := by decide +kernel
theorem dX5_add_33 : decode cX5_add 33 = .ok (.iload_n 2, 1) := by decide +kernel
theorem dX5_add_34 : decode cX5_add 34 = .ok (.iastore, 1) := by decide +kernel
theorem dX5_add_35 : decode cX5_add 35 = .ok (.aload_n 0, 1) := by decide +kernel
theorem dX5_add_36 : decode cX5_add 36 = .ok (.dup, 1) := by decide +kernel
theorem dX5_add_37 : decode cX5_add 37 = .ok (.getfield 18, 3) := by decide +kernel
theorem dX5_add_40 : decode cX5_add 40 = .ok (.iconst 1, 1) := by decide +kernel
theorem dX5_add_41 : decode cX5_add 41 = .ok (.iadd, 1) := by decide +kernel
theorem dX5_add_42 : decode cX5_add 42 = .ok (.putfield 18, 3) := by decide +kernel
theorem dX5_add_45 : decode cX5_add 45 = .ok (.aload_n 0, 1) := by decide +kernel
theorem dX5_add_46 : decode cX5_add 46 = .ok (.getfield 18, 3) := by decide +kernel
theorem dX5_add_49 : decode cX5_add 49 = .ok (.ireturn, 1) := by decide +kernel
set_option maxRecDepth 20000 in
theorem ggX5_look_X6_leastTerms : GoodIn wsX5_look wsX6_leastTerms := goodIn_r _ [7, 8, 9, 10, 11, 12, 13, 6, 14] (by decide +kernel) (by decide +kernel)
set_option maxRecDepth 20000 in
theorem gX5_look_X6_leastTerms_n24 : GoodIn wsX5_look (wsX6_leastTerms) := ggX5_look_X6_leastTerms
theorem dX5_look_0 : decode cX5_look 0 = .ok (.lconst 0, 1) := by decide +kernel
theorem dX5_look_1 : decode cX5_look 1 = .ok (.lstore_n 3, 1) := by decide +kernel
theorem dX5_look_2 : decode cX5_look 2 = .ok (.lconst 0, 1) := by decide +kernel
theorem dX5_look_3 : decode cX5_look 3 = .ok (.lstore 5, 2) := by decide +kernel
theorem dX5_look_5 : decode cX5_look 5 = .ok (.lconst 0, 1) := by decide +kernel
theorem dX5_look_6 : decode cX5_look 6 = .ok (.lstore 7, 2) := by decide +kernel
theorem dX5_look_8 : decode cX5_look 8 = .ok (.lconst 0, 1) := by decide +kernel
theorem dX5_look_9 : decode cX5_look 9 = .ok (.lstore 9, 2) := by decide +kernel
theorem dX5_look_11 : decode cX5_look 11 = .ok (.iconst 0, 1) := by decide +kernel
theorem dX5_look_12 : decode cX5_look 12 = .ok (.istore 11, 2) := by decide +kernel
theorem dX5_look_14 : decode cX5_look 14 = .ok (.iload 11, 2) := by decide +kernel
theorem dX5_look_16 : decode cX5_look 16 = .ok (.aload_n 0, 1) := by decide +kernel
theorem dX5_look_17 : decode cX5_look 17 = .ok (.getfield 18, 3) := by decide +kernel
theorem dX5_look_20 : decode cX5_look 20 = .ok (.if_icmp .ge 75, 3) := by decide +kernel
theorem dX5_look_23 : decode cX5_look 23 = .ok (.lload_n 3, 1) := by decide +kernel
theorem dX5_look_24 : decode cX5_look 24 = .ok (.aload_n 0, 1) := by decide +kernel
theorem dX5_look_25 : decode cX5_look 25 = .ok (.getfield 9, 3) := by decide +kernel
theorem dX5_look_28 : decode cX5_look 28 = .ok (.iload 11, 2) := by decide +kernel
theorem dX5_look_30 : decode cX5_look 30 = .ok (.iaload, 1) := by decide +kernel
theorem dX5_look_31 : decode cX5_look 31 = .ok (.i2l, 1) := by decide +kernel
theorem dX5_look_32 : decode cX5_look 32 = .ok (.ladd, 1) := by decide +kernel
theorem dX5_look_33 : decode cX5_look 33 = .ok (.lstore_n 3, 1) := by decide +kernel
theorem dX5_look_34 : decode cX5_look 34 = .ok (.lload 5, 2) := by decide +kernel
theorem dX5_look_36 : decode cX5_look 36 = .ok (.aload_n 0, 1) := by decide +kernel
theorem dX5_look_37 : decode cX5_look 37 = .ok (.getfield 15, 3) := by decide +kernel
theorem dX5_look_40 : decode cX5_look 40 = .ok (.iload 11, 2) := by decide +kernel
theorem dX5_look_42 : decode cX5_look 42 = .ok (.iaload, 1) := by decide +kernel
theorem dX5_look_43 : decode cX5_look 43 = .ok (.i2l, 1) := by decide +kernel
theorem dX5_look_44 : decode cX5_look 44 = .ok (.ladd, 1) := by decide +kernel
theorem dX5_look_45 : decode cX5_look 45 = .ok (.lstore 5, 2) := by decide +kernel
theorem dX5_look_47 : decode cX5_look 47 = .ok (.lload 7, 2) := by decide +kernel
theorem dX5_look_49 : decode cX5_look 49 = .ok (.aload_n 0, 1) := by decide +kernel
theorem dX5_look_50 : decode cX5_look 50 = .ok (.getfield 9, 3) := by decide +kernel
theorem dX5_look_53 : decode cX5_look 53 = .ok (.iload 11, 2) := by decide +kernel
theorem dX5_look_55 : decode cX5_look 55 = .ok (.iaload, 1) := by decide +kernel
theorem dX5_look_56 : decode cX5_look 56 = .ok (.aload_n 0, 1) := by decide +kernel
theorem dX5_look_57 : decode cX5_look 57 = .ok (.getfield 9, 3) := by decide +kernel
theorem dX5_look_60 : decode cX5_look 60 = .ok (.iload 11, 2) := by decide +kernel
theorem dX5_look_62 : decode cX5_look 62 = .ok (.iaload, 1) := by decide +kernel
theorem dX5_look_63 : decode cX5_look 63 = .ok (.imul, 1) := by decide +kernel
theorem dX5_look_64 : decode cX5_look 64 = .ok (.i2l, 1) := by decide +kernel
theorem dX5_look_65 : decode cX5_look 65 = .ok (.ladd, 1) := by decide +kernel
theorem dX5_look_66 : decode cX5_look 66 = .ok (.lstore 7, 2) := by decide +kernel
theorem dX5_look_68 : decode cX5_look 68 = .ok (.lload 9, 2) := by decide +kernel
theorem dX5_look_70 : decode cX5_look 70 = .ok (.aload_n 0, 1) := by decide +kernel
theorem dX5_look_71 : decode cX5_look 71 = .ok (.getfield 9, 3) := by decide +kernel
theorem dX5_look_74 : decode cX5_look 74 = .ok (.iload 11, 2) := by decide +kernel
theorem dX5_look_76 : decode cX5_look 76 = .ok (.iaload, 1) := by decide +kernel
theorem dX5_look_77 : decode cX5_look 77 = .ok (.aload_n 0, 1) := by decide +kernel
theorem dX5_look_78 : decode cX5_look 78 = .ok (.getfield 15, 3) := by decide +kernel
theorem dX5_look_81 : decode cX5_look 81 = .ok (.iload 11, 2) := by decide +kernel
theorem dX5_look_83 : decode cX5_look 83 = .ok (.iaload, 1) := by decide +kernel
theorem dX5_look_84 : decode cX5_look 84 = .ok (.imul, 1) := by decide +kernel
theorem dX5_look_85 : decode cX5_look 85 = .ok (.i2l, 1) := by decide +kernel
theorem dX5_look_86 : decode cX5_look 86 = .ok (.ladd, 1) := by decide +kernel
theorem dX5_look_87 : decode cX5_look 87 = .ok (.lstore 9, 2) := by decide +kernel
theorem dX5_look_89 : decode cX5_look 89 = .ok (.iinc 11 1, 3) := by decide +kernel
theorem dX5_look_92 : decode cX5_look 92 = .ok (.goto (-78), 3) := by decide +kernel
theorem dX5_look_95 : decode cX5_look 95 = .ok (.aload_n 0, 1) := by decide +kernel
theorem dX5_look_96 : decode cX5_look 96 = .ok (.getfield 18, 3) := by decide +kernel
theorem dX5_look_99 : decode cX5_look 99 = .ok (.i2l, 1) := by decide +kernel
theorem dX5_look_100 : decode cX5_look 100 = .ok (.lload 7, 2) := by decide +kernel
theorem dX5_look_102 : decode cX5_look 102 = .ok (.lmul, 1) := by decide +kernel
theorem dX5_look_103 : decode cX5_look 103 = .ok (.lload_n 3, 1) := by decide +kernel
theorem dX5_look_104 : decode cX5_look 104 = .ok (.lload_n 3, 1) := by decide +kernel
theorem dX5_look_105 : decode cX5_look 105 = .ok (.lmul, 1) := by decide +kernel
theorem dX5_look_106 : decode cX5_look 106 = .ok (.lsub, 1) := by decide +kernel
theorem dX5_look_107 : decode cX5_look 107 = .ok (.lstore 11, 2) := by decide +kernel
theorem dX5_look_109 : decode cX5_look 109 = .ok (.aload_n 0, 1) := by decide +kernel
theorem dX5_look_110 : decode cX5_look 110 = .ok (.getfield 18, 3) := by decide +kernel
theorem dX5_look_113 : decode cX5_look 113 = .ok (.i2l, 1) := by decide +kernel
theorem dX5_look_114 : decode cX5_look 114 = .ok (.lload 9, 2) := by decide +kernel
theorem dX5_look_116 : decode cX5_look 116 = .ok (.lmul, 1) := by decide +kernel
theorem dX5_look_117 : decode cX5_look 117 = .ok (.lload_n 3, 1) := by decide +kernel
theorem dX5_look_118 : decode cX5_look 118 = .ok (.lload 5, 2) := by decide +kernel
theorem dX5_look_120 : decode cX5_look 120 = .ok (.lmul, 1) := by decide +kernel
theorem dX5_look_121 : decode cX5_look 121 = .ok (.lsub, 1) := by decide +kernel
theorem dX5_look_122 : decode cX5_look 122 = .ok (.lstore 13, 2) := by decide +kernel
theorem dX5_look_124 : decode cX5_look 124 = .ok (.lload 11, 2) := by decide +kernel
theorem dX5_look_126 : decode cX5_look 126 = .ok (.lconst 0, 1) := by decide +kernel
theorem dX5_look_127 : decode cX5_look 127 = .ok (.lcmp, 1) := by decide +kernel
theorem dX5_look_128 : decode cX5_look 128 = .ok (.ifCond .gt 7, 3) := by decide +kernel
theorem dX5_look_131 : decode cX5_look 131 = .ok (.ldc2_w 22, 3) := by decide +kernel
theorem dX5_look_134 : decode cX5_look 134 = .ok (.lreturn, 1) := by decide +kernel
theorem dX5_look_135 : decode cX5_look 135 = .ok (.iload_n 2, 1) := by decide +kernel
theorem dX5_look_136 : decode cX5_look 136 = .ok (.iconst 2, 1) := by decide +kernel
theorem dX5_look_137 : decode cX5_look 137 = .ok (.if_icmp .ge 20, 3) := by decide +kernel
theorem dX5_look_140 : decode cX5_look 140 = .ok (.lload 13, 2) := by decide +kernel
theorem dX5_look_142 : decode cX5_look 142 = .ok (.lload 11, 2) := by decide +kernel
theorem dX5_look_144 : decode cX5_look 144 = .ok (.iload_n 2, 1) := by decide +kernel
theorem dX5_look_145 : decode cX5_look 145 = .ok (.ifCond .ne 7, 3) := by decide +kernel
theorem dX5_look_148 : decode cX5_look 148 = .ok (.iconst 1, 1) := by decide +kernel
theorem dX5_look_149 : decode cX5_look 149 = .ok (.goto 4, 3) := by decide +kernel
theorem dX5_look_152 : decode cX5_look 152 = .ok (.iconst 0, 1) := by decide +kernel
theorem dX5_look_153 : decode cX5_look 153 = .ok (.invokestatic 24, 3) := by decide +kernel
theorem dX5_look_156 : decode cX5_look 156 = .ok (.lreturn, 1) := by decide +kernel
theorem dX5_look_157 : decode cX5_look 157 = .ok (.lload 5, 2) := by decide +kernel
theorem dX5_look_159 : decode cX5_look 159 = .ok (.lload 11, 2) := by decide +kernel
theorem dX5_look_161 : decode cX5_look 161 = .ok (.lmul, 1) := by decide +kernel
theorem dX5_look_162 : decode cX5_look 162 = .ok (.lload 13, 2) := by decide +kernel
theorem dX5_look_164 : decode cX5_look 164 = .ok (.aload_n 0, 1) := by decide +kernel
theorem dX5_look_165 : decode cX5_look 165 = .ok (.getfield 18, 3) := by decide +kernel
theorem dX5_look_168 : decode cX5_look 168 = .ok (.iload_n 1, 1) := by decide +kernel
theorem dX5_look_169 : decode cX5_look 169 = .ok (.imul, 1) := by decide +kernel
theorem dX5_look_170 : decode cX5_look 170 = .ok (.i2l, 1) := by decide +kernel
theorem dX5_look_171 : decode cX5_look 171 = .ok (.lload_n 3, 1) := by decide +kernel
theorem dX5_look_172 : decode cX5_look 172 = .ok (.lsub, 1) := by decide +kernel
theorem dX5_look_173 : decode cX5_look 173 = .ok (.lmul, 1) := by decide +kernel
theorem dX5_look_174 : decode cX5_look 174 = .ok (.ladd, 1) := by decide +kernel
theorem dX5_look_175 : decode cX5_look 175 = .ok (.aload_n 0, 1) := by decide +kernel
theorem dX5_look_176 : decode cX5_look 176 = .ok (.getfield 18, 3) := by decide +kernel
theorem dX5_look_179 : decode cX5_look 179 = .ok (.i2l, 1) := by decide +kernel
theorem dX5_look_180 : decode cX5_look 180 = .ok (.lload 11, 2) := by decide +kernel
theorem dX5_look_182 : decode cX5_look 182 = .ok (.lmul, 1) := by decide +kernel
theorem dX5_look_183 : decode cX5_look 183 = .ok (.iload_n 2, 1) := by decide +kernel
theorem dX5_look_184 : decode cX5_look 184 = .ok (.iconst 2, 1) := by decide +kernel
theorem dX5_look_185 : decode cX5_look 185 = .ok (.if_icmp .ne 7, 3) := by decide +kernel
theorem dX5_look_188 : decode cX5_look 188 = .ok (.iconst 1, 1) := by decide +kernel
theorem dX5_look_189 : decode cX5_look 189 = .ok (.goto 4, 3) := by decide +kernel
theorem dX5_look_192 : decode cX5_look 192 = .ok (.iconst 0, 1) := by decide +kernel
theorem dX5_look_193 : decode cX5_look 193 = .ok (.invokestatic 24, 3) := by decide +kernel
theorem dX5_look_196 : decode cX5_look 196 = .ok (.lreturn, 1) := by decide +kernel
set_option maxRecDepth 20000 in
theorem ggX6_init_X3_init : GoodIn wsX6_init wsX3_init := goodIn_r _ [40, 41, 2, 3, 23, 42, 105, 106, 107, 108, 109, 110, 111] (by decide +kernel) (by decide +kernel)
set_option maxRecDepth 20000 in
theorem gX6_init_X3_init_n9 : GoodIn wsX6_init (wsX3_init) := ggX6_init_X3_init
set_option maxRecDepth 20000 in
theorem ggX6_init_X4_init : GoodIn wsX6_init wsX4_init := goodIn_r _ [45, 46, 2, 3, 47, 48, 49, 10, 50, 51, 52, 53, 54, 55, 56, 57, 58, 59, 60, 61, 62, 63, 64, 65, 128, 129, 130, 131, 132, 133, 134, 135, 136, 137, 138] (by decide +kernel) (by decide +kernel)
set_option maxRecDepth 20000 in
theorem gX6_init_X4_init : GoodIn wsX6_init (wsX4_init) := ggX6_init_X4_init
set_option maxRecDepth 20000 in
theorem ggX6_init_X0_init : GoodIn wsX6_init wsX0_init := goodIn_r _ [67, 68, 2, 3] (by decide +kernel) (by decide +kernel)
set_option maxRecDepth 20000 in
theorem gX6_init_X0_init_n25 : GoodIn wsX6_init (wsX0_init) := ggX6_init_X0_init
set_option maxRecDepth 20000 in
theorem ggX6_init_X2_init : GoodIn wsX6_init wsX2_init := goodIn_r _ [70, 71, 2, 3, 23, 72, 73, 74, 146, 147, 148, 149] (by decide +kernel) (by decide +kernel)
set_option maxRecDepth 20000 in
theorem gX6_init_X2_init_n40 : GoodIn wsX6_init (wsX2_init) := ggX6_init_X2_init
set_option maxRecDepth 20000 in
theorem ggX6_init_X1_init : GoodIn wsX6_init wsX1_init := goodIn_r _ [76, 77, 2, 3, 23, 78, 79, 150, 151, 152] (by decide +kernel) (by decide +kernel)
set_option maxRecDepth 20000 in
theorem gX6_init_X1_init_n54 : GoodIn wsX6_init (wsX1_init) := ggX6_init_X1_init
set_option maxRecDepth 20000 in
theorem ggX6_init_X5_init : GoodIn wsX6_init wsX5_init := goodIn_r _ [81, 82, 2, 3, 23, 83, 84, 153, 154, 155] (by decide +kernel) (by decide +kernel)
set_option maxRecDepth 20000 in
theorem gX6_init_X5_init_n61 : GoodIn wsX6_init (wsX5_init) := ggX6_init_X5_init
set_option maxRecDepth 20000 in
theorem ggX6_init_X0_startEmpty : GoodIn wsX6_init wsX0_startEmpty := goodIn_r _ [88, 89, 90, 91, 92, 93, 94, 14, 95, 96, 97, 98, 99, 100, 101, 102, 103, 10, 104, 59, 57, 139, 140, 141, 142, 143, 144, 145, 128, 129, 130, 131, 132, 133, 134, 135, 136, 137, 138] (by decide +kernel) (by decide +kernel)
set_option maxRecDepth 20000 in
theorem gX6_init_X0_startEmpty : GoodIn wsX6_init (wsV RX6 81 RX0 yX0_startEmpty wsX0_startEmpty) := goodIn_app (goodIn_of _ (by decide +kernel)) ggX6_init_X0_startEmpty
theorem dX6_init_0 : decode cX6_init 0 = .ok (.aload_n 0, 1) := by decide +kernel
theorem dX6_init_1 : decode cX6_init 1 = .ok (.invokespecial 1, 3) := by decide +kernel
theorem dX6_init_4 : decode cX6_init 4 = .ok (.aload_n 0, 1) := by decide +kernel
theorem dX6_init_5 : decode cX6_init 5 = .ok (.new 7, 3) := by decide +kernel
theorem dX6_init_8 : decode cX6_init 8 = .ok (.dup, 1) := by decide +kernel
theorem dX6_init_9 : decode cX6_init 9 = .ok (.invokespecial 9, 3) := by decide +kernel
theorem dX6_init_12 : decode cX6_init 12 = .ok (.putfield 10, 3) := by decide +kernel
theorem dX6_init_15 : decode cX6_init 15 = .ok (.aload_n 0, 1) := by decide +kernel
theorem dX6_init_16 : decode cX6_init 16 = .ok (.new 16, 3) := by decide +kernel
theorem dX6_init_19 : decode cX6_init 19 = .ok (.dup, 1) := by decide +kernel
theorem dX6_init_20 : decode cX6_init 20 = .ok (.invokespecial 18, 3) := by decide +kernel
theorem dX6_init_23 : decode cX6_init 23 = .ok (.putfield 19, 3) := by decide +kernel
theorem dX6_init_26 : decode cX6_init 26 = .ok (.aload_n 0, 1) := by decide +kernel
theorem dX6_init_27 : decode cX6_init 27 = .ok (.new 23, 3) := by decide +kernel
theorem dX6_init_30 : decode cX6_init 30 = .ok (.dup, 1) := by decide +kernel
theorem dX6_init_31 : decode cX6_init 31 = .ok (.invokespecial 25, 3) := by decide +kernel
theorem dX6_init_34 : decode cX6_init 34 = .ok (.putfield 26, 3) := by decide +kernel
theorem dX6_init_37 : decode cX6_init 37 = .ok (.aload_n 0, 1) := by decide +kernel
theorem dX6_init_38 : decode cX6_init 38 = .ok (.iconst 2, 1) := by decide +kernel
theorem dX6_init_39 : decode cX6_init 39 = .ok (.anewarray 23, 3) := by decide +kernel
theorem dX6_init_42 : decode cX6_init 42 = .ok (.dup, 1) := by decide +kernel
theorem dX6_init_43 : decode cX6_init 43 = .ok (.iconst 0, 1) := by decide +kernel
theorem dX6_init_44 : decode cX6_init 44 = .ok (.new 23, 3) := by decide +kernel
theorem dX6_init_47 : decode cX6_init 47 = .ok (.dup, 1) := by decide +kernel
theorem dX6_init_48 : decode cX6_init 48 = .ok (.invokespecial 25, 3) := by decide +kernel
theorem dX6_init_51 : decode cX6_init 51 = .ok (.aastore, 1) := by decide +kernel
theorem dX6_init_52 : decode cX6_init 52 = .ok (.dup, 1) := by decide +kernel
theorem dX6_init_53 : decode cX6_init 53 = .ok (.iconst 1, 1) := by decide +kernel
theorem dX6_init_54 : decode cX6_init 54 = .ok (.new 23, 3) := by decide +kernel
theorem dX6_init_57 : decode cX6_init 57 = .ok (.dup, 1) := by decide +kernel
theorem dX6_init_58 : decode cX6_init 58 = .ok (.invokespecial 25, 3) := by decide +kernel
theorem dX6_init_61 : decode cX6_init 61 = .ok (.aastore, 1) := by decide +kernel
theorem dX6_init_62 : decode cX6_init 62 = .ok (.putfield 30, 3) := by decide +kernel
theorem dX6_init_65 : decode cX6_init 65 = .ok (.aload_n 0, 1) := by decide +kernel
theorem dX6_init_66 : decode cX6_init 66 = .ok (.iconst 2, 1) := by decide +kernel
theorem dX6_init_67 : decode cX6_init 67 = .ok (.newarray .boolean, 2) := by decide +kernel
theorem dX6_init_69 : decode cX6_init 69 = .ok (.putfield 34, 3) := by decide +kernel
theorem dX6_init_72 : decode cX6_init 72 = .ok (.aload_n 0, 1) := by decide +kernel
theorem dX6_init_73 : decode cX6_init 73 = .ok (.new 38, 3) := by decide +kernel
theorem dX6_init_76 : decode cX6_init 76 = .ok (.dup, 1) := by decide +kernel
theorem dX6_init_77 : decode cX6_init 77 = .ok (.invokespecial 40, 3) := by decide +kernel
theorem dX6_init_80 : decode cX6_init 80 = .ok (.putfield 41, 3) := by decide +kernel
theorem dX6_init_83 : decode cX6_init 83 = .ok (.aload_n 0, 1) := by decide +kernel
theorem dX6_init_84 : decode cX6_init 84 = .ok (.bipush 6, 2) := by decide +kernel
theorem dX6_init_86 : decode cX6_init 86 = .ok (.newarray .int, 2) := by decide +kernel
theorem dX6_init_88 : decode cX6_init 88 = .ok (.dup, 1) := by decide +kernel
theorem dX6_init_89 : decode cX6_init 89 = .ok (.iconst 0, 1) := by decide +kernel
theorem dX6_init_90 : decode cX6_init 90 = .ok (.iconst 1, 1) := by decide +kernel
theorem dX6_init_91 : decode cX6_init 91 = .ok (.iastore, 1) := by decide +kernel
theorem dX6_init_92 : decode cX6_init 92 = .ok (.dup, 1) := by decide +kernel
theorem dX6_init_93 : decode cX6_init 93 = .ok (.iconst 1, 1) := by decide +kernel
theorem dX6_init_94 : decode cX6_init 94 = .ok (.iconst 1, 1) := by decide +kernel
theorem dX6_init_95 : decode cX6_init 95 = .ok (.iastore, 1) := by decide +kernel
theorem dX6_init_96 : decode cX6_init 96 = .ok (.dup, 1) := by decide +kernel
theorem dX6_init_97 : decode cX6_init 97 = .ok (.iconst 2, 1) := by decide +kernel
theorem dX6_init_98 : decode cX6_init 98 = .ok (.iconst 1, 1) := by decide +kernel
theorem dX6_init_99 : decode cX6_init 99 = .ok (.iastore, 1) := by decide +kernel
theorem dX6_init_100 : decode cX6_init 100 = .ok (.dup, 1) := by decide +kernel
theorem dX6_init_101 : decode cX6_init 101 = .ok (.iconst 3, 1) := by decide +kernel
theorem dX6_init_102 : decode cX6_init 102 = .ok (.iconst 1, 1) := by decide +kernel
theorem dX6_init_103 : decode cX6_init 103 = .ok (.iastore, 1) := by decide +kernel
theorem dX6_init_104 : decode cX6_init 104 = .ok (.dup, 1) := by decide +kernel
theorem dX6_init_105 : decode cX6_init 105 = .ok (.iconst 4, 1) := by decide +kernel
theorem dX6_init_106 : decode cX6_init 106 = .ok (.iconst 1, 1) := by decide +kernel
theorem dX6_init_107 : decode cX6_init 107 = .ok (.iastore, 1) := by decide +kernel
theorem dX6_init_108 : decode cX6_init 108 = .ok (.dup, 1) := by decide +kernel
theorem dX6_init_109 : decode cX6_init 109 = .ok (.iconst 5, 1) := by decide +kernel
theorem dX6_init_110 : decode cX6_init 110 = .ok (.iconst 1, 1) := by decide +kernel
theorem dX6_init_111 : decode cX6_init 111 = .ok (.iastore, 1) := by decide +kernel
theorem dX6_init_112 : decode cX6_init 112 = .ok (.putfield 45, 3) := by decide +kernel
theorem dX6_init_115 : decode cX6_init 115 = .ok (.aload_n 0, 1) := by decide +kernel
theorem dX6_init_116 : decode cX6_init 116 = .ok (.iconst 5, 1) := by decide +kernel
theorem dX6_init_117 : decode cX6_init 117 = .ok (.newarray .int, 2) := by decide +kernel
theorem dX6_init_119 : decode cX6_init 119 = .ok (.dup, 1) := by decide +kernel
theorem dX6_init_120 : decode cX6_init 120 = .ok (.iconst 0, 1) := by decide +kernel
theorem dX6_init_121 : decode cX6_init 121 = .ok (.bipush 10, 2) := by decide +kernel
theorem dX6_init_123 : decode cX6_init 123 = .ok (.iastore, 1) := by decide +kernel
theorem dX6_init_124 : decode cX6_init 124 = .ok (.dup, 1) := by decide +kernel
theorem dX6_init_125 : decode cX6_init 125 = .ok (.iconst 1, 1) := by decide +kernel
theorem dX6_init_126 : decode cX6_init 126 = .ok (.bipush 10, 2) := by decide +kernel
theorem dX6_init_128 : decode cX6_init 128 = .ok (.iastore, 1) := by decide +kernel
theorem dX6_init_129 : decode cX6_init 129 = .ok (.dup, 1) := by decide +kernel
theorem dX6_init_130 : decode cX6_init 130 = .ok (.iconst 2, 1) := by decide +kernel
theorem dX6_init_131 : decode cX6_init 131 = .ok (.bipush 10, 2) := by decide +kernel
theorem dX6_init_133 : decode cX6_init 133 = .ok (.iastore, 1) := by decide +kernel
theorem dX6_init_134 : decode cX6_init 134 = .ok (.dup, 1) := by decide +kernel
theorem dX6_init_135 : decode cX6_init 135 = .ok (.iconst 3, 1) := by decide +kernel
theorem dX6_init_136 : decode cX6_init 136 = .ok (.bipush 10, 2) := by decide +kernel
theorem dX6_init_138 : decode cX6_init 138 = .ok (.iastore, 1) := by decide +kernel
theorem dX6_init_139 : decode cX6_init 139 = .ok (.dup, 1) := by decide +kernel
theorem dX6_init_140 : decode cX6_init 140 = .ok (.iconst 4, 1) := by decide +kernel
theorem dX6_init_141 : decode cX6_init 141 = .ok (.bipush 10, 2) := by decide +kernel
theorem dX6_init_143 : decode cX6_init 143 = .ok (.iastore, 1) := by decide +kernel
theorem dX6_init_144 : decode cX6_init 144 = .ok (.putfield 49, 3) := by decide +kernel
theorem dX6_init_147 : decode cX6_init 147 = .ok (.aload_n 0, 1) := by decide +kernel
theorem dX6_init_148 : decode cX6_init 148 = .ok (.new 52, 3) := by decide +kernel
theorem dX6_init_151 : decode cX6_init 151 = .ok (.dup, 1) := by decide +kernel
theorem dX6_init_152 : decode cX6_init 152 = .ok (.invokespecial 54, 3) := by decide +kernel
theorem dX6_init_155 : decode cX6_init 155 = .ok (.putfield 55, 3) := by decide +kernel
theorem dX6_init_158 : decode cX6_init 158 = .ok (.aload_n 0, 1) := by decide +kernel
theorem dX6_init_159 : decode cX6_init 159 = .ok (.new 59, 3) := by decide +kernel
theorem dX6_init_162 : decode cX6_init 162 = .ok (.dup, 1) := by decide +kernel
theorem dX6_init_163 : decode cX6_init 163 = .ok (.invokespecial 61, 3) := by decide +kernel
theorem dX6_init_166 : decode cX6_init 166 = .ok (.putfield 62, 3) := by decide +kernel
theorem dX6_init_169 : decode cX6_init 169 = .ok (.aload_n 0, 1) := by decide +kernel
theorem dX6_init_170 : decode cX6_init 170 = .ok (.new 16, 3) := by decide +kernel
theorem dX6_init_173 : decode cX6_init 173 = .ok (.dup, 1) := by decide +kernel
theorem dX6_init_174 : decode cX6_init 174 = .ok (.invokespecial 18, 3) := by decide +kernel
theorem dX6_init_177 : decode cX6_init 177 = .ok (.putfield 66, 3) := by decide +kernel
theorem dX6_init_180 : decode cX6_init 180 = .ok (.aload_n 0, 1) := by decide +kernel
theorem dX6_init_181 : decode cX6_init 181 = .ok (.new 23, 3) := by decide +kernel
theorem dX6_init_184 : decode cX6_init 184 = .ok (.dup, 1) := by decide +kernel
theorem dX6_init_185 : decode cX6_init 185 = .ok (.invokespecial 25, 3) := by decide +kernel
theorem dX6_init_188 : decode cX6_init 188 = .ok (.putfield 69, 3) := by decide +kernel
theorem dX6_init_191 : decode cX6_init 191 = .ok (.aload_n 0, 1) := by decide +kernel
theorem dX6_init_192 : decode cX6_init 192 = .ok (.bipush 54, 2) := by decide +kernel
theorem dX6_init_194 : decode cX6_init 194 = .ok (.newarray .int, 2) := by decide +kernel
theorem dX6_init_196 : decode cX6_init 196 = .ok (.putfield 72, 3) := by decide +kernel
theorem dX6_init_199 : decode cX6_init 199 = .ok (.aload_n 0, 1) := by decide +kernel
theorem dX6_init_200 : decode cX6_init 200 = .ok (.bipush 100, 2) := by decide +kernel
theorem dX6_init_202 : decode cX6_init 202 = .ok (.newarray .int, 2) := by decide +kernel
theorem dX6_init_204 : decode cX6_init 204 = .ok (.putfield 75, 3) := by decide +kernel
theorem dX6_init_207 : decode cX6_init 207 = .ok (.aload_n 0, 1) := by decide +kernel
theorem dX6_init_208 : decode cX6_init 208 = .ok (.bipush 100, 2) := by decide +kernel
theorem dX6_init_210 : decode cX6_init 210 = .ok (.newarray .int, 2) := by decide +kernel
theorem dX6_init_212 : decode cX6_init 212 = .ok (.putfield 78, 3) := by decide +kernel
theorem dX6_init_215 : decode cX6_init 215 = .ok (.aload_n 0, 1) := by decide +kernel
theorem dX6_init_216 : decode cX6_init 216 = .ok (.getfield 26, 3) := by decide +kernel
theorem dX6_init_219 : decode cX6_init 219 = .ok (.aload_n 0, 1) := by decide +kernel
theorem dX6_init_220 : decode cX6_init 220 = .ok (.getfield 19, 3) := by decide +kernel
theorem dX6_init_223 : decode cX6_init 223 = .ok (.invokevirtual 81, 3) := by decide +kernel
theorem dX6_init_226 : decode cX6_init 226 = .ok (.return_, 1) := by decide +kernel
set_option maxRecDepth 20000 in
theorem ggX6_type_X6_outside : GoodIn wsX6_type wsX6_outside := goodIn_r _ [5] (by decide +kernel) (by decide +kernel)
set_option maxRecDepth 20000 in
theorem gX6_type_X6_outside : GoodIn wsX6_type (va_wsS RX6 85 yX6_outside wsX6_outside) := goodIn_app (goodIn_of _ (by decide +kernel)) ggX6_type_X6_outside
set_option maxRecDepth 20000 in
theorem ggX6_type_X3_add : GoodIn wsX6_type wsX3_add := goodIn_r _ [10, 11, 12, 13, 30, 31, 32, 33, 34, 35, 36] (by decide +kernel) (by decide +kernel)
set_option maxRecDepth 20000 in
theorem gX6_type_X3_add : GoodIn wsX6_type (wsV RX6 89 RX3 yX3_add wsX3_add) := goodIn_app (goodIn_of _ (by decide +kernel)) ggX6_type_X3_add
theorem dX6_type_0 : decode cX6_type 0 = .ok (.iload_n 3, 1) := by decide +kernel
theorem dX6_type_1 : decode cX6_type 1 = .ok (.iconst 1, 1) := by decide +kernel
theorem dX6_type_2 : decode cX6_type 2 = .ok (.bipush 8, 2) := by decide +kernel
theorem dX6_type_4 : decode cX6_type 4 = .ok (.invokestatic 85, 3) := by decide +kernel
theorem dX6_type_7 : decode cX6_type 7 = .ok (.ifCond .eq 5, 3) := by decide +kernel
theorem dX6_type_10 : decode cX6_type 10 = .ok (.iconst (-1), 1) := by decide +kernel
theorem dX6_type_11 : decode cX6_type 11 = .ok (.ireturn, 1) := by decide +kernel
theorem dX6_type_12 : decode cX6_type 12 = .ok (.aload_n 0, 1) := by decide +kernel
theorem dX6_type_13 : decode cX6_type 13 = .ok (.getfield 10, 3) := by decide +kernel
theorem dX6_type_16 : decode cX6_type 16 = .ok (.lload_n 1, 1) := by decide +kernel
theorem dX6_type_17 : decode cX6_type 17 = .ok (.iload_n 3, 1) := by decide +kernel
theorem dX6_type_18 : decode cX6_type 18 = .ok (.invokevirtual 89, 3) := by decide +kernel
theorem dX6_type_21 : decode cX6_type 21 = .ok (.ireturn, 1) := by decide +kernel
set_option maxRecDepth 20000 in
theorem ggX6_clear_X3_empty : GoodIn wsX6_clear wsX3_empty := goodIn_r _ [6, 7, 24, 25, 26, 27, 28, 29, 30] (by decide +kernel) (by decide +kernel)
set_option maxRecDepth 20000 in
theorem gX6_clear_X3_empty : GoodIn wsX6_clear (wsV RX6 93 RX3 yX3_empty wsX3_empty) := goodIn_app (goodIn_of _ (by decide +kernel)) ggX6_clear_X3_empty
theorem dX6_clear_0 : decode cX6_clear 0 = .ok (.aload_n 0, 1) := by decide +kernel
theorem dX6_clear_1 : decode cX6_clear 1 = .ok (.getfield 10, 3) := by decide +kernel
theorem dX6_clear_4 : decode cX6_clear 4 = .ok (.invokevirtual 93, 3) := by decide +kernel
theorem dX6_clear_7 : decode cX6_clear 7 = .ok (.ireturn, 1) := by decide +kernel
set_option maxRecDepth 20000 in
theorem ggX6_pump_X3_read : GoodIn wsX6_pump wsX3_read := goodIn_r _ [10, 11, 12, 13, 14, 15, 16, 17, 18, 19, 20, 21, 22, 23, 24, 25, 26, 27, 28, 29, 30, 31, 32, 33, 34, 35, 36, 37, 9, 38, 39, 40, 41, 42, 43, 44, 45, 46, 47, 48, 49, 50, 51, 52, 53, 54, 55, 56, 57, 58, 59, 60, 61, 62, 63, 64, 65, 66, 67, 68, 69, 70, 71, 72, 73, 74, 75, 76, 77, 78, 79, 80, 81, 82, 83, 84, 85, 86, 87, 88, 89, 90, 91, 92, 93, 94, 95, 96, 97, 98, 99, 100, 101, 102, 103, 104, 105, 106, 107, 108, 109, 110, 111, 112, 113, 114, 115, 116, 117, 118, 119, 120, 121, 122, 123, 173, 174, 175, 176, 177, 178, 179, 180, 181, 182, 183, 184, 185, 186, 187, 188, 189, 190] (by decide +kernel) (by decide +kernel)
set_option maxRecDepth 20000 in
theorem gX6_pump_X3_read : GoodIn wsX6_pump (wsV RX6 97 RX3 yX3_read wsX3_read) := goodIn_app (goodIn_of _ (by decide +kernel)) ggX6_pump_X3_read
set_option maxRecDepth 20000 in
theorem ggX6_pump_X3_empty : GoodIn wsX6_pump wsX3_empty := goodIn_r _ [127, 39, 173, 174, 175, 176, 177, 178, 179] (by decide +kernel) (by decide +kernel)
set_option maxRecDepth 20000 in
theorem gX6_pump_X3_empty : GoodIn wsX6_pump (wsV RX6 93 RX3 yX3_empty wsX3_empty) := goodIn_app (goodIn_of _ (by decide +kernel)) ggX6_pump_X3_empty
set_option maxRecDepth 20000 in
theorem ggX6_pump_X4_beLike : GoodIn wsX6_pump wsX4_beLike := goodIn_r _ [131, 132, 133, 134, 18, 135, 24, 25, 26, 27, 28, 29, 30, 31, 32, 33, 34, 20, 21, 22, 23, 180, 181, 182, 183, 184, 185, 186, 187, 188, 189, 190] (by decide +kernel) (by decide +kernel)
set_option maxRecDepth 20000 in
theorem gX6_pump_X4_beLike : GoodIn wsX6_pump (wsV RX6 101 RX4 yX4_beLike wsX4_beLike) := goodIn_app (goodIn_of _ (by decide +kernel)) ggX6_pump_X4_beLike
set_option maxRecDepth 20000 in
theorem ggX6_pump_X0_startEmpty : GoodIn wsX6_pump wsX0_startEmpty := goodIn_r _ [140, 141, 142, 143, 144, 145, 146, 139, 147, 148, 149, 150, 151, 152, 153, 154, 155, 18, 156, 28, 26, 191, 192, 193, 194, 195, 196, 197, 180, 181, 182, 183, 184, 185, 186, 187, 188, 189, 190] (by decide +kernel) (by decide +kernel)
set_option maxRecDepth 20000 in
theorem gX6_pump_X0_startEmpty : GoodIn wsX6_pump (wsV RX6 81 RX0 yX0_startEmpty wsX0_startEmpty) := goodIn_app (goodIn_of _ (by decide +kernel)) ggX6_pump_X0_startEmpty
theorem dX6_pump_0 : decode cX6_pump 0 = .ok (.aload_n 0, 1) := by decide +kernel
theorem dX6_pump_1 : decode cX6_pump 1 = .ok (.getfield 10, 3) := by decide +kernel
theorem dX6_pump_4 : decode cX6_pump 4 = .ok (.aload_n 0, 1) := by decide +kernel
theorem dX6_pump_5 : decode cX6_pump 5 = .ok (.getfield 66, 3) := by decide +kernel
theorem dX6_pump_8 : decode cX6_pump 8 = .ok (.invokevirtual 97, 3) := by decide +kernel
theorem dX6_pump_11 : decode cX6_pump 11 = .ok (.istore_n 1, 1) := by decide +kernel
theorem dX6_pump_12 : decode cX6_pump 12 = .ok (.iload_n 1, 1) := by decide +kernel
theorem dX6_pump_13 : decode cX6_pump 13 = .ok (.ifCond .ge 5, 3) := by decide +kernel
theorem dX6_pump_16 : decode cX6_pump 16 = .ok (.iload_n 1, 1) := by decide +kernel
theorem dX6_pump_17 : decode cX6_pump 17 = .ok (.ireturn, 1) := by decide +kernel
theorem dX6_pump_18 : decode cX6_pump 18 = .ok (.aload_n 0, 1) := by decide +kernel
theorem dX6_pump_19 : decode cX6_pump 19 = .ok (.getfield 10, 3) := by decide +kernel
theorem dX6_pump_22 : decode cX6_pump 22 = .ok (.invokevirtual 93, 3) := by decide +kernel
theorem dX6_pump_25 : decode cX6_pump 25 = .ok (.pop, 1) := by decide +kernel
theorem dX6_pump_26 : decode cX6_pump 26 = .ok (.aload_n 0, 1) := by decide +kernel
theorem dX6_pump_27 : decode cX6_pump 27 = .ok (.getfield 19, 3) := by decide +kernel
theorem dX6_pump_30 : decode cX6_pump 30 = .ok (.aload_n 0, 1) := by decide +kernel
theorem dX6_pump_31 : decode cX6_pump 31 = .ok (.getfield 66, 3) := by decide +kernel
theorem dX6_pump_34 : decode cX6_pump 34 = .ok (.invokevirtual 101, 3) := by decide +kernel
theorem dX6_pump_37 : decode cX6_pump 37 = .ok (.aload_n 0, 1) := by decide +kernel
theorem dX6_pump_38 : decode cX6_pump 38 = .ok (.getfield 26, 3) := by decide +kernel
theorem dX6_pump_41 : decode cX6_pump 41 = .ok (.aload_n 0, 1) := by decide +kernel
theorem dX6_pump_42 : decode cX6_pump 42 = .ok (.getfield 19, 3) := by decide +kernel
theorem dX6_pump_45 : decode cX6_pump 45 = .ok (.invokevirtual 81, 3) := by decide +kernel
theorem dX6_pump_48 : decode cX6_pump 48 = .ok (.aload_n 0, 1) := by decide +kernel
theorem dX6_pump_49 : decode cX6_pump 49 = .ok (.getfield 34, 3) := by decide +kernel
theorem dX6_pump_52 : decode cX6_pump 52 = .ok (.iconst 0, 1) := by decide +kernel
theorem dX6_pump_53 : decode cX6_pump 53 = .ok (.iconst 0, 1) := by decide +kernel
theorem dX6_pump_54 : decode cX6_pump 54 = .ok (.bastore, 1) := by decide +kernel
theorem dX6_pump_55 : decode cX6_pump 55 = .ok (.aload_n 0, 1) := by decide +kernel
theorem dX6_pump_56 : decode cX6_pump 56 = .ok (.getfield 34, 3) := by decide +kernel
theorem dX6_pump_59 : decode cX6_pump 59 = .ok (.iconst 1, 1) := by decide +kernel
theorem dX6_pump_60 : decode cX6_pump 60 = .ok (.iconst 0, 1) := by decide +kernel
theorem dX6_pump_61 : decode cX6_pump 61 = .ok (.bastore, 1) := by decide +kernel
theorem dX6_pump_62 : decode cX6_pump 62 = .ok (.iload_n 1, 1) := by decide +kernel
theorem dX6_pump_63 : decode cX6_pump 63 = .ok (.ireturn, 1) := by decide +kernel
set_option maxRecDepth 20000 in
theorem ggX6_told_X6_outside : GoodIn wsX6_told wsX6_outside := goodIn_r _ [5] (by decide +kernel) (by decide +kernel)
set_option maxRecDepth 20000 in
theorem gX6_told_X6_outside : GoodIn wsX6_told (va_wsS RX6 85 yX6_outside wsX6_outside) := goodIn_app (goodIn_of _ (by decide +kernel)) ggX6_told_X6_outside
set_option maxRecDepth 20000 in
theorem ggX6_told_X4_get : GoodIn wsX6_told wsX4_get := goodIn_r _ [10, 11, 12, 13, 14, 15, 16, 17, 18, 19, 20, 21, 38, 39, 40, 41, 42, 43, 44, 45, 46, 47, 48] (by decide +kernel) (by decide +kernel)
set_option maxRecDepth 20000 in
theorem gX6_told_X4_get : GoodIn wsX6_told (wsV RX6 104 RX4 yX4_get wsX4_get) := goodIn_app (goodIn_of _ (by decide +kernel)) ggX6_told_X4_get
theorem dX6_told_0 : decode cX6_told 0 = .ok (.iload_n 1, 1) := by decide +kernel
theorem dX6_told_1 : decode cX6_told 1 = .ok (.iconst 0, 1) := by decide +kernel
theorem dX6_told_2 : decode cX6_told 2 = .ok (.bipush 10, 2) := by decide +kernel
theorem dX6_told_4 : decode cX6_told 4 = .ok (.invokestatic 85, 3) := by decide +kernel
theorem dX6_told_7 : decode cX6_told 7 = .ok (.ifCond .eq 5, 3) := by decide +kernel
theorem dX6_told_10 : decode cX6_told 10 = .ok (.iconst (-1), 1) := by decide +kernel
theorem dX6_told_11 : decode cX6_told 11 = .ok (.ireturn, 1) := by decide +kernel
theorem dX6_told_12 : decode cX6_told 12 = .ok (.aload_n 0, 1) := by decide +kernel
theorem dX6_told_13 : decode cX6_told 13 = .ok (.getfield 19, 3) := by decide +kernel
theorem dX6_told_16 : decode cX6_told 16 = .ok (.iload_n 1, 1) := by decide +kernel
theorem dX6_told_17 : decode cX6_told 17 = .ok (.invokevirtual 104, 3) := by decide +kernel
theorem dX6_told_20 : decode cX6_told 20 = .ok (.ireturn, 1) := by decide +kernel
set_option maxRecDepth 20000 in
theorem ggX6_strokes_X6_outside : GoodIn wsX6_strokes wsX6_outside := goodIn_r _ [6] (by decide +kernel) (by decide +kernel)
set_option maxRecDepth 20000 in
theorem gX6_strokes_X6_outside : GoodIn wsX6_strokes (va_wsS RX6 85 yX6_outside wsX6_outside) := goodIn_app (goodIn_of _ (by decide +kernel)) ggX6_strokes_X6_outside
set_option maxRecDepth 20000 in
theorem ggX6_strokes_X0_pull : GoodIn wsX6_strokes wsX0_pull := goodIn_r _ [11, 12, 13, 14, 15, 16, 10, 17, 18, 19, 20, 21, 22, 23, 24, 25, 26, 27, 28, 29, 30, 31, 32, 33, 34, 35, 36, 37, 38, 39, 40, 41, 42, 43, 44, 45, 46, 47, 48, 49, 50, 51, 52, 53, 54, 71, 72, 73, 74, 75, 76, 77, 78, 79, 80, 81, 82, 83, 84, 85, 86, 87, 88] (by decide +kernel) (by decide +kernel)
set_option maxRecDepth 20000 in
theorem gX6_strokes_X0_pull : GoodIn wsX6_strokes (wsV RX6 108 RX0 yX0_pull wsX0_pull) := goodIn_app (goodIn_of _ (by decide +kernel)) ggX6_strokes_X0_pull
theorem dX6_strokes_0 : decode cX6_strokes 0 = .ok (.iload_n 1, 1) := by decide +kernel
theorem dX6_strokes_1 : decode cX6_strokes 1 = .ok (.iconst 1, 1) := by decide +kernel
theorem dX6_strokes_2 : decode cX6_strokes 2 = .ok (.sipush 200, 3) := by decide +kernel
theorem dX6_strokes_5 : decode cX6_strokes 5 = .ok (.invokestatic 85, 3) := by decide +kernel
theorem dX6_strokes_8 : decode cX6_strokes 8 = .ok (.ifCond .eq 5, 3) := by decide +kernel
theorem dX6_strokes_11 : decode cX6_strokes 11 = .ok (.iconst (-1), 1) := by decide +kernel
theorem dX6_strokes_12 : decode cX6_strokes 12 = .ok (.ireturn, 1) := by decide +kernel
theorem dX6_strokes_13 : decode cX6_strokes 13 = .ok (.aload_n 0, 1) := by decide +kernel
theorem dX6_strokes_14 : decode cX6_strokes 14 = .ok (.getfield 26, 3) := by decide +kernel
theorem dX6_strokes_17 : decode cX6_strokes 17 = .ok (.aload_n 0, 1) := by decide +kernel
theorem dX6_strokes_18 : decode cX6_strokes 18 = .ok (.getfield 19, 3) := by decide +kernel
theorem dX6_strokes_21 : decode cX6_strokes 21 = .ok (.iload_n 1, 1) := by decide +kernel
theorem dX6_strokes_22 : decode cX6_strokes 22 = .ok (.invokevirtual 108, 3) := by decide +kernel
theorem dX6_strokes_25 : decode cX6_strokes 25 = .ok (.ireturn, 1) := by decide +kernel
set_option maxRecDepth 20000 in
theorem ggX6_jug_X6_outside : GoodIn wsX6_jug wsX6_outside := goodIn_r _ [5] (by decide +kernel) (by decide +kernel)
set_option maxRecDepth 20000 in
theorem gX6_jug_X6_outside : GoodIn wsX6_jug (va_wsS RX6 85 yX6_outside wsX6_outside) := goodIn_app (goodIn_of _ (by decide +kernel)) ggX6_jug_X6_outside
set_option maxRecDepth 20000 in
theorem ggX6_jug_X0_pour : GoodIn wsX6_jug wsX0_pour := goodIn_r _ [10, 11, 12, 13, 14, 15, 16, 17, 18, 19, 36, 37, 38, 39, 40, 41, 42] (by decide +kernel) (by decide +kernel)
set_option maxRecDepth 20000 in
theorem gX6_jug_X0_pour : GoodIn wsX6_jug (wsV RX6 112 RX0 yX0_pour wsX0_pour) := goodIn_app (goodIn_of _ (by decide +kernel)) ggX6_jug_X0_pour
theorem dX6_jug_0 : decode cX6_jug 0 = .ok (.iload_n 1, 1) := by decide +kernel
theorem dX6_jug_1 : decode cX6_jug 1 = .ok (.iconst 1, 1) := by decide +kernel
theorem dX6_jug_2 : decode cX6_jug 2 = .ok (.bipush 99, 2) := by decide +kernel
theorem dX6_jug_4 : decode cX6_jug 4 = .ok (.invokestatic 85, 3) := by decide +kernel
theorem dX6_jug_7 : decode cX6_jug 7 = .ok (.ifCond .eq 5, 3) := by decide +kernel
theorem dX6_jug_10 : decode cX6_jug 10 = .ok (.iconst (-1), 1) := by decide +kernel
theorem dX6_jug_11 : decode cX6_jug 11 = .ok (.ireturn, 1) := by decide +kernel
theorem dX6_jug_12 : decode cX6_jug 12 = .ok (.aload_n 0, 1) := by decide +kernel
theorem dX6_jug_13 : decode cX6_jug 13 = .ok (.getfield 26, 3) := by decide +kernel
theorem dX6_jug_16 : decode cX6_jug 16 = .ok (.iload_n 1, 1) := by decide +kernel
theorem dX6_jug_17 : decode cX6_jug 17 = .ok (.invokevirtual 112, 3) := by decide +kernel
theorem dX6_jug_20 : decode cX6_jug 20 = .ok (.ireturn, 1) := by decide +kernel
set_option maxRecDepth 20000 in
theorem ggX6_hours_X6_outside : GoodIn wsX6_hours wsX6_outside := goodIn_r _ [6] (by decide +kernel) (by decide +kernel)
set_option maxRecDepth 20000 in
theorem gX6_hours_X6_outside : GoodIn wsX6_hours (va_wsS RX6 85 yX6_outside wsX6_outside) := goodIn_app (goodIn_of _ (by decide +kernel)) ggX6_hours_X6_outside
set_option maxRecDepth 20000 in
theorem ggX6_hours_X0_stand : GoodIn wsX6_hours wsX0_stand := goodIn_r _ [11, 12, 13, 14, 15, 16, 10, 17, 18, 19, 20, 21, 22, 23, 24, 25, 26, 27, 28, 29, 30, 31, 32, 33, 34, 35, 36, 37, 38, 39, 40, 41, 58, 59, 60, 61, 62, 63, 64, 65, 66, 67, 68, 69, 70, 71, 72, 73, 74, 75] (by decide +kernel) (by decide +kernel)
set_option maxRecDepth 20000 in
theorem gX6_hours_X0_stand : GoodIn wsX6_hours (wsV RX6 115 RX0 yX0_stand wsX0_stand) := goodIn_app (goodIn_of _ (by decide +kernel)) ggX6_hours_X0_stand
theorem dX6_hours_0 : decode cX6_hours 0 = .ok (.iload_n 1, 1) := by decide +kernel
theorem dX6_hours_1 : decode cX6_hours 1 = .ok (.iconst 1, 1) := by decide +kernel
theorem dX6_hours_2 : decode cX6_hours 2 = .ok (.bipush 48, 2) := by decide +kernel
theorem dX6_hours_4 : decode cX6_hours 4 = .ok (.invokestatic 85, 3) := by decide +kernel
theorem dX6_hours_7 : decode cX6_hours 7 = .ok (.ifCond .eq 5, 3) := by decide +kernel
theorem dX6_hours_10 : decode cX6_hours 10 = .ok (.iconst (-1), 1) := by decide +kernel
theorem dX6_hours_11 : decode cX6_hours 11 = .ok (.ireturn, 1) := by decide +kernel
theorem dX6_hours_12 : decode cX6_hours 12 = .ok (.aload_n 0, 1) := by decide +kernel
theorem dX6_hours_13 : decode cX6_hours 13 = .ok (.getfield 26, 3) := by decide +kernel
theorem dX6_hours_16 : decode cX6_hours 16 = .ok (.aload_n 0, 1) := by decide +kernel
theorem dX6_hours_17 : decode cX6_hours 17 = .ok (.getfield 19, 3) := by decide +kernel
theorem dX6_hours_20 : decode cX6_hours 20 = .ok (.iload_n 1, 1) := by decide +kernel
theorem dX6_hours_21 : decode cX6_hours 21 = .ok (.invokevirtual 115, 3) := by decide +kernel
theorem dX6_hours_24 : decode cX6_hours 24 = .ok (.ireturn, 1) := by decide +kernel
set_option maxRecDepth 20000 in
theorem ggX6_now_X4_depth : GoodIn wsX6_now wsX4_depth := goodIn_r _ [14, 15, 16, 62, 63, 64, 65, 66, 67, 68, 69, 70, 71, 72] (by decide +kernel) (by decide +kernel)
set_option maxRecDepth 20000 in
theorem gX6_now_X4_depth : GoodIn wsX6_now (wsV RX6 139 RX4 yX4_depth wsX4_depth) := goodIn_app (goodIn_of _ (by decide +kernel)) ggX6_now_X4_depth
set_option maxRecDepth 20000 in
theorem ggX6_now_X4_lift : GoodIn wsX6_now wsX4_lift := goodIn_r _ [20, 21, 22, 62, 63, 64, 65, 66, 67, 68, 69, 70, 71, 72] (by decide +kernel) (by decide +kernel)
set_option maxRecDepth 20000 in
theorem gX6_now_X4_lift : GoodIn wsX6_now (wsV RX6 142 RX4 yX4_lift wsX4_lift) := goodIn_app (goodIn_of _ (by decide +kernel)) ggX6_now_X4_lift
set_option maxRecDepth 20000 in
theorem ggX6_now_X4_gain : GoodIn wsX6_now wsX4_gain := goodIn_r _ [26, 27, 28, 29, 30, 31, 32, 33, 34, 35, 13, 36, 37, 38, 62, 63, 64, 65, 66, 67, 68, 69, 70, 71, 72] (by decide +kernel) (by decide +kernel)
set_option maxRecDepth 20000 in
theorem gX6_now_X4_gain : GoodIn wsX6_now (wsV RX6 145 RX4 yX4_gain wsX4_gain) := goodIn_app (goodIn_of _ (by decide +kernel)) ggX6_now_X4_gain
theorem dX6_now_0 : decode cX6_now 0 = .ok (.iload_n 1, 1) := by decide +kernel
theorem dX6_now_1 : decode cX6_now 1 = .ok (.tableswitch 163 0 9 #[55, 63, 71, 79, 87, 95, 103, 111, 126, 134], 55) := by decide +kernel
theorem dX6_now_56 : decode cX6_now 56 = .ok (.aload_n 0, 1) := by decide +kernel
theorem dX6_now_57 : decode cX6_now 57 = .ok (.getfield 26, 3) := by decide +kernel
theorem dX6_now_60 : decode cX6_now 60 = .ok (.getfield 118, 3) := by decide +kernel
theorem dX6_now_63 : decode cX6_now 63 = .ok (.ireturn, 1) := by decide +kernel
theorem dX6_now_64 : decode cX6_now 64 = .ok (.aload_n 0, 1) := by decide +kernel
theorem dX6_now_65 : decode cX6_now 65 = .ok (.getfield 26, 3) := by decide +kernel
theorem dX6_now_68 : decode cX6_now 68 = .ok (.getfield 121, 3) := by decide +kernel
theorem dX6_now_71 : decode cX6_now 71 = .ok (.ireturn, 1) := by decide +kernel
theorem dX6_now_72 : decode cX6_now 72 = .ok (.aload_n 0, 1) := by decide +kernel
theorem dX6_now_73 : decode cX6_now 73 = .ok (.getfield 26, 3) := by decide +kernel
theorem dX6_now_76 : decode cX6_now 76 = .ok (.getfield 124, 3) := by decide +kernel
theorem dX6_now_79 : decode cX6_now 79 = .ok (.ireturn, 1) := by decide +kernel
theorem dX6_now_80 : decode cX6_now 80 = .ok (.aload_n 0, 1) := by decide +kernel
theorem dX6_now_81 : decode cX6_now 81 = .ok (.getfield 26, 3) := by decide +kernel
theorem dX6_now_84 : decode cX6_now 84 = .ok (.getfield 127, 3) := by decide +kernel
theorem dX6_now_87 : decode cX6_now 87 = .ok (.ireturn, 1) := by decide +kernel
theorem dX6_now_88 : decode cX6_now 88 = .ok (.aload_n 0, 1) := by decide +kernel
theorem dX6_now_89 : decode cX6_now 89 = .ok (.getfield 26, 3) := by decide +kernel
theorem dX6_now_92 : decode cX6_now 92 = .ok (.getfield 130, 3) := by decide +kernel
theorem dX6_now_95 : decode cX6_now 95 = .ok (.ireturn, 1) := by decide +kernel
theorem dX6_now_96 : decode cX6_now 96 = .ok (.aload_n 0, 1) := by decide +kernel
theorem dX6_now_97 : decode cX6_now 97 = .ok (.getfield 26, 3) := by decide +kernel
theorem dX6_now_100 : decode cX6_now 100 = .ok (.getfield 133, 3) := by decide +kernel
theorem dX6_now_103 : decode cX6_now 103 = .ok (.ireturn, 1) := by decide +kernel
theorem dX6_now_104 : decode cX6_now 104 = .ok (.aload_n 0, 1) := by decide +kernel
theorem dX6_now_105 : decode cX6_now 105 = .ok (.getfield 26, 3) := by decide +kernel
theorem dX6_now_108 : decode cX6_now 108 = .ok (.getfield 136, 3) := by decide +kernel
theorem dX6_now_111 : decode cX6_now 111 = .ok (.ireturn, 1) := by decide +kernel
theorem dX6_now_112 : decode cX6_now 112 = .ok (.aload_n 0, 1) := by decide +kernel
theorem dX6_now_113 : decode cX6_now 113 = .ok (.getfield 19, 3) := by decide +kernel
theorem dX6_now_116 : decode cX6_now 116 = .ok (.aload_n 0, 1) := by decide +kernel
theorem dX6_now_117 : decode cX6_now 117 = .ok (.getfield 26, 3) := by decide +kernel
theorem dX6_now_120 : decode cX6_now 120 = .ok (.getfield 124, 3) := by decide +kernel
theorem dX6_now_123 : decode cX6_now 123 = .ok (.invokevirtual 139, 3) := by decide +kernel
theorem dX6_now_126 : decode cX6_now 126 = .ok (.ireturn, 1) := by decide +kernel
theorem dX6_now_127 : decode cX6_now 127 = .ok (.aload_n 0, 1) := by decide +kernel
theorem dX6_now_128 : decode cX6_now 128 = .ok (.getfield 19, 3) := by decide +kernel
theorem dX6_now_131 : decode cX6_now 131 = .ok (.invokevirtual 142, 3) := by decide +kernel
theorem dX6_now_134 : decode cX6_now 134 = .ok (.ireturn, 1) := by decide +kernel
theorem dX6_now_135 : decode cX6_now 135 = .ok (.aload_n 0, 1) := by decide +kernel
theorem dX6_now_136 : decode cX6_now 136 = .ok (.getfield 19, 3) := by decide +kernel
theorem dX6_now_139 : decode cX6_now 139 = .ok (.aload_n 0, 1) := by decide +kernel
theorem dX6_now_140 : decode cX6_now 140 = .ok (.getfield 26, 3) := by decide +kernel
theorem dX6_now_143 : decode cX6_now 143 = .ok (.getfield 121, 3) := by decide +kernel
theorem dX6_now_146 : decode cX6_now 146 = .ok (.aload_n 0, 1) := by decide +kernel
theorem dX6_now_147 : decode cX6_now 147 = .ok (.getfield 19, 3) := by decide +kernel
theorem dX6_now_150 : decode cX6_now 150 = .ok (.aload_n 0, 1) := by decide +kernel
theorem dX6_now_151 : decode cX6_now 151 = .ok (.getfield 26, 3) := by decide +kernel
theorem dX6_now_154 : decode cX6_now 154 = .ok (.getfield 124, 3) := by decide +kernel
theorem dX6_now_157 : decode cX6_now 157 = .ok (.invokevirtual 139, 3) := by decide +kernel
theorem dX6_now_160 : decode cX6_now 160 = .ok (.invokevirtual 145, 3) := by decide +kernel
theorem dX6_now_163 : decode cX6_now 163 = .ok (.ireturn, 1) := by decide +kernel
theorem dX6_now_164 : decode cX6_now 164 = .ok (.iconst (-1), 1) := by decide +kernel
theorem dX6_now_165 : decode cX6_now 165 = .ok (.ireturn, 1) := by decide +kernel
set_option maxRecDepth 20000 in
theorem ggX6_anew_X0_startEmpty : GoodIn wsX6_anew wsX0_startEmpty := goodIn_r _ [8, 9, 10, 11, 12, 13, 14, 7, 15, 16, 17, 18, 19, 20, 21, 22, 23, 24, 25, 26, 27, 44, 45, 46, 47, 48, 49, 50, 51, 52, 53, 54, 55, 56, 57, 58, 59, 60, 61] (by decide +kernel) (by decide +kernel)
set_option maxRecDepth 20000 in
theorem gX6_anew_X0_startEmpty : GoodIn wsX6_anew (wsV RX6 81 RX0 yX0_startEmpty wsX0_startEmpty) := goodIn_app (goodIn_of _ (by decide +kernel)) ggX6_anew_X0_startEmpty
theorem dX6_anew_0 : decode cX6_anew 0 = .ok (.aload_n 0, 1) := by decide +kernel
theorem dX6_anew_1 : decode cX6_anew 1 = .ok (.getfield 26, 3) := by decide +kernel
theorem dX6_anew_4 : decode cX6_anew 4 = .ok (.getfield 127, 3) := by decide +kernel
theorem dX6_anew_7 : decode cX6_anew 7 = .ok (.istore_n 1, 1) := by decide +kernel
theorem dX6_anew_8 : decode cX6_anew 8 = .ok (.aload_n 0, 1) := by decide +kernel
theorem dX6_anew_9 : decode cX6_anew 9 = .ok (.getfield 26, 3) := by decide +kernel
theorem dX6_anew_12 : decode cX6_anew 12 = .ok (.aload_n 0, 1) := by decide +kernel
theorem dX6_anew_13 : decode cX6_anew 13 = .ok (.getfield 19, 3) := by decide +kernel
theorem dX6_anew_16 : decode cX6_anew 16 = .ok (.invokevirtual 81, 3) := by decide +kernel
theorem dX6_anew_19 : decode cX6_anew 19 = .ok (.iload_n 1, 1) := by decide +kernel
theorem dX6_anew_20 : decode cX6_anew 20 = .ok (.ireturn, 1) := by decide +kernel
set_option maxRecDepth 20000 in
theorem ggX6_until_X0_pullsToWater : GoodIn wsX6_until wsX0_pullsToWater := goodIn_r _ [7, 8, 9, 10, 11, 12, 13, 14, 15, 16, 17, 18, 19, 20, 21, 22, 23, 24, 25, 26, 27, 28, 29, 30, 31, 32, 33, 34, 35, 36, 37, 38, 39, 60, 61, 62, 63, 64, 65, 66, 67, 68, 69, 70, 71, 72, 73, 74, 75, 76, 77] (by decide +kernel) (by decide +kernel)
set_option maxRecDepth 20000 in
theorem gX6_until_X0_pullsToWater : GoodIn wsX6_until (wsV RX6 149 RX0 yX0_pullsToWater wsX0_pullsToWater) := goodIn_app (goodIn_of _ (by decide +kernel)) ggX6_until_X0_pullsToWater
set_option maxRecDepth 20000 in
theorem ggX6_until_X6_noneIfZero : GoodIn wsX6_until wsX6_noneIfZero := goodIn_r _ [43] (by decide +kernel) (by decide +kernel)
set_option maxRecDepth 20000 in
theorem gX6_until_X6_noneIfZero : GoodIn wsX6_until (va_wsS RX6 152 yX6_noneIfZero wsX6_noneIfZero) := goodIn_app (goodIn_of _ (by decide +kernel)) ggX6_until_X6_noneIfZero
theorem dX6_until_0 : decode cX6_until 0 = .ok (.aload_n 0, 1) := by decide +kernel
theorem dX6_until_1 : decode cX6_until 1 = .ok (.getfield 26, 3) := by decide +kernel
theorem dX6_until_4 : decode cX6_until 4 = .ok (.aload_n 0, 1) := by decide +kernel
theorem dX6_until_5 : decode cX6_until 5 = .ok (.getfield 19, 3) := by decide +kernel
theorem dX6_until_8 : decode cX6_until 8 = .ok (.invokevirtual 149, 3) := by decide +kernel
theorem dX6_until_11 : decode cX6_until 11 = .ok (.invokestatic 152, 3) := by decide +kernel
theorem dX6_until_14 : decode cX6_until 14 = .ok (.ireturn, 1) := by decide +kernel
set_option maxRecDepth 20000 in
theorem ggX6_least_X6_outside : GoodIn wsX6_least wsX6_outside := goodIn_r _ [7] (by decide +kernel) (by decide +kernel)
set_option maxRecDepth 20000 in
theorem gX6_least_X6_outside : GoodIn wsX6_least (va_wsS RX6 85 yX6_outside wsX6_outside) := goodIn_app (goodIn_of _ (by decide +kernel)) ggX6_least_X6_outside
set_option maxRecDepth 20000 in
theorem ggX6_least_X0_beLike : GoodIn wsX6_least wsX0_beLike := goodIn_r _ [12, 13, 14, 15, 16, 17, 18, 19, 77, 78, 79, 80, 81, 82, 83] (by decide +kernel) (by decide +kernel)
set_option maxRecDepth 20000 in
theorem gX6_least_X0_beLike : GoodIn wsX6_least (wsV RX6 155 RX0 yX0_beLike wsX0_beLike) := goodIn_app (goodIn_of _ (by decide +kernel)) ggX6_least_X0_beLike
set_option maxRecDepth 20000 in
theorem ggX6_least_X0_pour : GoodIn wsX6_least wsX0_pour := goodIn_r _ [23, 13, 24, 25, 26, 27, 14, 28, 29, 30, 77, 78, 79, 80, 81, 82, 83] (by decide +kernel) (by decide +kernel)
set_option maxRecDepth 20000 in
theorem gX6_least_X0_pour : GoodIn wsX6_least (wsV RX6 112 RX0 yX0_pour wsX0_pour) := goodIn_app (goodIn_of _ (by decide +kernel)) ggX6_least_X0_pour
set_option maxRecDepth 20000 in
theorem ggX6_least_X0_pullsToWater : GoodIn wsX6_least wsX0_pullsToWater := goodIn_r _ [34, 15, 14, 13, 35, 36, 37, 38, 39, 40, 41, 42, 43, 44, 45, 46, 47, 48, 25, 26, 27, 49, 50, 51, 52, 53, 54, 55, 56, 57, 58, 59, 60, 77, 78, 79, 80, 81, 82, 83, 84, 85, 86, 87, 88, 89, 90, 91, 92, 93, 94] (by decide +kernel) (by decide +kernel)
set_option maxRecDepth 20000 in
theorem gX6_least_X0_pullsToWater : GoodIn wsX6_least (wsV RX6 149 RX0 yX0_pullsToWater wsX0_pullsToWater) := goodIn_app (goodIn_of _ (by decide +kernel)) ggX6_least_X0_pullsToWater
theorem dX6_least_0 : decode cX6_least 0 = .ok (.iload_n 1, 1) := by decide +kernel
theorem dX6_least_1 : decode cX6_least 1 = .ok (.iconst 1, 1) := by decide +kernel
theorem dX6_least_2 : decode cX6_least 2 = .ok (.sipush 200, 3) := by decide +kernel
theorem dX6_least_5 : decode cX6_least 5 = .ok (.invokestatic 85, 3) := by decide +kernel
theorem dX6_least_8 : decode cX6_least 8 = .ok (.ifCond .eq 5, 3) := by decide +kernel
theorem dX6_least_11 : decode cX6_least 11 = .ok (.iconst (-1), 1) := by decide +kernel
theorem dX6_least_12 : decode cX6_least 12 = .ok (.ireturn, 1) := by decide +kernel
theorem dX6_least_13 : decode cX6_least 13 = .ok (.iconst 0, 1) := by decide +kernel
theorem dX6_least_14 : decode cX6_least 14 = .ok (.istore_n 2, 1) := by decide +kernel
theorem dX6_least_15 : decode cX6_least 15 = .ok (.iload_n 2, 1) := by decide +kernel
theorem dX6_least_16 : decode cX6_least 16 = .ok (.bipush 99, 2) := by decide +kernel
theorem dX6_least_18 : decode cX6_least 18 = .ok (.if_icmp .gt 52, 3) := by decide +kernel
theorem dX6_least_21 : decode cX6_least 21 = .ok (.aload_n 0, 1) := by decide +kernel
theorem dX6_least_22 : decode cX6_least 22 = .ok (.getfield 69, 3) := by decide +kernel
theorem dX6_least_25 : decode cX6_least 25 = .ok (.aload_n 0, 1) := by decide +kernel
theorem dX6_least_26 : decode cX6_least 26 = .ok (.getfield 26, 3) := by decide +kernel
theorem dX6_least_29 : decode cX6_least 29 = .ok (.invokevirtual 155, 3) := by decide +kernel
theorem dX6_least_32 : decode cX6_least 32 = .ok (.aload_n 0, 1) := by decide +kernel
theorem dX6_least_33 : decode cX6_least 33 = .ok (.getfield 69, 3) := by decide +kernel
theorem dX6_least_36 : decode cX6_least 36 = .ok (.iload_n 2, 1) := by decide +kernel
theorem dX6_least_37 : decode cX6_least 37 = .ok (.invokevirtual 112, 3) := by decide +kernel
theorem dX6_least_40 : decode cX6_least 40 = .ok (.pop, 1) := by decide +kernel
theorem dX6_least_41 : decode cX6_least 41 = .ok (.aload_n 0, 1) := by decide +kernel
theorem dX6_least_42 : decode cX6_least 42 = .ok (.getfield 69, 3) := by decide +kernel
theorem dX6_least_45 : decode cX6_least 45 = .ok (.aload_n 0, 1) := by decide +kernel
theorem dX6_least_46 : decode cX6_least 46 = .ok (.getfield 19, 3) := by decide +kernel
theorem dX6_least_49 : decode cX6_least 49 = .ok (.invokevirtual 149, 3) := by decide +kernel
theorem dX6_least_52 : decode cX6_least 52 = .ok (.istore_n 3, 1) := by decide +kernel
theorem dX6_least_53 : decode cX6_least 53 = .ok (.iload_n 3, 1) := by decide +kernel
theorem dX6_least_54 : decode cX6_least 54 = .ok (.ifCond .le 10, 3) := by decide +kernel
theorem dX6_least_57 : decode cX6_least 57 = .ok (.iload_n 3, 1) := by decide +kernel
theorem dX6_least_58 : decode cX6_least 58 = .ok (.iload_n 1, 1) := by decide +kernel
theorem dX6_least_59 : decode cX6_least 59 = .ok (.if_icmp .gt 5, 3) := by decide +kernel
theorem dX6_least_62 : decode cX6_least 62 = .ok (.iload_n 2, 1) := by decide +kernel
theorem dX6_least_63 : decode cX6_least 63 = .ok (.ireturn, 1) := by decide +kernel
theorem dX6_least_64 : decode cX6_least 64 = .ok (.iinc 2 1, 3) := by decide +kernel
theorem dX6_least_67 : decode cX6_least 67 = .ok (.goto (-52), 3) := by decide +kernel
theorem dX6_least_70 : decode cX6_least 70 = .ok (.bipush (-9), 2) := by decide +kernel
theorem dX6_least_72 : decode cX6_least 72 = .ok (.ireturn, 1) := by decide +kernel
set_option maxRecDepth 20000 in
theorem ggX6_night_X6_outside : GoodIn wsX6_night wsX6_outside := goodIn_r _ [7] (by decide +kernel) (by decide +kernel)
set_option maxRecDepth 20000 in
theorem gX6_night_X6_outside : GoodIn wsX6_night (va_wsS RX6 85 yX6_outside wsX6_outside) := goodIn_app (goodIn_of _ (by decide +kernel)) ggX6_night_X6_outside
set_option maxRecDepth 20000 in
theorem ggX6_night_X0_beLike : GoodIn wsX6_night wsX0_beLike := goodIn_r _ [12, 13, 14, 15, 16, 17, 18, 19, 66, 67, 68, 69, 70, 71, 72] (by decide +kernel) (by decide +kernel)
set_option maxRecDepth 20000 in
theorem gX6_night_X0_beLike : GoodIn wsX6_night (wsV RX6 155 RX0 yX0_beLike wsX0_beLike) := goodIn_app (goodIn_of _ (by decide +kernel)) ggX6_night_X0_beLike
set_option maxRecDepth 20000 in
theorem ggX6_night_X0_stand : GoodIn wsX6_night wsX0_stand := goodIn_r _ [23, 18, 13, 24, 25, 26, 11, 27, 15, 28, 29, 30, 31, 32, 14, 33, 34, 35, 36, 37, 38, 39, 40, 41, 42, 43, 44, 45, 46, 47, 48, 49, 66, 67, 68, 69, 70, 71, 72, 73, 74, 75, 76, 77, 78, 79, 80, 81, 82, 83] (by decide +kernel) (by decide +kernel)
set_option maxRecDepth 20000 in
theorem gX6_night_X0_stand : GoodIn wsX6_night (wsV RX6 115 RX0 yX0_stand wsX0_stand) := goodIn_app (goodIn_of _ (by decide +kernel)) ggX6_night_X0_stand
theorem dX6_night_0 : decode cX6_night 0 = .ok (.iload_n 1, 1) := by decide +kernel
theorem dX6_night_1 : decode cX6_night 1 = .ok (.iconst 1, 1) := by decide +kernel
theorem dX6_night_2 : decode cX6_night 2 = .ok (.bipush 48, 2) := by decide +kernel
theorem dX6_night_4 : decode cX6_night 4 = .ok (.invokestatic 85, 3) := by decide +kernel
theorem dX6_night_7 : decode cX6_night 7 = .ok (.ifCond .eq 5, 3) := by decide +kernel
theorem dX6_night_10 : decode cX6_night 10 = .ok (.iconst (-1), 1) := by decide +kernel
theorem dX6_night_11 : decode cX6_night 11 = .ok (.ireturn, 1) := by decide +kernel
theorem dX6_night_12 : decode cX6_night 12 = .ok (.aload_n 0, 1) := by decide +kernel
theorem dX6_night_13 : decode cX6_night 13 = .ok (.getfield 69, 3) := by decide +kernel
theorem dX6_night_16 : decode cX6_night 16 = .ok (.aload_n 0, 1) := by decide +kernel
theorem dX6_night_17 : decode cX6_night 17 = .ok (.getfield 26, 3) := by decide +kernel
theorem dX6_night_20 : decode cX6_night 20 = .ok (.invokevirtual 155, 3) := by decide +kernel
theorem dX6_night_23 : decode cX6_night 23 = .ok (.aload_n 0, 1) := by decide +kernel
theorem dX6_night_24 : decode cX6_night 24 = .ok (.getfield 69, 3) := by decide +kernel
theorem dX6_night_27 : decode cX6_night 27 = .ok (.aload_n 0, 1) := by decide +kernel
theorem dX6_night_28 : decode cX6_night 28 = .ok (.getfield 19, 3) := by decide +kernel
theorem dX6_night_31 : decode cX6_night 31 = .ok (.iload_n 1, 1) := by decide +kernel
theorem dX6_night_32 : decode cX6_night 32 = .ok (.invokevirtual 115, 3) := by decide +kernel
theorem dX6_night_35 : decode cX6_night 35 = .ok (.ireturn, 1) := by decide +kernel
set_option maxRecDepth 20000 in
theorem ggX6_sign_X6_signMayBe : GoodIn wsX6_sign wsX6_signMayBe := goodIn_r _ [5, 6, 7, 4, 8] (by decide +kernel) (by decide +kernel)
set_option maxRecDepth 20000 in
theorem gX6_sign_X6_signMayBe : GoodIn wsX6_sign (va_wsS RX6 158 yX6_signMayBe wsX6_signMayBe) := goodIn_app (goodIn_of _ (by decide +kernel)) ggX6_sign_X6_signMayBe
set_option maxRecDepth 20000 in
theorem ggX6_sign_X2_add : GoodIn wsX6_sign wsX2_add := goodIn_r _ [13, 14, 15, 16, 17, 34, 35, 36, 37] (by decide +kernel) (by decide +kernel)
set_option maxRecDepth 20000 in
theorem gX6_sign_X2_add : GoodIn wsX6_sign (wsV RX6 161 RX2 yX2_add wsX2_add) := goodIn_app (goodIn_of _ (by decide +kernel)) ggX6_sign_X2_add
theorem dX6_sign_0 : decode cX6_sign 0 = .ok (.iload_n 1, 1) := by decide +kernel
theorem dX6_sign_1 : decode cX6_sign 1 = .ok (.iload_n 2, 1) := by decide +kernel
theorem dX6_sign_2 : decode cX6_sign 2 = .ok (.iload_n 3, 1) := by decide +kernel
theorem dX6_sign_3 : decode cX6_sign 3 = .ok (.invokestatic 158, 3) := by decide +kernel
theorem dX6_sign_6 : decode cX6_sign 6 = .ok (.ifCond .ne 5, 3) := by decide +kernel
theorem dX6_sign_9 : decode cX6_sign 9 = .ok (.iconst (-1), 1) := by decide +kernel
theorem dX6_sign_10 : decode cX6_sign 10 = .ok (.ireturn, 1) := by decide +kernel
theorem dX6_sign_11 : decode cX6_sign 11 = .ok (.aload_n 0, 1) := by decide +kernel
theorem dX6_sign_12 : decode cX6_sign 12 = .ok (.getfield 41, 3) := by decide +kernel
theorem dX6_sign_15 : decode cX6_sign 15 = .ok (.iload_n 1, 1) := by decide +kernel
theorem dX6_sign_16 : decode cX6_sign 16 = .ok (.iload_n 2, 1) := by decide +kernel
theorem dX6_sign_17 : decode cX6_sign 17 = .ok (.iload_n 3, 1) := by decide +kernel
theorem dX6_sign_18 : decode cX6_sign 18 = .ok (.invokevirtual 161, 3) := by decide +kernel
theorem dX6_sign_21 : decode cX6_sign 21 = .ok (.ireturn, 1) := by decide +kernel
set_option maxRecDepth 20000 in
theorem ggX6_unsign_X2_empty : GoodIn wsX6_unsign wsX2_empty := goodIn_r _ [6, 7, 24, 25, 26, 27] (by decide +kernel) (by decide +kernel)
set_option maxRecDepth 20000 in
theorem gX6_unsign_X2_empty : GoodIn wsX6_unsign (wsV RX6 164 RX2 yX2_empty wsX2_empty) := goodIn_app (goodIn_of _ (by decide +kernel)) ggX6_unsign_X2_empty
theorem dX6_unsign_0 : decode cX6_unsign 0 = .ok (.aload_n 0, 1) := by decide +kernel
theorem dX6_unsign_1 : decode cX6_unsign 1 = .ok (.getfield 41, 3) := by decide +kernel
theorem dX6_unsign_4 : decode cX6_unsign 4 = .ok (.invokevirtual 164, 3) := by decide +kernel
theorem dX6_unsign_7 : decode cX6_unsign 7 = .ok (.ireturn, 1) := by decide +kernel
set_option maxRecDepth 20000 in
theorem ggX6_chance_X6_outside : GoodIn wsX6_chance wsX6_outside := goodIn_r _ [5] (by decide +kernel) (by decide +kernel)
set_option maxRecDepth 20000 in
theorem gX6_chance_X6_outside : GoodIn wsX6_chance (va_wsS RX6 85 yX6_outside wsX6_outside) := goodIn_app (goodIn_of _ (by decide +kernel)) ggX6_chance_X6_outside
theorem dX6_chance_0 : decode cX6_chance 0 = .ok (.iload_n 1, 1) := by decide +kernel
theorem dX6_chance_1 : decode cX6_chance 1 = .ok (.iconst 0, 1) := by decide +kernel
theorem dX6_chance_2 : decode cX6_chance 2 = .ok (.iconst 5, 1) := by decide +kernel
theorem dX6_chance_3 : decode cX6_chance 3 = .ok (.invokestatic 85, 3) := by decide +kernel
theorem dX6_chance_6 : decode cX6_chance 6 = .ok (.ifCond .ne 13, 3) := by decide +kernel
theorem dX6_chance_9 : decode cX6_chance 9 = .ok (.iload_n 2, 1) := by decide +kernel
theorem dX6_chance_10 : decode cX6_chance 10 = .ok (.iconst 0, 1) := by decide +kernel
theorem dX6_chance_11 : decode cX6_chance 11 = .ok (.bipush 9, 2) := by decide +kernel
theorem dX6_chance_13 : decode cX6_chance 13 = .ok (.invokestatic 85, 3) := by decide +kernel
theorem dX6_chance_16 : decode cX6_chance 16 = .ok (.ifCond .eq 5, 3) := by decide +kernel
theorem dX6_chance_19 : decode cX6_chance 19 = .ok (.iconst (-1), 1) := by decide +kernel
theorem dX6_chance_20 : decode cX6_chance 20 = .ok (.ireturn, 1) := by decide +kernel
theorem dX6_chance_21 : decode cX6_chance 21 = .ok (.aload_n 0, 1) := by decide +kernel
theorem dX6_chance_22 : decode cX6_chance 22 = .ok (.getfield 45, 3) := by decide +kernel
theorem dX6_chance_25 : decode cX6_chance 25 = .ok (.iload_n 1, 1) := by decide +kernel
theorem dX6_chance_26 : decode cX6_chance 26 = .ok (.iaload, 1) := by decide +kernel
theorem dX6_chance_27 : decode cX6_chance 27 = .ok (.istore_n 3, 1) := by decide +kernel
theorem dX6_chance_28 : decode cX6_chance 28 = .ok (.aload_n 0, 1) := by decide +kernel
theorem dX6_chance_29 : decode cX6_chance 29 = .ok (.getfield 45, 3) := by decide +kernel
theorem dX6_chance_32 : decode cX6_chance 32 = .ok (.iload_n 1, 1) := by decide +kernel
theorem dX6_chance_33 : decode cX6_chance 33 = .ok (.iload_n 2, 1) := by decide +kernel
theorem dX6_chance_34 : decode cX6_chance 34 = .ok (.iastore, 1) := by decide +kernel
theorem dX6_chance_35 : decode cX6_chance 35 = .ok (.iload_n 3, 1) := by decide +kernel
theorem dX6_chance_36 : decode cX6_chance 36 = .ok (.ireturn, 1) := by decide +kernel
set_option maxRecDepth 20000 in
theorem ggX6_fitting_X6_outside : GoodIn wsX6_fitting wsX6_outside := goodIn_r _ [4] (by decide +kernel) (by decide +kernel)
set_option maxRecDepth 20000 in
theorem gX6_fitting_X6_outside : GoodIn wsX6_fitting (va_wsS RX6 85 yX6_outside wsX6_outside) := goodIn_app (goodIn_of _ (by decide +kernel)) ggX6_fitting_X6_outside
set_option maxRecDepth 20000 in
theorem ggX6_fitting_X6_fits : GoodIn wsX6_fitting wsX6_fits := goodIn_r _ [8, 9, 10, 11, 3, 12, 13, 14, 15, 16, 17, 18, 19, 20, 21, 22, 23, 24, 25, 26, 27, 28, 29, 30, 31, 32, 33, 34, 35, 36, 37, 38, 39, 40, 41, 42, 43, 44, 45, 46, 47, 48, 49, 50, 51, 52, 53, 54, 55, 56, 57, 58, 59, 60, 61, 62, 63, 64, 65, 66, 67, 68, 69, 70, 71, 72, 73, 74, 75, 76, 77, 78, 79, 80, 81, 82, 83, 84, 85, 86, 87, 88, 89, 90, 91, 92, 93, 94, 95, 96, 97, 98, 99, 100, 101, 102, 103, 104, 105, 106, 107, 108, 109, 110, 111, 112, 113, 114, 115, 116, 117, 118, 119, 120, 121, 122, 123, 124, 125, 126, 127, 128, 129, 130, 131, 132, 133, 134, 135, 136, 137, 138, 139, 140, 141, 142, 143, 144, 145, 146, 147, 148, 149, 150, 151, 152, 153, 154] (by decide +kernel) (by decide +kernel)
set_option maxRecDepth 20000 in
theorem gX6_fitting_X6_fits : GoodIn wsX6_fitting (wsV RX6 165 RX6 yX6_fits wsX6_fits) := goodIn_app (goodIn_of _ (by decide +kernel)) ggX6_fitting_X6_fits
theorem dX6_fitting_0 : decode cX6_fitting 0 = .ok (.iload_n 1, 1) := by decide +kernel
theorem dX6_fitting_1 : decode cX6_fitting 1 = .ok (.iconst 0, 1) := by decide +kernel
theorem dX6_fitting_2 : decode cX6_fitting 2 = .ok (.iconst 5, 1) := by decide +kernel
theorem dX6_fitting_3 : decode cX6_fitting 3 = .ok (.invokestatic 85, 3) := by decide +kernel
theorem dX6_fitting_6 : decode cX6_fitting 6 = .ok (.ifCond .eq 5, 3) := by decide +kernel
theorem dX6_fitting_9 : decode cX6_fitting 9 = .ok (.iconst (-1), 1) := by decide +kernel
theorem dX6_fitting_10 : decode cX6_fitting 10 = .ok (.ireturn, 1) := by decide +kernel
theorem dX6_fitting_11 : decode cX6_fitting 11 = .ok (.aload_n 0, 1) := by decide +kernel
theorem dX6_fitting_12 : decode cX6_fitting 12 = .ok (.iload_n 1, 1) := by decide +kernel
theorem dX6_fitting_13 : decode cX6_fitting 13 = .ok (.invokevirtual 165, 3) := by decide +kernel
theorem dX6_fitting_16 : decode cX6_fitting 16 = .ok (.ireturn, 1) := by decide +kernel
set_option maxRecDepth 20000 in
theorem ggX6_odds_X6_outside : GoodIn wsX6_odds wsX6_outside := goodIn_r _ [5] (by decide +kernel) (by decide +kernel)
set_option maxRecDepth 20000 in
theorem gX6_odds_X6_outside : GoodIn wsX6_odds (va_wsS RX6 85 yX6_outside wsX6_outside) := goodIn_app (goodIn_of _ (by decide +kernel)) ggX6_odds_X6_outside
set_option maxRecDepth 20000 in
theorem ggX6_odds_X6_fits : GoodIn wsX6_odds wsX6_fits := goodIn_r _ [9, 10, 11, 12, 4, 13, 14, 15, 16, 17, 18, 19, 20, 21, 22, 23, 24, 25, 26, 27, 28, 29, 30, 31, 32, 33, 34, 35, 36, 37, 38, 39, 40, 41, 42, 43, 44, 45, 46, 47, 48, 49, 50, 51, 52, 53, 54, 55, 56, 57, 58, 59, 60, 61, 62, 63, 64, 65, 66, 67, 68, 69, 70, 71, 72, 73, 74, 75, 76, 77, 78, 79, 80, 81, 82, 83, 84, 85, 86, 87, 88, 89, 90, 91, 92, 93, 94, 95, 96, 97, 98, 99, 100, 101, 102, 103, 104, 105, 106, 107, 108, 109, 110, 111, 112, 113, 114, 115, 116, 117, 127, 128, 129, 130, 131, 132, 133, 134, 135, 136, 137, 138, 139, 140, 141, 142, 143, 144, 145, 146, 147, 148, 149, 150, 151, 152, 153, 154, 155, 156, 157, 158, 159, 160, 161, 162, 163, 164] (by decide +kernel) (by decide +kernel)
set_option maxRecDepth 20000 in
theorem gX6_odds_X6_fits : GoodIn wsX6_odds (wsV RX6 165 RX6 yX6_fits wsX6_fits) := goodIn_app (goodIn_of _ (by decide +kernel)) ggX6_odds_X6_fits
set_option maxRecDepth 20000 in
theorem ggX6_odds_X6_leastTerms : GoodIn wsX6_odds wsX6_leastTerms := goodIn_r _ [120, 121, 122, 46, 123, 124, 125, 4, 126] (by decide +kernel) (by decide +kernel)
set_option maxRecDepth 20000 in
theorem gX6_odds_X6_leastTerms : GoodIn wsX6_odds (va_wsS RX6 168 yX6_leastTerms wsX6_leastTerms) := goodIn_app (goodIn_of _ (by decide +kernel)) ggX6_odds_X6_leastTerms
theorem dX6_odds_0 : decode cX6_odds 0 = .ok (.iload_n 1, 1) := by decide +kernel
theorem dX6_odds_1 : decode cX6_odds 1 = .ok (.iconst 0, 1) := by decide +kernel
theorem dX6_odds_2 : decode cX6_odds 2 = .ok (.iconst 5, 1) := by decide +kernel
theorem dX6_odds_3 : decode cX6_odds 3 = .ok (.invokestatic 85, 3) := by decide +kernel
theorem dX6_odds_6 : decode cX6_odds 6 = .ok (.ifCond .ne 12, 3) := by decide +kernel
theorem dX6_odds_9 : decode cX6_odds 9 = .ok (.iload_n 2, 1) := by decide +kernel
theorem dX6_odds_10 : decode cX6_odds 10 = .ok (.iconst 0, 1) := by decide +kernel
theorem dX6_odds_11 : decode cX6_odds 11 = .ok (.iconst 1, 1) := by decide +kernel
theorem dX6_odds_12 : decode cX6_odds 12 = .ok (.invokestatic 85, 3) := by decide +kernel
theorem dX6_odds_15 : decode cX6_odds 15 = .ok (.ifCond .eq 5, 3) := by decide +kernel
theorem dX6_odds_18 : decode cX6_odds 18 = .ok (.iconst (-1), 1) := by decide +kernel
theorem dX6_odds_19 : decode cX6_odds 19 = .ok (.ireturn, 1) := by decide +kernel
theorem dX6_odds_20 : decode cX6_odds 20 = .ok (.iconst 0, 1) := by decide +kernel
theorem dX6_odds_21 : decode cX6_odds 21 = .ok (.istore_n 3, 1) := by decide +kernel
theorem dX6_odds_22 : decode cX6_odds 22 = .ok (.iconst 0, 1) := by decide +kernel
theorem dX6_odds_23 : decode cX6_odds 23 = .ok (.istore 4, 2) := by decide +kernel
theorem dX6_odds_25 : decode cX6_odds 25 = .ok (.iload 4, 2) := by decide +kernel
theorem dX6_odds_27 : decode cX6_odds 27 = .ok (.bipush 6, 2) := by decide +kernel
theorem dX6_odds_29 : decode cX6_odds 29 = .ok (.if_icmp .ge 26, 3) := by decide +kernel
theorem dX6_odds_32 : decode cX6_odds 32 = .ok (.iload_n 3, 1) := by decide +kernel
theorem dX6_odds_33 : decode cX6_odds 33 = .ok (.aload_n 0, 1) := by decide +kernel
theorem dX6_odds_34 : decode cX6_odds 34 = .ok (.getfield 45, 3) := by decide +kernel
theorem dX6_odds_37 : decode cX6_odds 37 = .ok (.iload 4, 2) := by decide +kernel
theorem dX6_odds_39 : decode cX6_odds 39 = .ok (.iaload, 1) := by decide +kernel
theorem dX6_odds_40 : decode cX6_odds 40 = .ok (.aload_n 0, 1) := by decide +kernel
theorem dX6_odds_41 : decode cX6_odds 41 = .ok (.iload 4, 2) := by decide +kernel
theorem dX6_odds_43 : decode cX6_odds 43 = .ok (.invokevirtual 165, 3) := by decide +kernel
theorem dX6_odds_46 : decode cX6_odds 46 = .ok (.imul, 1) := by decide +kernel
theorem dX6_odds_47 : decode cX6_odds 47 = .ok (.iadd, 1) := by decide +kernel
theorem dX6_odds_48 : decode cX6_odds 48 = .ok (.istore_n 3, 1) := by decide +kernel
theorem dX6_odds_49 : decode cX6_odds 49 = .ok (.iinc 4 1, 3) := by decide +kernel
theorem dX6_odds_52 : decode cX6_odds 52 = .ok (.goto (-27), 3) := by decide +kernel
theorem dX6_odds_55 : decode cX6_odds 55 = .ok (.iload_n 3, 1) := by decide +kernel
theorem dX6_odds_56 : decode cX6_odds 56 = .ok (.ifCond .ne 6, 3) := by decide +kernel
theorem dX6_odds_59 : decode cX6_odds 59 = .ok (.bipush (-2), 2) := by decide +kernel
theorem dX6_odds_61 : decode cX6_odds 61 = .ok (.ireturn, 1) := by decide +kernel
theorem dX6_odds_62 : decode cX6_odds 62 = .ok (.aload_n 0, 1) := by decide +kernel
theorem dX6_odds_63 : decode cX6_odds 63 = .ok (.getfield 45, 3) := by decide +kernel
theorem dX6_odds_66 : decode cX6_odds 66 = .ok (.iload_n 1, 1) := by decide +kernel
theorem dX6_odds_67 : decode cX6_odds 67 = .ok (.iaload, 1) := by decide +kernel
theorem dX6_odds_68 : decode cX6_odds 68 = .ok (.aload_n 0, 1) := by decide +kernel
theorem dX6_odds_69 : decode cX6_odds 69 = .ok (.iload_n 1, 1) := by decide +kernel
theorem dX6_odds_70 : decode cX6_odds 70 = .ok (.invokevirtual 165, 3) := by decide +kernel
theorem dX6_odds_73 : decode cX6_odds 73 = .ok (.imul, 1) := by decide +kernel
theorem dX6_odds_74 : decode cX6_odds 74 = .ok (.i2l, 1) := by decide +kernel
theorem dX6_odds_75 : decode cX6_odds 75 = .ok (.iload_n 3, 1) := by decide +kernel
theorem dX6_odds_76 : decode cX6_odds 76 = .ok (.i2l, 1) := by decide +kernel
theorem dX6_odds_77 : decode cX6_odds 77 = .ok (.iload_n 2, 1) := by decide +kernel
theorem dX6_odds_78 : decode cX6_odds 78 = .ok (.ifCond .ne 7, 3) := by decide +kernel
theorem dX6_odds_81 : decode cX6_odds 81 = .ok (.iconst 1, 1) := by decide +kernel
theorem dX6_odds_82 : decode cX6_odds 82 = .ok (.goto 4, 3) := by decide +kernel
theorem dX6_odds_85 : decode cX6_odds 85 = .ok (.iconst 0, 1) := by decide +kernel
theorem dX6_odds_86 : decode cX6_odds 86 = .ok (.invokestatic 168, 3) := by decide +kernel
theorem dX6_odds_89 : decode cX6_odds 89 = .ok (.l2i, 1) := by decide +kernel
theorem dX6_odds_90 : decode cX6_odds 90 = .ok (.ireturn, 1) := by decide +kernel
set_option maxRecDepth 20000 in
theorem ggX6_tells_X6_worthOf : GoodIn wsX6_tells wsX6_worthOf := goodIn_r _ [5, 6, 7, 8, 9, 4, 10, 11, 12, 13, 14, 15, 16, 17, 18, 19, 20, 21, 22, 23, 24, 25, 26, 27, 28, 29, 30, 31, 32, 33, 34, 35, 36, 37, 38, 39, 40, 41, 42, 43, 44, 45, 46, 47, 48, 49, 50, 51, 52, 53, 54, 55, 56, 57, 58, 59, 60, 61, 62, 63, 64, 65, 66, 67, 68, 69, 70, 71, 72, 73, 74, 75, 76, 77, 78, 79, 80, 81, 82, 83, 84, 85, 86, 87, 88, 89, 90, 91, 92, 93, 94, 95, 96, 97, 98, 99, 100, 101, 102, 103, 104, 105, 106, 107, 108, 109, 110, 111, 112, 113, 114, 115, 116, 117, 118, 119, 120, 121, 122, 123, 124, 125, 126, 127, 128, 129, 130, 131, 132, 133, 134, 135, 136, 137, 138, 139, 140, 141, 142, 143, 144, 145, 146, 147, 148, 149] (by decide +kernel) (by decide +kernel)
set_option maxRecDepth 20000 in
theorem gX6_tells_X6_worthOf : GoodIn wsX6_tells (wsV RX6 172 RX6 yX6_worthOf wsX6_worthOf) := goodIn_app (goodIn_of _ (by decide +kernel)) ggX6_tells_X6_worthOf
theorem dX6_tells_0 : decode cX6_tells 0 = .ok (.iconst 0, 1) := by decide +kernel
theorem dX6_tells_1 : decode cX6_tells 1 = .ok (.istore_n 1, 1) := by decide +kernel
theorem dX6_tells_2 : decode cX6_tells 2 = .ok (.iconst (-1), 1) := by decide +kernel
theorem dX6_tells_3 : decode cX6_tells 3 = .ok (.istore_n 2, 1) := by decide +kernel
theorem dX6_tells_4 : decode cX6_tells 4 = .ok (.iconst 0, 1) := by decide +kernel
theorem dX6_tells_5 : decode cX6_tells 5 = .ok (.istore_n 3, 1) := by decide +kernel
theorem dX6_tells_6 : decode cX6_tells 6 = .ok (.iload_n 3, 1) := by decide +kernel
theorem dX6_tells_7 : decode cX6_tells 7 = .ok (.iconst 2, 1) := by decide +kernel
theorem dX6_tells_8 : decode cX6_tells 8 = .ok (.if_icmp .gt 27, 3) := by decide +kernel
theorem dX6_tells_11 : decode cX6_tells 11 = .ok (.aload_n 0, 1) := by decide +kernel
theorem dX6_tells_12 : decode cX6_tells 12 = .ok (.iload_n 3, 1) := by decide +kernel
theorem dX6_tells_13 : decode cX6_tells 13 = .ok (.invokevirtual 172, 3) := by decide +kernel
theorem dX6_tells_16 : decode cX6_tells 16 = .ok (.istore 4, 2) := by decide +kernel
theorem dX6_tells_18 : decode cX6_tells 18 = .ok (.iload 4, 2) := by decide +kernel
theorem dX6_tells_20 : decode cX6_tells 20 = .ok (.iload_n 2, 1) := by decide +kernel
theorem dX6_tells_21 : decode cX6_tells 21 = .ok (.if_icmp .le 8, 3) := by decide +kernel
theorem dX6_tells_24 : decode cX6_tells 24 = .ok (.iload 4, 2) := by decide +kernel
theorem dX6_tells_26 : decode cX6_tells 26 = .ok (.istore_n 2, 1) := by decide +kernel
theorem dX6_tells_27 : decode cX6_tells 27 = .ok (.iload_n 3, 1) := by decide +kernel
theorem dX6_tells_28 : decode cX6_tells 28 = .ok (.istore_n 1, 1) := by decide +kernel
theorem dX6_tells_29 : decode cX6_tells 29 = .ok (.iinc 3 1, 3) := by decide +kernel
theorem dX6_tells_32 : decode cX6_tells 32 = .ok (.goto (-26), 3) := by decide +kernel
theorem dX6_tells_35 : decode cX6_tells 35 = .ok (.iload_n 1, 1) := by decide +kernel
theorem dX6_tells_36 : decode cX6_tells 36 = .ok (.ireturn, 1) := by decide +kernel
set_option maxRecDepth 20000 in
theorem ggX6_where_X6_outside : GoodIn wsX6_where wsX6_outside := goodIn_r _ [7] (by decide +kernel) (by decide +kernel)
set_option maxRecDepth 20000 in
theorem gX6_where_X6_outside : GoodIn wsX6_where (va_wsS RX6 85 yX6_outside wsX6_outside) := goodIn_app (goodIn_of _ (by decide +kernel)) ggX6_where_X6_outside
set_option maxRecDepth 20000 in
theorem ggX6_where_X4_beLike : GoodIn wsX6_where wsX4_beLike := goodIn_r _ [12, 13, 14, 15, 11, 16, 17, 18, 19, 20, 21, 22, 23, 24, 25, 26, 27, 28, 29, 30, 31, 112, 113, 114, 115, 116, 117, 118, 119, 120, 121, 122] (by decide +kernel) (by decide +kernel)
set_option maxRecDepth 20000 in
theorem gX6_where_X4_beLike : GoodIn wsX6_where (wsV RX6 101 RX4 yX4_beLike wsX4_beLike) := goodIn_app (goodIn_of _ (by decide +kernel)) ggX6_where_X4_beLike
set_option maxRecDepth 20000 in
theorem ggX6_where_X6_answer : GoodIn wsX6_where wsX6_answer := goodIn_r _ [35, 36, 1, 37, 38, 39, 40, 41, 42, 43, 44, 45, 46, 47, 48, 49, 50, 51, 52, 53, 54, 55, 56, 11, 57, 21, 19, 58, 59, 60, 61, 62, 63, 64, 65, 17, 18, 66, 67, 68, 69, 70, 71, 72, 73, 23, 24, 74, 75, 76, 77, 26, 27, 78, 79, 80, 81, 82, 83, 84, 85, 86, 87, 88, 89, 90, 91, 92, 93, 94, 95, 96, 97, 98, 99, 100, 101, 102, 103, 104, 105, 106, 107, 108, 109, 110, 111, 123, 124, 125, 126, 127, 128, 129, 112, 113, 114, 115, 116, 117, 118, 119, 120, 121, 122] (by decide +kernel) (by decide +kernel)
set_option maxRecDepth 20000 in
theorem gX6_where_X6_answer : GoodIn wsX6_where (wsV RX6 178 RX6 yX6_answer wsX6_answer) := goodIn_app (goodIn_of _ (by decide +kernel)) ggX6_where_X6_answer
theorem dX6_where_0 : decode cX6_where 0 = .ok (.iload_n 1, 1) := by decide +kernel
theorem dX6_where_1 : decode cX6_where 1 = .ok (.iconst 0, 1) := by decide +kernel
theorem dX6_where_2 : decode cX6_where 2 = .ok (.sipush 200, 3) := by decide +kernel
theorem dX6_where_5 : decode cX6_where 5 = .ok (.invokestatic 85, 3) := by decide +kernel
theorem dX6_where_8 : decode cX6_where 8 = .ok (.ifCond .ne 12, 3) := by decide +kernel
theorem dX6_where_11 : decode cX6_where 11 = .ok (.iload_n 2, 1) := by decide +kernel
theorem dX6_where_12 : decode cX6_where 12 = .ok (.iconst 0, 1) := by decide +kernel
theorem dX6_where_13 : decode cX6_where 13 = .ok (.iconst 1, 1) := by decide +kernel
theorem dX6_where_14 : decode cX6_where 14 = .ok (.invokestatic 85, 3) := by decide +kernel
theorem dX6_where_17 : decode cX6_where 17 = .ok (.ifCond .eq 5, 3) := by decide +kernel
theorem dX6_where_20 : decode cX6_where 20 = .ok (.iconst (-1), 1) := by decide +kernel
theorem dX6_where_21 : decode cX6_where 21 = .ok (.ireturn, 1) := by decide +kernel
theorem dX6_where_22 : decode cX6_where 22 = .ok (.bipush (-9), 2) := by decide +kernel
theorem dX6_where_24 : decode cX6_where 24 = .ok (.istore_n 3, 1) := by decide +kernel
theorem dX6_where_25 : decode cX6_where 25 = .ok (.aload_n 0, 1) := by decide +kernel
theorem dX6_where_26 : decode cX6_where 26 = .ok (.getfield 66, 3) := by decide +kernel
theorem dX6_where_29 : decode cX6_where 29 = .ok (.aload_n 0, 1) := by decide +kernel
theorem dX6_where_30 : decode cX6_where 30 = .ok (.getfield 19, 3) := by decide +kernel
theorem dX6_where_33 : decode cX6_where 33 = .ok (.invokevirtual 101, 3) := by decide +kernel
theorem dX6_where_36 : decode cX6_where 36 = .ok (.iconst 1, 1) := by decide +kernel
theorem dX6_where_37 : decode cX6_where 37 = .ok (.istore 4, 2) := by decide +kernel
theorem dX6_where_39 : decode cX6_where 39 = .ok (.iload 4, 2) := by decide +kernel
theorem dX6_where_41 : decode cX6_where 41 = .ok (.bipush 99, 2) := by decide +kernel
theorem dX6_where_43 : decode cX6_where 43 = .ok (.if_icmp .gt 37, 3) := by decide +kernel
theorem dX6_where_46 : decode cX6_where 46 = .ok (.aload_n 0, 1) := by decide +kernel
theorem dX6_where_47 : decode cX6_where 47 = .ok (.getfield 66, 3) := by decide +kernel
theorem dX6_where_50 : decode cX6_where 50 = .ok (.iload 4, 2) := by decide +kernel
theorem dX6_where_52 : decode cX6_where 52 = .ok (.putfield 175, 3) := by decide +kernel
theorem dX6_where_55 : decode cX6_where 55 = .ok (.aload_n 0, 1) := by decide +kernel
theorem dX6_where_56 : decode cX6_where 56 = .ok (.iconst 0, 1) := by decide +kernel
theorem dX6_where_57 : decode cX6_where 57 = .ok (.iconst 0, 1) := by decide +kernel
theorem dX6_where_58 : decode cX6_where 58 = .ok (.invokevirtual 178, 3) := by decide +kernel
theorem dX6_where_61 : decode cX6_where 61 = .ok (.iload_n 1, 1) := by decide +kernel
theorem dX6_where_62 : decode cX6_where 62 = .ok (.if_icmp .ne 12, 3) := by decide +kernel
theorem dX6_where_65 : decode cX6_where 65 = .ok (.iload 4, 2) := by decide +kernel
theorem dX6_where_67 : decode cX6_where 67 = .ok (.istore_n 3, 1) := by decide +kernel
theorem dX6_where_68 : decode cX6_where 68 = .ok (.iload_n 2, 1) := by decide +kernel
theorem dX6_where_69 : decode cX6_where 69 = .ok (.ifCond .ne 5, 3) := by decide +kernel
theorem dX6_where_72 : decode cX6_where 72 = .ok (.iload_n 3, 1) := by decide +kernel
theorem dX6_where_73 : decode cX6_where 73 = .ok (.ireturn, 1) := by decide +kernel
theorem dX6_where_74 : decode cX6_where 74 = .ok (.iinc 4 1, 3) := by decide +kernel
theorem dX6_where_77 : decode cX6_where 77 = .ok (.goto (-38), 3) := by decide +kernel
theorem dX6_where_80 : decode cX6_where 80 = .ok (.iload_n 3, 1) := by decide +kernel
theorem dX6_where_81 : decode cX6_where 81 = .ok (.ireturn, 1) := by decide +kernel
set_option maxRecDepth 20000 in
theorem ggX6_day_X6_outside : GoodIn wsX6_day wsX6_outside := goodIn_r _ [4] (by decide +kernel) (by decide +kernel)
set_option maxRecDepth 20000 in
theorem gX6_day_X6_outside : GoodIn wsX6_day (va_wsS RX6 85 yX6_outside wsX6_outside) := goodIn_app (goodIn_of _ (by decide +kernel)) ggX6_day_X6_outside
set_option maxRecDepth 20000 in
theorem ggX6_day_X6_dayCups : GoodIn wsX6_day wsX6_dayCups := goodIn_r _ [8, 9, 10, 11, 12, 13, 14, 15, 16, 17, 18, 19, 20, 21, 22, 23, 24, 25, 26, 27, 28, 29, 30, 31, 32, 33, 34, 35, 36, 37, 38, 39, 40, 41, 42, 43, 44, 45, 46, 47, 48, 49, 50, 51, 52, 53, 54, 55, 56, 57, 58, 59, 60, 61, 62, 63, 64, 65, 66, 67, 68, 69, 70, 71, 72, 73, 74, 75, 76, 77, 78, 79, 80, 81, 82, 83, 84, 85, 86, 87, 88, 89, 90, 91, 92, 93, 94, 95, 96, 97, 98, 99, 100, 101, 102, 103, 104, 105, 106, 107, 108, 109] (by decide +kernel) (by decide +kernel)
set_option maxRecDepth 20000 in
theorem gX6_day_X6_dayCups : GoodIn wsX6_day (wsV RX6 181 RX6 yX6_dayCups wsX6_dayCups) := goodIn_app (goodIn_of _ (by decide +kernel)) ggX6_day_X6_dayCups
theorem dX6_day_0 : decode cX6_day 0 = .ok (.iload_n 1, 1) := by decide +kernel
theorem dX6_day_1 : decode cX6_day 1 = .ok (.iconst 1, 1) := by decide +kernel
theorem dX6_day_2 : decode cX6_day 2 = .ok (.sipush 200, 3) := by decide +kernel
theorem dX6_day_5 : decode cX6_day 5 = .ok (.invokestatic 85, 3) := by decide +kernel
theorem dX6_day_8 : decode cX6_day 8 = .ok (.ifCond .ne 13, 3) := by decide +kernel
theorem dX6_day_11 : decode cX6_day 11 = .ok (.iload_n 2, 1) := by decide +kernel
theorem dX6_day_12 : decode cX6_day 12 = .ok (.iconst 1, 1) := by decide +kernel
theorem dX6_day_13 : decode cX6_day 13 = .ok (.bipush 24, 2) := by decide +kernel
theorem dX6_day_15 : decode cX6_day 15 = .ok (.invokestatic 85, 3) := by decide +kernel
theorem dX6_day_18 : decode cX6_day 18 = .ok (.ifCond .eq 5, 3) := by decide +kernel
theorem dX6_day_21 : decode cX6_day 21 = .ok (.iconst (-1), 1) := by decide +kernel
theorem dX6_day_22 : decode cX6_day 22 = .ok (.ireturn, 1) := by decide +kernel
theorem dX6_day_23 : decode cX6_day 23 = .ok (.aload_n 0, 1) := by decide +kernel
theorem dX6_day_24 : decode cX6_day 24 = .ok (.iload_n 1, 1) := by decide +kernel
theorem dX6_day_25 : decode cX6_day 25 = .ok (.iload_n 2, 1) := by decide +kernel
theorem dX6_day_26 : decode cX6_day 26 = .ok (.invokevirtual 181, 3) := by decide +kernel
theorem dX6_day_29 : decode cX6_day 29 = .ok (.ireturn, 1) := by decide +kernel
set_option maxRecDepth 20000 in
theorem ggX6_pace_X6_outside : GoodIn wsX6_pace wsX6_outside := goodIn_r _ [4] (by decide +kernel) (by decide +kernel)
set_option maxRecDepth 20000 in
theorem gX6_pace_X6_outside : GoodIn wsX6_pace (va_wsS RX6 85 yX6_outside wsX6_outside) := goodIn_app (goodIn_of _ (by decide +kernel)) ggX6_pace_X6_outside
set_option maxRecDepth 20000 in
theorem ggX6_pace_X6_dayCups : GoodIn wsX6_pace wsX6_dayCups := goodIn_r _ [8, 9, 10, 11, 12, 13, 14, 15, 16, 17, 18, 19, 20, 21, 22, 23, 24, 25, 26, 27, 28, 29, 30, 31, 32, 33, 34, 35, 36, 37, 38, 39, 40, 41, 42, 43, 44, 45, 46, 47, 48, 49, 50, 51, 52, 53, 54, 55, 56, 57, 58, 59, 60, 61, 62, 63, 64, 65, 66, 67, 68, 69, 70, 71, 72, 73, 74, 75, 76, 77, 78, 79, 80, 81, 82, 83, 84, 85, 86, 87, 88, 89, 90, 91, 92, 93, 94, 95, 96, 97, 98, 99, 100, 101, 102, 103, 104, 105, 106, 107, 108, 109] (by decide +kernel) (by decide +kernel)
set_option maxRecDepth 20000 in
theorem gX6_pace_X6_dayCups : GoodIn wsX6_pace (wsV RX6 181 RX6 yX6_dayCups wsX6_dayCups) := goodIn_app (goodIn_of _ (by decide +kernel)) ggX6_pace_X6_dayCups
theorem dX6_pace_0 : decode cX6_pace 0 = .ok (.iload_n 1, 1) := by decide +kernel
theorem dX6_pace_1 : decode cX6_pace 1 = .ok (.iconst 1, 1) := by decide +kernel
theorem dX6_pace_2 : decode cX6_pace 2 = .ok (.bipush 24, 2) := by decide +kernel
theorem dX6_pace_4 : decode cX6_pace 4 = .ok (.invokestatic 85, 3) := by decide +kernel
theorem dX6_pace_7 : decode cX6_pace 7 = .ok (.ifCond .eq 5, 3) := by decide +kernel
theorem dX6_pace_10 : decode cX6_pace 10 = .ok (.iconst (-1), 1) := by decide +kernel
theorem dX6_pace_11 : decode cX6_pace 11 = .ok (.ireturn, 1) := by decide +kernel
theorem dX6_pace_12 : decode cX6_pace 12 = .ok (.iconst 1, 1) := by decide +kernel
theorem dX6_pace_13 : decode cX6_pace 13 = .ok (.istore_n 2, 1) := by decide +kernel
theorem dX6_pace_14 : decode cX6_pace 14 = .ok (.iconst (-1), 1) := by decide +kernel
theorem dX6_pace_15 : decode cX6_pace 15 = .ok (.istore_n 3, 1) := by decide +kernel
theorem dX6_pace_16 : decode cX6_pace 16 = .ok (.iconst 1, 1) := by decide +kernel
theorem dX6_pace_17 : decode cX6_pace 17 = .ok (.istore 4, 2) := by decide +kernel
theorem dX6_pace_19 : decode cX6_pace 19 = .ok (.iload 4, 2) := by decide +kernel
theorem dX6_pace_21 : decode cX6_pace 21 = .ok (.sipush 200, 3) := by decide +kernel
theorem dX6_pace_24 : decode cX6_pace 24 = .ok (.if_icmp .gt 30, 3) := by decide +kernel
theorem dX6_pace_27 : decode cX6_pace 27 = .ok (.aload_n 0, 1) := by decide +kernel
theorem dX6_pace_28 : decode cX6_pace 28 = .ok (.iload 4, 2) := by decide +kernel
theorem dX6_pace_30 : decode cX6_pace 30 = .ok (.iload_n 1, 1) := by decide +kernel
theorem dX6_pace_31 : decode cX6_pace 31 = .ok (.invokevirtual 181, 3) := by decide +kernel
theorem dX6_pace_34 : decode cX6_pace 34 = .ok (.istore 5, 2) := by decide +kernel
theorem dX6_pace_36 : decode cX6_pace 36 = .ok (.iload 5, 2) := by decide +kernel
theorem dX6_pace_38 : decode cX6_pace 38 = .ok (.iload_n 3, 1) := by decide +kernel
theorem dX6_pace_39 : decode cX6_pace 39 = .ok (.if_icmp .le 9, 3) := by decide +kernel
theorem dX6_pace_42 : decode cX6_pace 42 = .ok (.iload 5, 2) := by decide +kernel
theorem dX6_pace_44 : decode cX6_pace 44 = .ok (.istore_n 3, 1) := by decide +kernel
theorem dX6_pace_45 : decode cX6_pace 45 = .ok (.iload 4, 2) := by decide +kernel
theorem dX6_pace_47 : decode cX6_pace 47 = .ok (.istore_n 2, 1) := by decide +kernel
theorem dX6_pace_48 : decode cX6_pace 48 = .ok (.iinc 4 1, 3) := by decide +kernel
theorem dX6_pace_51 : decode cX6_pace 51 = .ok (.goto (-32), 3) := by decide +kernel
theorem dX6_pace_54 : decode cX6_pace 54 = .ok (.iload_n 2, 1) := by decide +kernel
theorem dX6_pace_55 : decode cX6_pace 55 = .ok (.ireturn, 1) := by decide +kernel
set_option maxRecDepth 20000 in
theorem ggX6_two_X6_outside : GoodIn wsX6_two wsX6_outside := goodIn_r _ [6] (by decide +kernel) (by decide +kernel)
set_option maxRecDepth 20000 in
theorem gX6_two_X6_outside : GoodIn wsX6_two (va_wsS RX6 85 yX6_outside wsX6_outside) := goodIn_app (goodIn_of _ (by decide +kernel)) ggX6_two_X6_outside
set_option maxRecDepth 20000 in
theorem ggX6_two_X6_firstOfTwo : GoodIn wsX6_two wsX6_firstOfTwo := goodIn_r _ [10, 1, 11, 12, 13, 14, 15, 16, 17, 18, 19, 20, 21, 22, 23, 24, 25, 26, 27, 28, 29, 30, 31, 32, 33, 34, 35, 36, 37, 38, 39, 40, 41, 42, 43, 44, 45, 46, 47, 48, 49, 50, 51, 52, 53, 54, 55, 56, 57, 58, 59, 60, 61, 62, 63, 64, 65, 66, 67, 68, 69, 70, 71, 72, 73, 74, 75, 76, 77, 78, 79, 80, 81, 82, 83, 84, 85, 86, 87, 88, 89, 90, 91, 92, 93, 94, 95, 96, 97, 98, 99, 100, 101, 102, 103, 104, 105, 106, 107, 108, 109] (by decide +kernel) (by decide +kernel)
set_option maxRecDepth 20000 in
theorem gX6_two_X6_firstOfTwo : GoodIn wsX6_two (wsV RX6 184 RX6 yX6_firstOfTwo wsX6_firstOfTwo) := goodIn_app (goodIn_of _ (by decide +kernel)) ggX6_two_X6_firstOfTwo
theorem dX6_two_0 : decode cX6_two 0 = .ok (.iload_n 1, 1) := by decide +kernel
theorem dX6_two_1 : decode cX6_two 1 = .ok (.iconst 0, 1) := by decide +kernel
theorem dX6_two_2 : decode cX6_two 2 = .ok (.bipush 9, 2) := by decide +kernel
theorem dX6_two_4 : decode cX6_two 4 = .ok (.invokestatic 85, 3) := by decide +kernel
theorem dX6_two_7 : decode cX6_two 7 = .ok (.ifCond .ne 13, 3) := by decide +kernel
theorem dX6_two_10 : decode cX6_two 10 = .ok (.iload_n 2, 1) := by decide +kernel
theorem dX6_two_11 : decode cX6_two 11 = .ok (.iconst 0, 1) := by decide +kernel
theorem dX6_two_12 : decode cX6_two 12 = .ok (.bipush 9, 2) := by decide +kernel
theorem dX6_two_14 : decode cX6_two 14 = .ok (.invokestatic 85, 3) := by decide +kernel
theorem dX6_two_17 : decode cX6_two 17 = .ok (.ifCond .eq 5, 3) := by decide +kernel
theorem dX6_two_20 : decode cX6_two 20 = .ok (.iconst (-1), 1) := by decide +kernel
theorem dX6_two_21 : decode cX6_two 21 = .ok (.ireturn, 1) := by decide +kernel
theorem dX6_two_22 : decode cX6_two 22 = .ok (.iload_n 3, 1) := by decide +kernel
theorem dX6_two_23 : decode cX6_two 23 = .ok (.iconst 1, 1) := by decide +kernel
theorem dX6_two_24 : decode cX6_two 24 = .ok (.bipush 24, 2) := by decide +kernel
theorem dX6_two_26 : decode cX6_two 26 = .ok (.invokestatic 85, 3) := by decide +kernel
theorem dX6_two_29 : decode cX6_two 29 = .ok (.ifCond .ne 13, 3) := by decide +kernel
theorem dX6_two_32 : decode cX6_two 32 = .ok (.iload 4, 2) := by decide +kernel
theorem dX6_two_34 : decode cX6_two 34 = .ok (.iconst 0, 1) := by decide +kernel
theorem dX6_two_35 : decode cX6_two 35 = .ok (.iconst 1, 1) := by decide +kernel
theorem dX6_two_36 : decode cX6_two 36 = .ok (.invokestatic 85, 3) := by decide +kernel
theorem dX6_two_39 : decode cX6_two 39 = .ok (.ifCond .eq 5, 3) := by decide +kernel
theorem dX6_two_42 : decode cX6_two 42 = .ok (.iconst (-1), 1) := by decide +kernel
theorem dX6_two_43 : decode cX6_two 43 = .ok (.ireturn, 1) := by decide +kernel
theorem dX6_two_44 : decode cX6_two 44 = .ok (.aload_n 0, 1) := by decide +kernel
theorem dX6_two_45 : decode cX6_two 45 = .ok (.iload_n 1, 1) := by decide +kernel
theorem dX6_two_46 : decode cX6_two 46 = .ok (.iload_n 2, 1) := by decide +kernel
theorem dX6_two_47 : decode cX6_two 47 = .ok (.iload_n 3, 1) := by decide +kernel
theorem dX6_two_48 : decode cX6_two 48 = .ok (.invokevirtual 184, 3) := by decide +kernel
theorem dX6_two_51 : decode cX6_two 51 = .ok (.istore 5, 2) := by decide +kernel
theorem dX6_two_53 : decode cX6_two 53 = .ok (.iload 4, 2) := by decide +kernel
theorem dX6_two_55 : decode cX6_two 55 = .ok (.ifCond .ne 8, 3) := by decide +kernel
theorem dX6_two_58 : decode cX6_two 58 = .ok (.iload 5, 2) := by decide +kernel
theorem dX6_two_60 : decode cX6_two 60 = .ok (.goto 13, 3) := by decide +kernel
theorem dX6_two_63 : decode cX6_two 63 = .ok (.aload_n 0, 1) := by decide +kernel
theorem dX6_two_64 : decode cX6_two 64 = .ok (.getfield 69, 3) := by decide +kernel
theorem dX6_two_67 : decode cX6_two 67 = .ok (.getfield 127, 3) := by decide +kernel
theorem dX6_two_70 : decode cX6_two 70 = .ok (.iload 5, 2) := by decide +kernel
theorem dX6_two_72 : decode cX6_two 72 = .ok (.isub, 1) := by decide +kernel
theorem dX6_two_73 : decode cX6_two 73 = .ok (.ireturn, 1) := by decide +kernel
set_option maxRecDepth 20000 in
theorem ggX6_rests_X6_outside : GoodIn wsX6_rests wsX6_outside := goodIn_r _ [4] (by decide +kernel) (by decide +kernel)
set_option maxRecDepth 20000 in
theorem gX6_rests_X6_outside : GoodIn wsX6_rests (va_wsS RX6 85 yX6_outside wsX6_outside) := goodIn_app (goodIn_of _ (by decide +kernel)) ggX6_rests_X6_outside
set_option maxRecDepth 20000 in
theorem ggX6_rests_X6_pumpAllPairs : GoodIn wsX6_rests wsX6_pumpAllPairs := goodIn_r _ [8, 9, 10, 11, 12, 13, 14, 15, 3, 16, 17, 18, 19, 20, 21, 22, 23, 24, 25, 26, 27, 28, 29, 30, 31, 32, 33, 34, 35, 36, 37, 38, 39, 40, 41, 42, 43, 44, 45, 46, 47, 48, 49, 50, 51, 52, 53, 54, 55, 56, 57, 58, 59, 60, 61, 62, 63, 64, 65, 66, 67, 68, 69, 70, 71, 72, 73, 74, 75, 76, 77, 78, 79, 80, 81, 86, 87, 88, 89, 90, 91, 92, 93, 94, 95, 96, 97, 98, 99, 100, 101, 102, 103, 104, 105, 106, 107, 108, 109, 110, 111, 112, 113, 114, 115, 116, 117, 118, 119] (by decide +kernel) (by decide +kernel)
set_option maxRecDepth 20000 in
theorem gX6_rests_X6_pumpAllPairs : GoodIn wsX6_rests (wsV RX6 187 RX6 yX6_pumpAllPairs wsX6_pumpAllPairs) := goodIn_app (goodIn_of _ (by decide +kernel)) ggX6_rests_X6_pumpAllPairs
set_option maxRecDepth 20000 in
theorem ggX6_rests_X6_isRest : GoodIn wsX6_rests wsX6_isRest := goodIn_r _ [85, 9, 10, 86, 87, 88, 89, 90, 91, 92, 93, 94, 95, 96, 97, 98, 99, 100, 101] (by decide +kernel) (by decide +kernel)
set_option maxRecDepth 20000 in
theorem gX6_rests_X6_isRest : GoodIn wsX6_rests (wsV RX6 191 RX6 yX6_isRest wsX6_isRest) := goodIn_app (goodIn_of _ (by decide +kernel)) ggX6_rests_X6_isRest
theorem dX6_rests_0 : decode cX6_rests 0 = .ok (.iload_n 1, 1) := by decide +kernel
theorem dX6_rests_1 : decode cX6_rests 1 = .ok (.iconst 1, 1) := by decide +kernel
theorem dX6_rests_2 : decode cX6_rests 2 = .ok (.bipush 24, 2) := by decide +kernel
theorem dX6_rests_4 : decode cX6_rests 4 = .ok (.invokestatic 85, 3) := by decide +kernel
theorem dX6_rests_7 : decode cX6_rests 7 = .ok (.ifCond .ne 12, 3) := by decide +kernel
theorem dX6_rests_10 : decode cX6_rests 10 = .ok (.iload_n 2, 1) := by decide +kernel
theorem dX6_rests_11 : decode cX6_rests 11 = .ok (.iconst 0, 1) := by decide +kernel
theorem dX6_rests_12 : decode cX6_rests 12 = .ok (.iconst 1, 1) := by decide +kernel
theorem dX6_rests_13 : decode cX6_rests 13 = .ok (.invokestatic 85, 3) := by decide +kernel
theorem dX6_rests_16 : decode cX6_rests 16 = .ok (.ifCond .eq 5, 3) := by decide +kernel
theorem dX6_rests_19 : decode cX6_rests 19 = .ok (.iconst (-1), 1) := by decide +kernel
theorem dX6_rests_20 : decode cX6_rests 20 = .ok (.ireturn, 1) := by decide +kernel
theorem dX6_rests_21 : decode cX6_rests 21 = .ok (.aload_n 0, 1) := by decide +kernel
theorem dX6_rests_22 : decode cX6_rests 22 = .ok (.iload_n 1, 1) := by decide +kernel
theorem dX6_rests_23 : decode cX6_rests 23 = .ok (.invokevirtual 187, 3) := by decide +kernel
theorem dX6_rests_26 : decode cX6_rests 26 = .ok (.iconst 0, 1) := by decide +kernel
theorem dX6_rests_27 : decode cX6_rests 27 = .ok (.istore_n 3, 1) := by decide +kernel
theorem dX6_rests_28 : decode cX6_rests 28 = .ok (.bipush (-9), 2) := by decide +kernel
theorem dX6_rests_30 : decode cX6_rests 30 = .ok (.istore 4, 2) := by decide +kernel
theorem dX6_rests_32 : decode cX6_rests 32 = .ok (.iconst 0, 1) := by decide +kernel
theorem dX6_rests_33 : decode cX6_rests 33 = .ok (.istore 5, 2) := by decide +kernel
theorem dX6_rests_35 : decode cX6_rests 35 = .ok (.iload 5, 2) := by decide +kernel
theorem dX6_rests_37 : decode cX6_rests 37 = .ok (.bipush 100, 2) := by decide +kernel
theorem dX6_rests_39 : decode cX6_rests 39 = .ok (.if_icmp .ge 32, 3) := by decide +kernel
theorem dX6_rests_42 : decode cX6_rests 42 = .ok (.aload_n 0, 1) := by decide +kernel
theorem dX6_rests_43 : decode cX6_rests 43 = .ok (.iload 5, 2) := by decide +kernel
theorem dX6_rests_45 : decode cX6_rests 45 = .ok (.invokevirtual 191, 3) := by decide +kernel
theorem dX6_rests_48 : decode cX6_rests 48 = .ok (.ifCond .ne 6, 3) := by decide +kernel
theorem dX6_rests_51 : decode cX6_rests 51 = .ok (.goto 14, 3) := by decide +kernel
theorem dX6_rests_54 : decode cX6_rests 54 = .ok (.iload_n 3, 1) := by decide +kernel
theorem dX6_rests_55 : decode cX6_rests 55 = .ok (.ifCond .ne 7, 3) := by decide +kernel
theorem dX6_rests_58 : decode cX6_rests 58 = .ok (.iload 5, 2) := by decide +kernel
theorem dX6_rests_60 : decode cX6_rests 60 = .ok (.istore 4, 2) := by decide +kernel
theorem dX6_rests_62 : decode cX6_rests 62 = .ok (.iinc 3 1, 3) := by decide +kernel
theorem dX6_rests_65 : decode cX6_rests 65 = .ok (.iinc 5 1, 3) := by decide +kernel
theorem dX6_rests_68 : decode cX6_rests 68 = .ok (.goto (-33), 3) := by decide +kernel
theorem dX6_rests_71 : decode cX6_rests 71 = .ok (.iload_n 2, 1) := by decide +kernel
theorem dX6_rests_72 : decode cX6_rests 72 = .ok (.ifCond .ne 7, 3) := by decide +kernel
theorem dX6_rests_75 : decode cX6_rests 75 = .ok (.iload_n 3, 1) := by decide +kernel
theorem dX6_rests_76 : decode cX6_rests 76 = .ok (.goto 5, 3) := by decide +kernel
theorem dX6_rests_79 : decode cX6_rests 79 = .ok (.iload 4, 2) := by decide +kernel
theorem dX6_rests_81 : decode cX6_rests 81 = .ok (.ireturn, 1) := by decide +kernel
set_option maxRecDepth 20000 in
theorem ggX6_cost_X6_outside : GoodIn wsX6_cost wsX6_outside := goodIn_r _ [5] (by decide +kernel) (by decide +kernel)
set_option maxRecDepth 20000 in
theorem gX6_cost_X6_outside : GoodIn wsX6_cost (va_wsS RX6 85 yX6_outside wsX6_outside) := goodIn_app (goodIn_of _ (by decide +kernel)) ggX6_cost_X6_outside
theorem dX6_cost_0 : decode cX6_cost 0 = .ok (.iload_n 1, 1) := by decide +kernel
theorem dX6_cost_1 : decode cX6_cost 1 = .ok (.iconst 0, 1) := by decide +kernel
theorem dX6_cost_2 : decode cX6_cost 2 = .ok (.iconst 4, 1) := by decide +kernel
theorem dX6_cost_3 : decode cX6_cost 3 = .ok (.invokestatic 85, 3) := by decide +kernel
theorem dX6_cost_6 : decode cX6_cost 6 = .ok (.ifCond .ne 13, 3) := by decide +kernel
theorem dX6_cost_9 : decode cX6_cost 9 = .ok (.iload_n 2, 1) := by decide +kernel
theorem dX6_cost_10 : decode cX6_cost 10 = .ok (.iconst 0, 1) := by decide +kernel
theorem dX6_cost_11 : decode cX6_cost 11 = .ok (.bipush 99, 2) := by decide +kernel
theorem dX6_cost_13 : decode cX6_cost 13 = .ok (.invokestatic 85, 3) := by decide +kernel
theorem dX6_cost_16 : decode cX6_cost 16 = .ok (.ifCond .eq 5, 3) := by decide +kernel
theorem dX6_cost_19 : decode cX6_cost 19 = .ok (.iconst (-1), 1) := by decide +kernel
theorem dX6_cost_20 : decode cX6_cost 20 = .ok (.ireturn, 1) := by decide +kernel
theorem dX6_cost_21 : decode cX6_cost 21 = .ok (.aload_n 0, 1) := by decide +kernel
theorem dX6_cost_22 : decode cX6_cost 22 = .ok (.getfield 49, 3) := by decide +kernel
theorem dX6_cost_25 : decode cX6_cost 25 = .ok (.iload_n 1, 1) := by decide +kernel
theorem dX6_cost_26 : decode cX6_cost 26 = .ok (.iaload, 1) := by decide +kernel
theorem dX6_cost_27 : decode cX6_cost 27 = .ok (.istore_n 3, 1) := by decide +kernel
theorem dX6_cost_28 : decode cX6_cost 28 = .ok (.aload_n 0, 1) := by decide +kernel
theorem dX6_cost_29 : decode cX6_cost 29 = .ok (.getfield 49, 3) := by decide +kernel
theorem dX6_cost_32 : decode cX6_cost 32 = .ok (.iload_n 1, 1) := by decide +kernel
theorem dX6_cost_33 : decode cX6_cost 33 = .ok (.iload_n 2, 1) := by decide +kernel
theorem dX6_cost_34 : decode cX6_cost 34 = .ok (.iastore, 1) := by decide +kernel
theorem dX6_cost_35 : decode cX6_cost 35 = .ok (.iload_n 3, 1) := by decide +kernel
theorem dX6_cost_36 : decode cX6_cost 36 = .ok (.ireturn, 1) := by decide +kernel
set_option maxRecDepth 20000 in
theorem ggX6_choice_X6_outside : GoodIn wsX6_choice wsX6_outside := goodIn_r _ [4] (by decide +kernel) (by decide +kernel)
set_option maxRecDepth 20000 in
theorem gX6_choice_X6_outside : GoodIn wsX6_choice (va_wsS RX6 85 yX6_outside wsX6_outside) := goodIn_app (goodIn_of _ (by decide +kernel)) ggX6_choice_X6_outside
set_option maxRecDepth 20000 in
theorem ggX6_choice_X6_costOf : GoodIn wsX6_choice wsX6_costOf := goodIn_r _ [8, 9, 99, 100, 101, 102, 103, 104, 105, 106, 107, 108, 109, 110, 111, 112, 113, 114] (by decide +kernel) (by decide +kernel)
set_option maxRecDepth 20000 in
theorem gX6_choice_X6_costOf : GoodIn wsX6_choice (wsV RX6 195 RX6 yX6_costOf wsX6_costOf) := goodIn_app (goodIn_of _ (by decide +kernel)) ggX6_choice_X6_costOf
set_option maxRecDepth 20000 in
theorem ggX6_choice_X6_cupsBehind : GoodIn wsX6_choice wsX6_cupsBehind := goodIn_r _ [13, 14, 15, 16, 17, 18, 19, 20, 21, 22, 23, 24, 25, 26, 27, 28, 29, 30, 31, 32, 33, 34, 35, 36, 37, 38, 39, 40, 41, 42, 43, 44, 45, 46, 47, 48, 49, 50, 51, 52, 53, 54, 55, 56, 57, 58, 59, 60, 61, 62, 63, 64, 65, 66, 67, 68, 69, 70, 71, 72, 73, 74, 75, 76, 77, 78, 79, 80, 81, 82, 83, 84, 85, 86, 87, 88, 89, 90, 91, 92, 93, 94, 95, 96, 97, 98, 99, 100, 101, 102, 103, 104, 105, 106, 107, 108, 109, 110, 111, 112, 113, 114, 115, 116, 117, 118, 119, 120, 121, 122, 123, 124, 125, 126, 127, 128, 129, 130, 131, 132] (by decide +kernel) (by decide +kernel)
set_option maxRecDepth 20000 in
theorem gX6_choice_X6_cupsBehind : GoodIn wsX6_choice (wsV RX6 198 RX6 yX6_cupsBehind wsX6_cupsBehind) := goodIn_app (goodIn_of _ (by decide +kernel)) ggX6_choice_X6_cupsBehind
theorem dX6_choice_0 : decode cX6_choice 0 = .ok (.iload_n 1, 1) := by decide +kernel
theorem dX6_choice_1 : decode cX6_choice 1 = .ok (.iconst 0, 1) := by decide +kernel
theorem dX6_choice_2 : decode cX6_choice 2 = .ok (.sipush 9999, 3) := by decide +kernel
theorem dX6_choice_5 : decode cX6_choice 5 = .ok (.invokestatic 85, 3) := by decide +kernel
theorem dX6_choice_8 : decode cX6_choice 8 = .ok (.ifCond .ne 12, 3) := by decide +kernel
theorem dX6_choice_11 : decode cX6_choice 11 = .ok (.iload_n 2, 1) := by decide +kernel
theorem dX6_choice_12 : decode cX6_choice 12 = .ok (.iconst 0, 1) := by decide +kernel
theorem dX6_choice_13 : decode cX6_choice 13 = .ok (.iconst 1, 1) := by decide +kernel
theorem dX6_choice_14 : decode cX6_choice 14 = .ok (.invokestatic 85, 3) := by decide +kernel
theorem dX6_choice_17 : decode cX6_choice 17 = .ok (.ifCond .eq 5, 3) := by decide +kernel
theorem dX6_choice_20 : decode cX6_choice 20 = .ok (.iconst (-1), 1) := by decide +kernel
theorem dX6_choice_21 : decode cX6_choice 21 = .ok (.ireturn, 1) := by decide +kernel
theorem dX6_choice_22 : decode cX6_choice 22 = .ok (.bipush (-9), 2) := by decide +kernel
theorem dX6_choice_24 : decode cX6_choice 24 = .ok (.istore_n 3, 1) := by decide +kernel
theorem dX6_choice_25 : decode cX6_choice 25 = .ok (.bipush (-9), 2) := by decide +kernel
theorem dX6_choice_27 : decode cX6_choice 27 = .ok (.istore 4, 2) := by decide +kernel
theorem dX6_choice_29 : decode cX6_choice 29 = .ok (.iconst 0, 1) := by decide +kernel
theorem dX6_choice_30 : decode cX6_choice 30 = .ok (.istore 5, 2) := by decide +kernel
theorem dX6_choice_32 : decode cX6_choice 32 = .ok (.iload 5, 2) := by decide +kernel
theorem dX6_choice_34 : decode cX6_choice 34 = .ok (.bipush 32, 2) := by decide +kernel
theorem dX6_choice_36 : decode cX6_choice 36 = .ok (.if_icmp .ge 47, 3) := by decide +kernel
theorem dX6_choice_39 : decode cX6_choice 39 = .ok (.aload_n 0, 1) := by decide +kernel
theorem dX6_choice_40 : decode cX6_choice 40 = .ok (.iload 5, 2) := by decide +kernel
theorem dX6_choice_42 : decode cX6_choice 42 = .ok (.invokevirtual 195, 3) := by decide +kernel
theorem dX6_choice_45 : decode cX6_choice 45 = .ok (.istore 6, 2) := by decide +kernel
theorem dX6_choice_47 : decode cX6_choice 47 = .ok (.iload_n 3, 1) := by decide +kernel
theorem dX6_choice_48 : decode cX6_choice 48 = .ok (.bipush (-9), 2) := by decide +kernel
theorem dX6_choice_50 : decode cX6_choice 50 = .ok (.if_icmp .eq 10, 3) := by decide +kernel
theorem dX6_choice_53 : decode cX6_choice 53 = .ok (.iload 6, 2) := by decide +kernel
theorem dX6_choice_55 : decode cX6_choice 55 = .ok (.iload 4, 2) := by decide +kernel
theorem dX6_choice_57 : decode cX6_choice 57 = .ok (.if_icmp .ge 20, 3) := by decide +kernel
theorem dX6_choice_60 : decode cX6_choice 60 = .ok (.aload_n 0, 1) := by decide +kernel
theorem dX6_choice_61 : decode cX6_choice 61 = .ok (.iload 5, 2) := by decide +kernel
theorem dX6_choice_63 : decode cX6_choice 63 = .ok (.invokevirtual 198, 3) := by decide +kernel
theorem dX6_choice_66 : decode cX6_choice 66 = .ok (.iload_n 1, 1) := by decide +kernel
theorem dX6_choice_67 : decode cX6_choice 67 = .ok (.if_icmp .lt 10, 3) := by decide +kernel
theorem dX6_choice_70 : decode cX6_choice 70 = .ok (.iload 5, 2) := by decide +kernel
theorem dX6_choice_72 : decode cX6_choice 72 = .ok (.istore_n 3, 1) := by decide +kernel
theorem dX6_choice_73 : decode cX6_choice 73 = .ok (.iload 6, 2) := by decide +kernel
theorem dX6_choice_75 : decode cX6_choice 75 = .ok (.istore 4, 2) := by decide +kernel
theorem dX6_choice_77 : decode cX6_choice 77 = .ok (.iinc 5 1, 3) := by decide +kernel
theorem dX6_choice_80 : decode cX6_choice 80 = .ok (.goto (-48), 3) := by decide +kernel
theorem dX6_choice_83 : decode cX6_choice 83 = .ok (.iload_n 2, 1) := by decide +kernel
theorem dX6_choice_84 : decode cX6_choice 84 = .ok (.ifCond .ne 7, 3) := by decide +kernel
theorem dX6_choice_87 : decode cX6_choice 87 = .ok (.iload_n 3, 1) := by decide +kernel
theorem dX6_choice_88 : decode cX6_choice 88 = .ok (.goto 5, 3) := by decide +kernel
theorem dX6_choice_91 : decode cX6_choice 91 = .ok (.iload 4, 2) := by decide +kernel
theorem dX6_choice_93 : decode cX6_choice 93 = .ok (.ireturn, 1) := by decide +kernel
set_option maxRecDepth 20000 in
theorem ggX6_sand_X6_outside : GoodIn wsX6_sand wsX6_outside := goodIn_r _ [5] (by decide +kernel) (by decide +kernel)
set_option maxRecDepth 20000 in
theorem gX6_sand_X6_outside : GoodIn wsX6_sand (va_wsS RX6 85 yX6_outside wsX6_outside) := goodIn_app (goodIn_of _ (by decide +kernel)) ggX6_sand_X6_outside
set_option maxRecDepth 20000 in
theorem ggX6_sand_X1_add : GoodIn wsX6_sand wsX1_add := goodIn_r _ [10, 11, 12, 13, 30, 31, 32] (by decide +kernel) (by decide +kernel)
set_option maxRecDepth 20000 in
theorem gX6_sand_X1_add : GoodIn wsX6_sand (wsV RX6 201 RX1 yX1_add wsX1_add) := goodIn_app (goodIn_of _ (by decide +kernel)) ggX6_sand_X1_add
theorem dX6_sand_0 : decode cX6_sand 0 = .ok (.iload_n 1, 1) := by decide +kernel
theorem dX6_sand_1 : decode cX6_sand 1 = .ok (.iconst 1, 1) := by decide +kernel
theorem dX6_sand_2 : decode cX6_sand 2 = .ok (.sipush 200, 3) := by decide +kernel
theorem dX6_sand_5 : decode cX6_sand 5 = .ok (.invokestatic 85, 3) := by decide +kernel
theorem dX6_sand_8 : decode cX6_sand 8 = .ok (.ifCond .ne 12, 3) := by decide +kernel
theorem dX6_sand_11 : decode cX6_sand 11 = .ok (.iload_n 2, 1) := by decide +kernel
theorem dX6_sand_12 : decode cX6_sand 12 = .ok (.iconst 0, 1) := by decide +kernel
theorem dX6_sand_13 : decode cX6_sand 13 = .ok (.iconst 1, 1) := by decide +kernel
theorem dX6_sand_14 : decode cX6_sand 14 = .ok (.invokestatic 85, 3) := by decide +kernel
theorem dX6_sand_17 : decode cX6_sand 17 = .ok (.ifCond .eq 5, 3) := by decide +kernel
theorem dX6_sand_20 : decode cX6_sand 20 = .ok (.iconst (-1), 1) := by decide +kernel
theorem dX6_sand_21 : decode cX6_sand 21 = .ok (.ireturn, 1) := by decide +kernel
theorem dX6_sand_22 : decode cX6_sand 22 = .ok (.aload_n 0, 1) := by decide +kernel
theorem dX6_sand_23 : decode cX6_sand 23 = .ok (.getfield 55, 3) := by decide +kernel
theorem dX6_sand_26 : decode cX6_sand 26 = .ok (.iload_n 1, 1) := by decide +kernel
theorem dX6_sand_27 : decode cX6_sand 27 = .ok (.iload_n 2, 1) := by decide +kernel
theorem dX6_sand_28 : decode cX6_sand 28 = .ok (.invokevirtual 201, 3) := by decide +kernel
theorem dX6_sand_31 : decode cX6_sand 31 = .ok (.ireturn, 1) := by decide +kernel
set_option maxRecDepth 20000 in
theorem ggX6_line_X6_outside : GoodIn wsX6_line wsX6_outside := goodIn_r _ [5] (by decide +kernel) (by decide +kernel)
set_option maxRecDepth 20000 in
theorem gX6_line_X6_outside : GoodIn wsX6_line (va_wsS RX6 85 yX6_outside wsX6_outside) := goodIn_app (goodIn_of _ (by decide +kernel)) ggX6_line_X6_outside
set_option maxRecDepth 20000 in
theorem ggX6_line_X1_greatestClean : GoodIn wsX6_line wsX1_greatestClean := goodIn_r _ [10, 11, 12, 13, 14, 15, 16, 17, 38, 39, 40] (by decide +kernel) (by decide +kernel)
set_option maxRecDepth 20000 in
theorem gX6_line_X1_greatestClean : GoodIn wsX6_line (wsV RX6 203 RX1 yX1_greatestClean wsX1_greatestClean) := goodIn_app (goodIn_of _ (by decide +kernel)) ggX6_line_X1_greatestClean
set_option maxRecDepth 20000 in
theorem ggX6_line_X1_leastSandy : GoodIn wsX6_line wsX1_leastSandy := goodIn_r _ [21, 11, 12, 13, 38, 39, 40] (by decide +kernel) (by decide +kernel)
set_option maxRecDepth 20000 in
theorem gX6_line_X1_leastSandy : GoodIn wsX6_line (wsV RX6 206 RX1 yX1_leastSandy wsX1_leastSandy) := goodIn_app (goodIn_of _ (by decide +kernel)) ggX6_line_X1_leastSandy
theorem dX6_line_0 : decode cX6_line 0 = .ok (.iload_n 1, 1) := by decide +kernel
theorem dX6_line_1 : decode cX6_line 1 = .ok (.iconst 0, 1) := by decide +kernel
theorem dX6_line_2 : decode cX6_line 2 = .ok (.iconst 2, 1) := by decide +kernel
theorem dX6_line_3 : decode cX6_line 3 = .ok (.invokestatic 85, 3) := by decide +kernel
theorem dX6_line_6 : decode cX6_line 6 = .ok (.ifCond .eq 5, 3) := by decide +kernel
theorem dX6_line_9 : decode cX6_line 9 = .ok (.iconst (-1), 1) := by decide +kernel
theorem dX6_line_10 : decode cX6_line 10 = .ok (.ireturn, 1) := by decide +kernel
theorem dX6_line_11 : decode cX6_line 11 = .ok (.aload_n 0, 1) := by decide +kernel
theorem dX6_line_12 : decode cX6_line 12 = .ok (.getfield 55, 3) := by decide +kernel
theorem dX6_line_15 : decode cX6_line 15 = .ok (.invokevirtual 203, 3) := by decide +kernel
theorem dX6_line_18 : decode cX6_line 18 = .ok (.istore_n 2, 1) := by decide +kernel
theorem dX6_line_19 : decode cX6_line 19 = .ok (.aload_n 0, 1) := by decide +kernel
theorem dX6_line_20 : decode cX6_line 20 = .ok (.getfield 55, 3) := by decide +kernel
theorem dX6_line_23 : decode cX6_line 23 = .ok (.invokevirtual 206, 3) := by decide +kernel
theorem dX6_line_26 : decode cX6_line 26 = .ok (.istore_n 3, 1) := by decide +kernel
theorem dX6_line_27 : decode cX6_line 27 = .ok (.iload_n 1, 1) := by decide +kernel
theorem dX6_line_28 : decode cX6_line 28 = .ok (.ifCond .ne 5, 3) := by decide +kernel
theorem dX6_line_31 : decode cX6_line 31 = .ok (.iload_n 2, 1) := by decide +kernel
theorem dX6_line_32 : decode cX6_line 32 = .ok (.ireturn, 1) := by decide +kernel
theorem dX6_line_33 : decode cX6_line 33 = .ok (.iload_n 1, 1) := by decide +kernel
theorem dX6_line_34 : decode cX6_line 34 = .ok (.iconst 1, 1) := by decide +kernel
theorem dX6_line_35 : decode cX6_line 35 = .ok (.if_icmp .ne 5, 3) := by decide +kernel
theorem dX6_line_38 : decode cX6_line 38 = .ok (.iload_n 3, 1) := by decide +kernel
theorem dX6_line_39 : decode cX6_line 39 = .ok (.ireturn, 1) := by decide +kernel
theorem dX6_line_40 : decode cX6_line 40 = .ok (.iload_n 2, 1) := by decide +kernel
theorem dX6_line_41 : decode cX6_line 41 = .ok (.ifCond .eq 14, 3) := by decide +kernel
theorem dX6_line_44 : decode cX6_line 44 = .ok (.iload_n 3, 1) := by decide +kernel
theorem dX6_line_45 : decode cX6_line 45 = .ok (.bipush (-9), 2) := by decide +kernel
theorem dX6_line_47 : decode cX6_line 47 = .ok (.if_icmp .eq 8, 3) := by decide +kernel
theorem dX6_line_50 : decode cX6_line 50 = .ok (.iload_n 2, 1) := by decide +kernel
theorem dX6_line_51 : decode cX6_line 51 = .ok (.iload_n 3, 1) := by decide +kernel
theorem dX6_line_52 : decode cX6_line 52 = .ok (.if_icmp .ge 7, 3) := by decide +kernel
theorem dX6_line_55 : decode cX6_line 55 = .ok (.iconst 1, 1) := by decide +kernel
theorem dX6_line_56 : decode cX6_line 56 = .ok (.goto 4, 3) := by decide +kernel
theorem dX6_line_59 : decode cX6_line 59 = .ok (.iconst 0, 1) := by decide +kernel
theorem dX6_line_60 : decode cX6_line 60 = .ok (.ireturn, 1) := by decide +kernel
set_option maxRecDepth 20000 in
theorem ggX6_year_X6_outside : GoodIn wsX6_year wsX6_outside := goodIn_r _ [5] (by decide +kernel) (by decide +kernel)
set_option maxRecDepth 20000 in
theorem gX6_year_X6_outside : GoodIn wsX6_year (va_wsS RX6 85 yX6_outside wsX6_outside) := goodIn_app (goodIn_of _ (by decide +kernel)) ggX6_year_X6_outside
set_option maxRecDepth 20000 in
theorem ggX6_year_X5_add : GoodIn wsX6_year wsX5_add := goodIn_r _ [10, 11, 12, 13, 30, 31, 32] (by decide +kernel) (by decide +kernel)
set_option maxRecDepth 20000 in
theorem gX6_year_X5_add : GoodIn wsX6_year (wsV RX6 209 RX5 yX5_add wsX5_add) := goodIn_app (goodIn_of _ (by decide +kernel)) ggX6_year_X5_add
theorem dX6_year_0 : decode cX6_year 0 = .ok (.iload_n 1, 1) := by decide +kernel
theorem dX6_year_1 : decode cX6_year 1 = .ok (.iconst 0, 1) := by decide +kernel
theorem dX6_year_2 : decode cX6_year 2 = .ok (.sipush 999, 3) := by decide +kernel
theorem dX6_year_5 : decode cX6_year 5 = .ok (.invokestatic 85, 3) := by decide +kernel
theorem dX6_year_8 : decode cX6_year 8 = .ok (.ifCond .ne 14, 3) := by decide +kernel
theorem dX6_year_11 : decode cX6_year 11 = .ok (.iload_n 2, 1) := by decide +kernel
theorem dX6_year_12 : decode cX6_year 12 = .ok (.iconst 0, 1) := by decide +kernel
theorem dX6_year_13 : decode cX6_year 13 = .ok (.sipush 999, 3) := by decide +kernel
theorem dX6_year_16 : decode cX6_year 16 = .ok (.invokestatic 85, 3) := by decide +kernel
theorem dX6_year_19 : decode cX6_year 19 = .ok (.ifCond .eq 5, 3) := by decide +kernel
theorem dX6_year_22 : decode cX6_year 22 = .ok (.iconst (-1), 1) := by decide +kernel
theorem dX6_year_23 : decode cX6_year 23 = .ok (.ireturn, 1) := by decide +kernel
theorem dX6_year_24 : decode cX6_year 24 = .ok (.aload_n 0, 1) := by decide +kernel
theorem dX6_year_25 : decode cX6_year 25 = .ok (.getfield 62, 3) := by decide +kernel
theorem dX6_year_28 : decode cX6_year 28 = .ok (.iload_n 1, 1) := by decide +kernel
theorem dX6_year_29 : decode cX6_year 29 = .ok (.iload_n 2, 1) := by decide +kernel
theorem dX6_year_30 : decode cX6_year 30 = .ok (.invokevirtual 209, 3) := by decide +kernel
theorem dX6_year_33 : decode cX6_year 33 = .ok (.ireturn, 1) := by decide +kernel
set_option maxRecDepth 20000 in
theorem ggX6_ahead_X6_outside : GoodIn wsX6_ahead wsX6_outside := goodIn_r _ [6] (by decide +kernel) (by decide +kernel)
set_option maxRecDepth 20000 in
theorem gX6_ahead_X6_outside : GoodIn wsX6_ahead (va_wsS RX6 85 yX6_outside wsX6_outside) := goodIn_app (goodIn_of _ (by decide +kernel)) ggX6_ahead_X6_outside
set_option maxRecDepth 20000 in
theorem ggX6_ahead_X5_look : GoodIn wsX6_ahead wsX5_look := goodIn_r _ [11, 12, 13, 14, 15, 16, 5, 17, 18, 19, 20, 21, 22, 23, 24, 41, 42, 43] (by decide +kernel) (by decide +kernel)
set_option maxRecDepth 20000 in
theorem gX6_ahead_X5_look : GoodIn wsX6_ahead (wsV RX6 212 RX5 yX5_look wsX5_look) := goodIn_app (goodIn_of _ (by decide +kernel)) ggX6_ahead_X5_look
theorem dX6_ahead_0 : decode cX6_ahead 0 = .ok (.iload_n 1, 1) := by decide +kernel
theorem dX6_ahead_1 : decode cX6_ahead 1 = .ok (.iconst 0, 1) := by decide +kernel
theorem dX6_ahead_2 : decode cX6_ahead 2 = .ok (.sipush 999, 3) := by decide +kernel
theorem dX6_ahead_5 : decode cX6_ahead 5 = .ok (.invokestatic 85, 3) := by decide +kernel
theorem dX6_ahead_8 : decode cX6_ahead 8 = .ok (.ifCond .ne 12, 3) := by decide +kernel
theorem dX6_ahead_11 : decode cX6_ahead 11 = .ok (.iload_n 2, 1) := by decide +kernel
theorem dX6_ahead_12 : decode cX6_ahead 12 = .ok (.iconst 0, 1) := by decide +kernel
theorem dX6_ahead_13 : decode cX6_ahead 13 = .ok (.iconst 3, 1) := by decide +kernel
theorem dX6_ahead_14 : decode cX6_ahead 14 = .ok (.invokestatic 85, 3) := by decide +kernel
theorem dX6_ahead_17 : decode cX6_ahead 17 = .ok (.ifCond .eq 7, 3) := by decide +kernel
theorem dX6_ahead_20 : decode cX6_ahead 20 = .ok (.ldc2_w 210, 3) := by decide +kernel
theorem dX6_ahead_23 : decode cX6_ahead 23 = .ok (.lreturn, 1) := by decide +kernel
theorem dX6_ahead_24 : decode cX6_ahead 24 = .ok (.aload_n 0, 1) := by decide +kernel
theorem dX6_ahead_25 : decode cX6_ahead 25 = .ok (.getfield 62, 3) := by decide +kernel
theorem dX6_ahead_28 : decode cX6_ahead 28 = .ok (.iload_n 1, 1) := by decide +kernel
theorem dX6_ahead_29 : decode cX6_ahead 29 = .ok (.iload_n 2, 1) := by decide +kernel
theorem dX6_ahead_30 : decode cX6_ahead 30 = .ok (.invokevirtual 212, 3) := by decide +kernel
theorem dX6_ahead_33 : decode cX6_ahead 33 = .ok (.lreturn, 1) := by decide +kernel
set_option maxRecDepth 20000 in
theorem ggX6_mark_X6_outside : GoodIn wsX6_mark wsX6_outside := goodIn_r _ [5] (by decide +kernel) (by decide +kernel)
set_option maxRecDepth 20000 in
theorem gX6_mark_X6_outside : GoodIn wsX6_mark (va_wsS RX6 85 yX6_outside wsX6_outside) := goodIn_app (goodIn_of _ (by decide +kernel)) ggX6_mark_X6_outside
set_option maxRecDepth 20000 in
theorem ggX6_mark_X6_markTrouble : GoodIn wsX6_mark wsX6_markTrouble := goodIn_r _ [9, 10, 11, 49, 50, 51, 52, 53, 54, 55, 56, 57, 58, 59, 60, 61, 62, 63, 64] (by decide +kernel) (by decide +kernel)
set_option maxRecDepth 20000 in
theorem gX6_mark_X6_markTrouble : GoodIn wsX6_mark (wsV RX6 217 RX6 yX6_markTrouble wsX6_markTrouble) := goodIn_app (goodIn_of _ (by decide +kernel)) ggX6_mark_X6_markTrouble
set_option maxRecDepth 20000 in
theorem ggX6_mark_X6_markDry : GoodIn wsX6_mark wsX6_markDry := goodIn_r _ [15, 10, 16, 17, 18, 6, 7, 8, 4, 9, 11, 49, 50, 51, 52, 53, 54, 55, 56, 57, 58, 59, 60, 61, 62, 63, 64, 65, 66, 67, 68, 69, 70, 71] (by decide +kernel) (by decide +kernel)
set_option maxRecDepth 20000 in
theorem gX6_mark_X6_markDry : GoodIn wsX6_mark (wsV RX6 220 RX6 yX6_markDry wsX6_markDry) := goodIn_app (goodIn_of _ (by decide +kernel)) ggX6_mark_X6_markDry
set_option maxRecDepth 20000 in
theorem ggX6_mark_X6_markFooted : GoodIn wsX6_mark wsX6_markFooted := goodIn_r _ [22, 10, 23, 17, 24, 6, 7, 8, 4, 9, 11, 49, 50, 51, 52, 53, 54, 55, 56, 57, 58, 59, 60, 61, 62, 63, 64, 65, 66, 67, 68, 69, 70, 71] (by decide +kernel) (by decide +kernel)
set_option maxRecDepth 20000 in
theorem gX6_mark_X6_markFooted : GoodIn wsX6_mark (wsV RX6 223 RX6 yX6_markFooted wsX6_markFooted) := goodIn_app (goodIn_of _ (by decide +kernel)) ggX6_mark_X6_markFooted
set_option maxRecDepth 20000 in
theorem ggX6_mark_X6_markAired : GoodIn wsX6_mark wsX6_markAired := goodIn_r _ [28, 10, 29, 19, 20, 21, 4, 22, 23, 17, 24, 6, 7, 8, 9, 11, 49, 50, 51, 52, 53, 54, 55, 56, 57, 58, 59, 60, 61, 62, 63, 64, 65, 66, 67, 68, 69, 70, 71] (by decide +kernel) (by decide +kernel)
set_option maxRecDepth 20000 in
theorem gX6_mark_X6_markAired : GoodIn wsX6_mark (wsV RX6 226 RX6 yX6_markAired wsX6_markAired) := goodIn_app (goodIn_of _ (by decide +kernel)) ggX6_mark_X6_markAired
set_option maxRecDepth 20000 in
theorem ggX6_mark_X6_markChoked : GoodIn wsX6_mark wsX6_markChoked := goodIn_r _ [33, 10, 34, 12, 13, 14, 4, 15, 16, 17, 18, 6, 7, 8, 9, 11, 49, 50, 51, 52, 53, 54, 55, 56, 57, 58, 59, 60, 61, 62, 63, 64, 65, 66, 67, 68, 69, 70, 71] (by decide +kernel) (by decide +kernel)
set_option maxRecDepth 20000 in
theorem gX6_mark_X6_markChoked : GoodIn wsX6_mark (wsV RX6 229 RX6 yX6_markChoked wsX6_markChoked) := goodIn_app (goodIn_of _ (by decide +kernel)) ggX6_mark_X6_markChoked
set_option maxRecDepth 20000 in
theorem ggX6_mark_X6_markDeep : GoodIn wsX6_mark wsX6_markDeep := goodIn_r _ [38, 10, 39, 40, 17, 41, 6, 7, 8, 4, 9, 11, 42, 43, 44, 45, 46, 47, 48, 49, 50, 51, 52, 53, 54, 55, 56, 57, 58, 59, 60, 61, 62, 63, 64, 65, 66, 67, 68, 69, 70, 71, 72, 73, 74, 75, 76, 77, 78, 79, 80, 81, 82] (by decide +kernel) (by decide +kernel)
set_option maxRecDepth 20000 in
theorem gX6_mark_X6_markDeep : GoodIn wsX6_mark (wsV RX6 232 RX6 yX6_markDeep wsX6_markDeep) := goodIn_app (goodIn_of _ (by decide +kernel)) ggX6_mark_X6_markDeep
theorem dX6_mark_0 : decode cX6_mark 0 = .ok (.iload_n 2, 1) := by decide +kernel
theorem dX6_mark_1 : decode cX6_mark 1 = .ok (.iconst 0, 1) := by decide +kernel
theorem dX6_mark_2 : decode cX6_mark 2 = .ok (.iconst 5, 1) := by decide +kernel
theorem dX6_mark_3 : decode cX6_mark 3 = .ok (.invokestatic 85, 3) := by decide +kernel
theorem dX6_mark_6 : decode cX6_mark 6 = .ok (.ifCond .eq 6, 3) := by decide +kernel
theorem dX6_mark_9 : decode cX6_mark 9 = .ok (.ldc 216, 2) := by decide +kernel
theorem dX6_mark_11 : decode cX6_mark 11 = .ok (.ireturn, 1) := by decide +kernel
theorem dX6_mark_12 : decode cX6_mark 12 = .ok (.iload_n 1, 1) := by decide +kernel
theorem dX6_mark_13 : decode cX6_mark 13 = .ok (.tableswitch 75 0 5 #[39, 45, 51, 57, 63, 69], 39) := by decide +kernel
theorem dX6_mark_52 : decode cX6_mark 52 = .ok (.aload_n 0, 1) := by decide +kernel
theorem dX6_mark_53 : decode cX6_mark 53 = .ok (.iload_n 2, 1) := by decide +kernel
theorem dX6_mark_54 : decode cX6_mark 54 = .ok (.invokevirtual 217, 3) := by decide +kernel
theorem dX6_mark_57 : decode cX6_mark 57 = .ok (.ireturn, 1) := by decide +kernel
theorem dX6_mark_58 : decode cX6_mark 58 = .ok (.aload_n 0, 1) := by decide +kernel
theorem dX6_mark_59 : decode cX6_mark 59 = .ok (.iload_n 2, 1) := by decide +kernel
theorem dX6_mark_60 : decode cX6_mark 60 = .ok (.invokevirtual 220, 3) := by decide +kernel
theorem dX6_mark_63 : decode cX6_mark 63 = .ok (.ireturn, 1) := by decide +kernel
theorem dX6_mark_64 : decode cX6_mark 64 = .ok (.aload_n 0, 1) := by decide +kernel
theorem dX6_mark_65 : decode cX6_mark 65 = .ok (.iload_n 2, 1) := by decide +kernel
theorem dX6_mark_66 : decode cX6_mark 66 = .ok (.invokevirtual 223, 3) := by decide +kernel
theorem dX6_mark_69 : decode cX6_mark 69 = .ok (.ireturn, 1) := by decide +kernel
theorem dX6_mark_70 : decode cX6_mark 70 = .ok (.aload_n 0, 1) := by decide +kernel
theorem dX6_mark_71 : decode cX6_mark 71 = .ok (.iload_n 2, 1) := by decide +kernel
theorem dX6_mark_72 : decode cX6_mark 72 = .ok (.invokevirtual 226, 3) := by decide +kernel
theorem dX6_mark_75 : decode cX6_mark 75 = .ok (.ireturn, 1) := by decide +kernel
theorem dX6_mark_76 : decode cX6_mark 76 = .ok (.aload_n 0, 1) := by decide +kernel
theorem dX6_mark_77 : decode cX6_mark 77 = .ok (.iload_n 2, 1) := by decide +kernel
theorem dX6_mark_78 : decode cX6_mark 78 = .ok (.invokevirtual 229, 3) := by decide +kernel
theorem dX6_mark_81 : decode cX6_mark 81 = .ok (.ireturn, 1) := by decide +kernel
theorem dX6_mark_82 : decode cX6_mark 82 = .ok (.aload_n 0, 1) := by decide +kernel
theorem dX6_mark_83 : decode cX6_mark 83 = .ok (.iload_n 2, 1) := by decide +kernel
theorem dX6_mark_84 : decode cX6_mark 84 = .ok (.invokevirtual 232, 3) := by decide +kernel
theorem dX6_mark_87 : decode cX6_mark 87 = .ok (.ireturn, 1) := by decide +kernel
theorem dX6_mark_88 : decode cX6_mark 88 = .ok (.ldc 216, 2) := by decide +kernel
theorem dX6_mark_90 : decode cX6_mark 90 = .ok (.ireturn, 1) := by decide +kernel
set_option maxRecDepth 20000 in
theorem ggX6_keep_X6_outside : GoodIn wsX6_keep wsX6_outside := goodIn_r _ [8] (by decide +kernel) (by decide +kernel)
set_option maxRecDepth 20000 in
theorem gX6_keep_X6_outside : GoodIn wsX6_keep (va_wsS RX6 85 yX6_outside wsX6_outside) := goodIn_app (goodIn_of _ (by decide +kernel)) ggX6_keep_X6_outside
set_option maxRecDepth 20000 in
theorem ggX6_keep_X0_beLike : GoodIn wsX6_keep wsX0_beLike := goodIn_r _ [13, 14, 15, 16, 17, 18, 19, 20, 37, 38, 39, 40, 41, 42, 43] (by decide +kernel) (by decide +kernel)
set_option maxRecDepth 20000 in
theorem gX6_keep_X0_beLike : GoodIn wsX6_keep (wsV RX6 155 RX0 yX0_beLike wsX0_beLike) := goodIn_app (goodIn_of _ (by decide +kernel)) ggX6_keep_X0_beLike
theorem dX6_keep_0 : decode cX6_keep 0 = .ok (.iload_n 1, 1) := by decide +kernel
theorem dX6_keep_1 : decode cX6_keep 1 = .ok (.iconst 0, 1) := by decide +kernel
theorem dX6_keep_2 : decode cX6_keep 2 = .ok (.iconst 1, 1) := by decide +kernel
theorem dX6_keep_3 : decode cX6_keep 3 = .ok (.invokestatic 85, 3) := by decide +kernel
theorem dX6_keep_6 : decode cX6_keep 6 = .ok (.ifCond .eq 5, 3) := by decide +kernel
theorem dX6_keep_9 : decode cX6_keep 9 = .ok (.iconst (-1), 1) := by decide +kernel
theorem dX6_keep_10 : decode cX6_keep 10 = .ok (.ireturn, 1) := by decide +kernel
theorem dX6_keep_11 : decode cX6_keep 11 = .ok (.aload_n 0, 1) := by decide +kernel
theorem dX6_keep_12 : decode cX6_keep 12 = .ok (.getfield 30, 3) := by decide +kernel
theorem dX6_keep_15 : decode cX6_keep 15 = .ok (.iload_n 1, 1) := by decide +kernel
theorem dX6_keep_16 : decode cX6_keep 16 = .ok (.aaload, 1) := by decide +kernel
theorem dX6_keep_17 : decode cX6_keep 17 = .ok (.aload_n 0, 1) := by decide +kernel
theorem dX6_keep_18 : decode cX6_keep 18 = .ok (.getfield 26, 3) := by decide +kernel
theorem dX6_keep_21 : decode cX6_keep 21 = .ok (.invokevirtual 155, 3) := by decide +kernel
theorem dX6_keep_24 : decode cX6_keep 24 = .ok (.aload_n 0, 1) := by decide +kernel
theorem dX6_keep_25 : decode cX6_keep 25 = .ok (.getfield 34, 3) := by decide +kernel
theorem dX6_keep_28 : decode cX6_keep 28 = .ok (.iload_n 1, 1) := by decide +kernel
theorem dX6_keep_29 : decode cX6_keep 29 = .ok (.iconst 1, 1) := by decide +kernel
theorem dX6_keep_30 : decode cX6_keep 30 = .ok (.bastore, 1) := by decide +kernel
theorem dX6_keep_31 : decode cX6_keep 31 = .ok (.aload_n 0, 1) := by decide +kernel
theorem dX6_keep_32 : decode cX6_keep 32 = .ok (.getfield 26, 3) := by decide +kernel
theorem dX6_keep_35 : decode cX6_keep 35 = .ok (.getfield 118, 3) := by decide +kernel
theorem dX6_keep_38 : decode cX6_keep 38 = .ok (.ireturn, 1) := by decide +kernel
set_option maxRecDepth 20000 in
theorem ggX6_back_X6_outside : GoodIn wsX6_back wsX6_outside := goodIn_r _ [8] (by decide +kernel) (by decide +kernel)
set_option maxRecDepth 20000 in
theorem gX6_back_X6_outside : GoodIn wsX6_back (va_wsS RX6 85 yX6_outside wsX6_outside) := goodIn_app (goodIn_of _ (by decide +kernel)) ggX6_back_X6_outside
set_option maxRecDepth 20000 in
theorem ggX6_back_X0_beLike : GoodIn wsX6_back wsX0_beLike := goodIn_r _ [13, 14, 15, 16, 17, 18, 19, 20, 37, 38, 39, 40, 41, 42, 43] (by decide +kernel) (by decide +kernel)
set_option maxRecDepth 20000 in
theorem gX6_back_X0_beLike : GoodIn wsX6_back (wsV RX6 155 RX0 yX0_beLike wsX0_beLike) := goodIn_app (goodIn_of _ (by decide +kernel)) ggX6_back_X0_beLike
theorem dX6_back_0 : decode cX6_back 0 = .ok (.iload_n 1, 1) := by decide +kernel
theorem dX6_back_1 : decode cX6_back 1 = .ok (.iconst 0, 1) := by decide +kernel
theorem dX6_back_2 : decode cX6_back 2 = .ok (.iconst 1, 1) := by decide +kernel
theorem dX6_back_3 : decode cX6_back 3 = .ok (.invokestatic 85, 3) := by decide +kernel
theorem dX6_back_6 : decode cX6_back 6 = .ok (.ifCond .eq 5, 3) := by decide +kernel
theorem dX6_back_9 : decode cX6_back 9 = .ok (.iconst (-1), 1) := by decide +kernel
theorem dX6_back_10 : decode cX6_back 10 = .ok (.ireturn, 1) := by decide +kernel
theorem dX6_back_11 : decode cX6_back 11 = .ok (.aload_n 0, 1) := by decide +kernel
theorem dX6_back_12 : decode cX6_back 12 = .ok (.getfield 34, 3) := by decide +kernel
theorem dX6_back_15 : decode cX6_back 15 = .ok (.iload_n 1, 1) := by decide +kernel
theorem dX6_back_16 : decode cX6_back 16 = .ok (.baload, 1) := by decide +kernel
theorem dX6_back_17 : decode cX6_back 17 = .ok (.ifCond .ne 6, 3) := by decide +kernel
theorem dX6_back_20 : decode cX6_back 20 = .ok (.bipush (-2), 2) := by decide +kernel
theorem dX6_back_22 : decode cX6_back 22 = .ok (.ireturn, 1) := by decide +kernel
theorem dX6_back_23 : decode cX6_back 23 = .ok (.aload_n 0, 1) := by decide +kernel
theorem dX6_back_24 : decode cX6_back 24 = .ok (.getfield 26, 3) := by decide +kernel
