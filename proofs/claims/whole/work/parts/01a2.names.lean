theorem inlX0 : ∀ w ∈ wsX00, w ∈ wsL_law := fun _ h => List.mem_append_left _ (List.mem_append_left _ (List.mem_append_left _ (List.mem_append_left _ (List.mem_append_right _ h))))
theorem inX0 : ∀ w ∈ wsX00, w ∈ lw_tbl := fun w h => wsL_law_in w (inlX0 w h)
theorem inX1 : ∀ w ∈ wsX10, w ∈ lw_tbl := by decide +kernel
theorem inlX2 : ∀ w ∈ wsX20, w ∈ wsL_law := fun _ h => List.mem_append_left _ (List.mem_append_left _ (List.mem_append_left _ (List.mem_append_right _ h)))
theorem inX2 : ∀ w ∈ wsX20, w ∈ lw_tbl := fun w h => wsL_law_in w (inlX2 w h)
theorem inlX3 : ∀ w ∈ wsX30, w ∈ wsL_law := fun _ h => List.mem_append_left _ (List.mem_append_left _ (List.mem_append_left _ (List.mem_append_left _ (List.mem_append_left _ (List.mem_append_right _ h)))))
theorem inX3 : ∀ w ∈ wsX30, w ∈ lw_tbl := fun w h => wsL_law_in w (inlX3 w h)
theorem inX4 : ∀ w ∈ wsX40, w ∈ lw_tbl := by decide +kernel
theorem inlX5 : ∀ w ∈ wsX50, w ∈ wsL_law := fun _ h => List.mem_append_left _ (List.mem_append_left _ (List.mem_append_right _ h))
theorem inX5 : ∀ w ∈ wsX50, w ∈ lw_tbl := fun w h => wsL_law_in w (inlX5 w h)
theorem inlX6 : ∀ w ∈ wsX60, w ∈ wsL_law := fun _ h => List.mem_append_left _ (List.mem_append_right _ h)
theorem inX6 : ∀ w ∈ wsX60, w ∈ lw_tbl := fun w h => wsL_law_in w (inlX6 w h)
theorem inlX7 : ∀ w ∈ wsX70, w ∈ wsL_law := fun _ h => List.mem_append_left _ (List.mem_append_left _ (List.mem_append_left _ (List.mem_append_left _ (List.mem_append_left _ (List.mem_append_left _ (List.mem_append_left _ (List.mem_append_right _ h)))))))
theorem inX7 : ∀ w ∈ wsX70, w ∈ lw_tbl := fun w h => wsL_law_in w (inlX7 w h)
theorem inlX8 : ∀ w ∈ wsX80, w ∈ wsL_law := fun _ h => List.mem_append_left _ (List.mem_append_left _ (List.mem_append_left _ (List.mem_append_left _ (List.mem_append_left _ (List.mem_append_left _ (List.mem_append_right _ h))))))
theorem inX8 : ∀ w ∈ wsX80, w ∈ lw_tbl := fun w h => wsL_law_in w (inlX8 w h)
theorem inJ9 : ∀ w ∈ wsJ90, w ∈ lw_tbl := by decide +kernel
theorem inJ7 : ∀ w ∈ wsJ70, w ∈ lw_tbl := by decide +kernel
theorem dX0_init_0 : decode cX0_init 0 = .ok (.aload_n 0, 1) := by decide +kernel
theorem dX0_init_1 : decode cX0_init 1 = .ok (.invokespecial 5, 3) := by decide +kernel
theorem dX0_init_4 : decode cX0_init 4 = .ok (.aload_n 0, 1) := by decide +kernel
theorem dX0_init_5 : decode cX0_init 5 = .ok (.bipush 18, 2) := by decide +kernel
theorem dX0_init_7 : decode cX0_init 7 = .ok (.newarray .boolean, 2) := by decide +kernel
theorem dX0_init_9 : decode cX0_init 9 = .ok (.putfield 11, 3) := by decide +kernel
theorem dX0_init_12 : decode cX0_init 12 = .ok (.aload_n 0, 1) := by decide +kernel
theorem dX0_init_13 : decode cX0_init 13 = .ok (.bipush 18, 2) := by decide +kernel
theorem dX0_init_15 : decode cX0_init 15 = .ok (.newarray .int, 2) := by decide +kernel
theorem dX0_init_17 : decode cX0_init 17 = .ok (.putfield 15, 3) := by decide +kernel
theorem dX0_init_20 : decode cX0_init 20 = .ok (.aload_n 0, 1) := by decide +kernel
theorem dX0_init_21 : decode cX0_init 21 = .ok (.bipush 18, 2) := by decide +kernel
theorem dX0_init_23 : decode cX0_init 23 = .ok (.newarray .int, 2) := by decide +kernel
theorem dX0_init_25 : decode cX0_init 25 = .ok (.putfield 19, 3) := by decide +kernel
theorem dX0_init_28 : decode cX0_init 28 = .ok (.aload_n 0, 1) := by decide +kernel
theorem dX0_init_29 : decode cX0_init 29 = .ok (.bipush 10, 2) := by decide +kernel
theorem dX0_init_31 : decode cX0_init 31 = .ok (.newarray .int, 2) := by decide +kernel
theorem dX0_init_33 : decode cX0_init 33 = .ok (.putfield 22, 3) := by decide +kernel
theorem dX0_init_36 : decode cX0_init 36 = .ok (.aload_n 0, 1) := by decide +kernel
theorem dX0_init_37 : decode cX0_init 37 = .ok (.iconst 3, 1) := by decide +kernel
theorem dX0_init_38 : decode cX0_init 38 = .ok (.newarray .int, 2) := by decide +kernel
theorem dX0_init_40 : decode cX0_init 40 = .ok (.putfield 25, 3) := by decide +kernel
theorem dX0_init_43 : decode cX0_init 43 = .ok (.return_, 1) := by decide +kernel
set_option maxRecDepth 20000 in
theorem ggX0_build_J7_fill_53178 : GoodIn wsX0_build wsJ7_fill_53178 := goodIn_r _ [11] rfl (by decide +kernel)
set_option maxRecDepth 20000 in
theorem gX0_build_J7_fill_53178 : GoodIn wsX0_build (va_wsS RX0 28 yJ7_fill_53178 wsJ7_fill_53178) := goodIn_app (goodIn_of _ (by decide +kernel)) ggX0_build_J7_fill_53178
set_option maxRecDepth 20000 in
theorem ggX0_build_X3_nodeCount : GoodIn wsX0_build wsX3_nodeCount := goodIn_r _ [16, 17, 64, 65, 66, 67] rfl (by decide +kernel)
set_option maxRecDepth 20000 in
theorem gX0_build_X3_nodeCount : GoodIn wsX0_build (wsV RX0 38 RX3 yX3_nodeCount wsX3_nodeCount) := goodIn_app (goodIn_of _ (by decide +kernel)) ggX0_build_X3_nodeCount
set_option maxRecDepth 20000 in
theorem ggX0_build_X0_addNode : GoodIn wsX0_build wsX0_addNode := goodIn_r _ [22, 23, 24, 25, 15, 26, 27, 28, 29, 30, 17, 31, 32, 33, 34, 35, 36, 37, 38, 39, 21, 40, 5, 4, 6, 41, 42, 43, 44, 3, 1, 45, 46, 47, 48, 49, 50, 51, 52, 53, 54, 55, 56, 2, 64, 65, 66, 67, 57, 58, 59, 60, 61, 62, 63] rfl (by decide +kernel)
set_option maxRecDepth 20000 in
theorem gX0_build_X0_addNode : GoodIn wsX0_build (wsV RX0 44 RX0 yX0_addNode wsX0_addNode) := goodIn_app (goodIn_of _ (by decide +kernel)) ggX0_build_X0_addNode
theorem dX0_build_0 : decode cX0_build 0 = .ok (.aload_n 0, 1) := by decide +kernel
theorem dX0_build_1 : decode cX0_build 1 = .ok (.getfield 22, 3) := by decide +kernel
theorem dX0_build_4 : decode cX0_build 4 = .ok (.iconst 0, 1) := by decide +kernel
theorem dX0_build_5 : decode cX0_build 5 = .ok (.invokestatic 28, 3) := by decide +kernel
theorem dX0_build_8 : decode cX0_build 8 = .ok (.aload_n 0, 1) := by decide +kernel
theorem dX0_build_9 : decode cX0_build 9 = .ok (.getfield 25, 3) := by decide +kernel
theorem dX0_build_12 : decode cX0_build 12 = .ok (.iconst 0, 1) := by decide +kernel
theorem dX0_build_13 : decode cX0_build 13 = .ok (.invokestatic 28, 3) := by decide +kernel
theorem dX0_build_16 : decode cX0_build 16 = .ok (.aload_n 0, 1) := by decide +kernel
theorem dX0_build_17 : decode cX0_build 17 = .ok (.iconst 1, 1) := by decide +kernel
theorem dX0_build_18 : decode cX0_build 18 = .ok (.putfield 34, 3) := by decide +kernel
theorem dX0_build_21 : decode cX0_build 21 = .ok (.aload_n 1, 1) := by decide +kernel
theorem dX0_build_22 : decode cX0_build 22 = .ok (.invokevirtual 38, 3) := by decide +kernel
theorem dX0_build_25 : decode cX0_build 25 = .ok (.iconst 1, 1) := by decide +kernel
theorem dX0_build_26 : decode cX0_build 26 = .ok (.isub, 1) := by decide +kernel
theorem dX0_build_27 : decode cX0_build 27 = .ok (.istore_n 2, 1) := by decide +kernel
theorem dX0_build_28 : decode cX0_build 28 = .ok (.iload_n 2, 1) := by decide +kernel
theorem dX0_build_29 : decode cX0_build 29 = .ok (.ifCond .lt 15, 3) := by decide +kernel
theorem dX0_build_32 : decode cX0_build 32 = .ok (.aload_n 0, 1) := by decide +kernel
theorem dX0_build_33 : decode cX0_build 33 = .ok (.aload_n 1, 1) := by decide +kernel
theorem dX0_build_34 : decode cX0_build 34 = .ok (.iload_n 2, 1) := by decide +kernel
theorem dX0_build_35 : decode cX0_build 35 = .ok (.invokevirtual 44, 3) := by decide +kernel
theorem dX0_build_38 : decode cX0_build 38 = .ok (.iinc 2 (-1), 3) := by decide +kernel
theorem dX0_build_41 : decode cX0_build 41 = .ok (.goto (-13), 3) := by decide +kernel
theorem dX0_build_44 : decode cX0_build 44 = .ok (.aload_n 0, 1) := by decide +kernel
theorem dX0_build_45 : decode cX0_build 45 = .ok (.getfield 22, 3) := by decide +kernel
theorem dX0_build_48 : decode cX0_build 48 = .ok (.iconst 0, 1) := by decide +kernel
theorem dX0_build_49 : decode cX0_build 49 = .ok (.aload_n 0, 1) := by decide +kernel
theorem dX0_build_50 : decode cX0_build 50 = .ok (.getfield 15, 3) := by decide +kernel
theorem dX0_build_53 : decode cX0_build 53 = .ok (.iconst 0, 1) := by decide +kernel
theorem dX0_build_54 : decode cX0_build 54 = .ok (.iaload, 1) := by decide +kernel
theorem dX0_build_55 : decode cX0_build 55 = .ok (.iastore, 1) := by decide +kernel
theorem dX0_build_56 : decode cX0_build 56 = .ok (.aload_n 0, 1) := by decide +kernel
theorem dX0_build_57 : decode cX0_build 57 = .ok (.aload_n 0, 1) := by decide +kernel
theorem dX0_build_58 : decode cX0_build 58 = .ok (.getfield 11, 3) := by decide +kernel
theorem dX0_build_61 : decode cX0_build 61 = .ok (.iconst 0, 1) := by decide +kernel
theorem dX0_build_62 : decode cX0_build 62 = .ok (.baload, 1) := by decide +kernel
theorem dX0_build_63 : decode cX0_build 63 = .ok (.ifCond .eq 14, 3) := by decide +kernel
theorem dX0_build_66 : decode cX0_build 66 = .ok (.aload_n 0, 1) := by decide +kernel
theorem dX0_build_67 : decode cX0_build 67 = .ok (.getfield 19, 3) := by decide +kernel
theorem dX0_build_70 : decode cX0_build 70 = .ok (.iconst 0, 1) := by decide +kernel
theorem dX0_build_71 : decode cX0_build 71 = .ok (.iaload, 1) := by decide +kernel
theorem dX0_build_72 : decode cX0_build 72 = .ok (.iconst 1, 1) := by decide +kernel
theorem dX0_build_73 : decode cX0_build 73 = .ok (.ior, 1) := by decide +kernel
theorem dX0_build_74 : decode cX0_build 74 = .ok (.goto 9, 3) := by decide +kernel
theorem dX0_build_77 : decode cX0_build 77 = .ok (.aload_n 0, 1) := by decide +kernel
theorem dX0_build_78 : decode cX0_build 78 = .ok (.getfield 19, 3) := by decide +kernel
theorem dX0_build_81 : decode cX0_build 81 = .ok (.iconst 0, 1) := by decide +kernel
theorem dX0_build_82 : decode cX0_build 82 = .ok (.iaload, 1) := by decide +kernel
theorem dX0_build_83 : decode cX0_build 83 = .ok (.putfield 48, 3) := by decide +kernel
theorem dX0_build_86 : decode cX0_build 86 = .ok (.return_, 1) := by decide +kernel
theorem dX0_accepts_0 : decode cX0_accepts 0 = .ok (.iload_n 1, 1) := by decide +kernel
theorem dX0_accepts_1 : decode cX0_accepts 1 = .ok (.aload_n 0, 1) := by decide +kernel
theorem dX0_accepts_2 : decode cX0_accepts 2 = .ok (.getfield 48, 3) := by decide +kernel
theorem dX0_accepts_5 : decode cX0_accepts 5 = .ok (.iand, 1) := by decide +kernel
theorem dX0_accepts_6 : decode cX0_accepts 6 = .ok (.ifCond .eq 7, 3) := by decide +kernel
theorem dX0_accepts_9 : decode cX0_accepts 9 = .ok (.iconst 1, 1) := by decide +kernel
theorem dX0_accepts_10 : decode cX0_accepts 10 = .ok (.goto 4, 3) := by decide +kernel
theorem dX0_accepts_13 : decode cX0_accepts 13 = .ok (.iconst 0, 1) := by decide +kernel
theorem dX0_accepts_14 : decode cX0_accepts 14 = .ok (.ireturn, 1) := by decide +kernel
theorem dX0_followersOf_0 : decode cX0_followersOf 0 = .ok (.iconst 0, 1) := by decide +kernel
theorem dX0_followersOf_1 : decode cX0_followersOf 1 = .ok (.istore_n 2, 1) := by decide +kernel
theorem dX0_followersOf_2 : decode cX0_followersOf 2 = .ok (.iconst 0, 1) := by decide +kernel
theorem dX0_followersOf_3 : decode cX0_followersOf 3 = .ok (.istore_n 3, 1) := by decide +kernel
theorem dX0_followersOf_4 : decode cX0_followersOf 4 = .ok (.iload_n 3, 1) := by decide +kernel
theorem dX0_followersOf_5 : decode cX0_followersOf 5 = .ok (.aload_n 0, 1) := by decide +kernel
theorem dX0_followersOf_6 : decode cX0_followersOf 6 = .ok (.getfield 34, 3) := by decide +kernel
theorem dX0_followersOf_9 : decode cX0_followersOf 9 = .ok (.if_icmp .ge 26, 3) := by decide +kernel
theorem dX0_followersOf_12 : decode cX0_followersOf 12 = .ok (.iload_n 1, 1) := by decide +kernel
theorem dX0_followersOf_13 : decode cX0_followersOf 13 = .ok (.iload_n 3, 1) := by decide +kernel
theorem dX0_followersOf_14 : decode cX0_followersOf 14 = .ok (.ishr, 1) := by decide +kernel
theorem dX0_followersOf_15 : decode cX0_followersOf 15 = .ok (.iconst 1, 1) := by decide +kernel
theorem dX0_followersOf_16 : decode cX0_followersOf 16 = .ok (.iand, 1) := by decide +kernel
theorem dX0_followersOf_17 : decode cX0_followersOf 17 = .ok (.ifCond .eq 12, 3) := by decide +kernel
theorem dX0_followersOf_20 : decode cX0_followersOf 20 = .ok (.iload_n 2, 1) := by decide +kernel
theorem dX0_followersOf_21 : decode cX0_followersOf 21 = .ok (.aload_n 0, 1) := by decide +kernel
theorem dX0_followersOf_22 : decode cX0_followersOf 22 = .ok (.getfield 22, 3) := by decide +kernel
theorem dX0_followersOf_25 : decode cX0_followersOf 25 = .ok (.iload_n 3, 1) := by decide +kernel
theorem dX0_followersOf_26 : decode cX0_followersOf 26 = .ok (.iaload, 1) := by decide +kernel
theorem dX0_followersOf_27 : decode cX0_followersOf 27 = .ok (.ior, 1) := by decide +kernel
theorem dX0_followersOf_28 : decode cX0_followersOf 28 = .ok (.istore_n 2, 1) := by decide +kernel
theorem dX0_followersOf_29 : decode cX0_followersOf 29 = .ok (.iinc 3 1, 3) := by decide +kernel
theorem dX0_followersOf_32 : decode cX0_followersOf 32 = .ok (.goto (-28), 3) := by decide +kernel
theorem dX0_followersOf_35 : decode cX0_followersOf 35 = .ok (.iload_n 2, 1) := by decide +kernel
theorem dX0_followersOf_36 : decode cX0_followersOf 36 = .ok (.ireturn, 1) := by decide +kernel
theorem dX0_readersOf_0 : decode cX0_readersOf 0 = .ok (.iload_n 1, 1) := by decide +kernel
theorem dX0_readersOf_1 : decode cX0_readersOf 1 = .ok (.ifCond .lt 19, 3) := by decide +kernel
theorem dX0_readersOf_4 : decode cX0_readersOf 4 = .ok (.iload_n 1, 1) := by decide +kernel
theorem dX0_readersOf_5 : decode cX0_readersOf 5 = .ok (.iconst 3, 1) := by decide +kernel
theorem dX0_readersOf_6 : decode cX0_readersOf 6 = .ok (.if_icmp .ge 14, 3) := by decide +kernel
theorem dX0_readersOf_9 : decode cX0_readersOf 9 = .ok (.aload_n 0, 1) := by decide +kernel
theorem dX0_readersOf_10 : decode cX0_readersOf 10 = .ok (.getfield 25, 3) := by decide +kernel
theorem dX0_readersOf_13 : decode cX0_readersOf 13 = .ok (.iload_n 1, 1) := by decide +kernel
theorem dX0_readersOf_14 : decode cX0_readersOf 14 = .ok (.iaload, 1) := by decide +kernel
theorem dX0_readersOf_15 : decode cX0_readersOf 15 = .ok (.iload_n 2, 1) := by decide +kernel
theorem dX0_readersOf_16 : decode cX0_readersOf 16 = .ok (.iand, 1) := by decide +kernel
theorem dX0_readersOf_17 : decode cX0_readersOf 17 = .ok (.goto 4, 3) := by decide +kernel
theorem dX0_readersOf_20 : decode cX0_readersOf 20 = .ok (.iconst 0, 1) := by decide +kernel
theorem dX0_readersOf_21 : decode cX0_readersOf 21 = .ok (.ireturn, 1) := by decide +kernel
set_option maxRecDepth 20000 in
theorem ggX0_acceptedWords_X0_wordsFrom : GoodIn wsX0_acceptedWords wsX0_wordsFrom := goodIn_r _ [4, 5, 6, 7, 3, 8, 9, 10, 11, 12, 13, 14, 15, 16, 17, 18, 19, 20, 1, 2, 21, 22, 23, 24, 25, 26, 27] rfl (by decide +kernel)
set_option maxRecDepth 20000 in
theorem gX0_acceptedWords_X0_wordsFrom : GoodIn wsX0_acceptedWords (va_wsS RX0 51 yX0_wordsFrom wsX0_wordsFrom) := goodIn_app (goodIn_of _ (by decide +kernel)) ggX0_acceptedWords_X0_wordsFrom
theorem dX0_acceptedWords_0 : decode cX0_acceptedWords 0 = .ok (.aload_n 0, 1) := by decide +kernel
theorem dX0_acceptedWords_1 : decode cX0_acceptedWords 1 = .ok (.iconst 1, 1) := by decide +kernel
theorem dX0_acceptedWords_2 : decode cX0_acceptedWords 2 = .ok (.iload_n 1, 1) := by decide +kernel
theorem dX0_acceptedWords_3 : decode cX0_acceptedWords 3 = .ok (.invokestatic 51, 3) := by decide +kernel
theorem dX0_acceptedWords_6 : decode cX0_acceptedWords 6 = .ok (.ireturn, 1) := by decide +kernel
set_option maxRecDepth 20000 in
theorem ggX0_wordsFrom_X0_accepts : GoodIn wsX0_wordsFrom wsX0_accepts := goodIn_r _ [5, 6, 20, 21, 22, 23, 24, 25, 26] rfl (by decide +kernel)
set_option maxRecDepth 20000 in
theorem gX0_wordsFrom_X0_accepts : GoodIn wsX0_wordsFrom (wsV RX0 55 RX0 yX0_accepts wsX0_accepts) := goodIn_app (goodIn_of _ (by decide +kernel)) ggX0_wordsFrom_X0_accepts
set_option maxRecDepth 20000 in
theorem ggX0_wordsFrom_X0_followersOf : GoodIn wsX0_wordsFrom wsX0_followersOf := goodIn_r _ [10, 11, 12, 20, 21, 22, 23, 24, 25, 26] rfl (by decide +kernel)
set_option maxRecDepth 20000 in
theorem gX0_wordsFrom_X0_followersOf : GoodIn wsX0_wordsFrom (wsV RX0 59 RX0 yX0_followersOf wsX0_followersOf) := goodIn_app (goodIn_of _ (by decide +kernel)) ggX0_wordsFrom_X0_followersOf
set_option maxRecDepth 20000 in
theorem ggX0_wordsFrom_X0_readersOf : GoodIn wsX0_wordsFrom wsX0_readersOf := goodIn_r _ [16, 17, 20, 21, 22, 23, 24, 25, 26] rfl (by decide +kernel)
set_option maxRecDepth 20000 in
theorem gX0_wordsFrom_X0_readersOf : GoodIn wsX0_wordsFrom (wsV RX0 63 RX0 yX0_readersOf wsX0_readersOf) := goodIn_app (goodIn_of _ (by decide +kernel)) ggX0_wordsFrom_X0_readersOf
set_option maxRecDepth 20000 in
theorem ggX0_wordsFrom_X0_wordsFrom : GoodIn wsX0_wordsFrom wsX0_wordsFrom := goodIn_r _ [0, 1, 2, 3, 4, 5, 6, 7, 8, 9, 10, 11, 12, 13, 14, 15, 16, 17, 18, 19, 20, 21, 22, 23, 24, 25, 26] rfl (by decide +kernel)
set_option maxRecDepth 20000 in
theorem gX0_wordsFrom_X0_wordsFrom : GoodIn wsX0_wordsFrom (va_wsS RX0 51 yX0_wordsFrom wsX0_wordsFrom) := goodIn_app (goodIn_of _ (by decide +kernel)) ggX0_wordsFrom_X0_wordsFrom
theorem dX0_wordsFrom_0 : decode cX0_wordsFrom 0 = .ok (.iload_n 1, 1) := by decide +kernel
theorem dX0_wordsFrom_1 : decode cX0_wordsFrom 1 = .ok (.ifCond .ne 5, 3) := by decide +kernel
theorem dX0_wordsFrom_4 : decode cX0_wordsFrom 4 = .ok (.iconst 0, 1) := by decide +kernel
theorem dX0_wordsFrom_5 : decode cX0_wordsFrom 5 = .ok (.ireturn, 1) := by decide +kernel
theorem dX0_wordsFrom_6 : decode cX0_wordsFrom 6 = .ok (.iload_n 2, 1) := by decide +kernel
theorem dX0_wordsFrom_7 : decode cX0_wordsFrom 7 = .ok (.ifCond .le 9, 3) := by decide +kernel
theorem dX0_wordsFrom_10 : decode cX0_wordsFrom 10 = .ok (.iload_n 2, 1) := by decide +kernel
theorem dX0_wordsFrom_11 : decode cX0_wordsFrom 11 = .ok (.bipush 6, 2) := by decide +kernel
theorem dX0_wordsFrom_13 : decode cX0_wordsFrom 13 = .ok (.if_icmp .le 17, 3) := by decide +kernel
theorem dX0_wordsFrom_16 : decode cX0_wordsFrom 16 = .ok (.aload_n 0, 1) := by decide +kernel
theorem dX0_wordsFrom_17 : decode cX0_wordsFrom 17 = .ok (.iload_n 1, 1) := by decide +kernel
theorem dX0_wordsFrom_18 : decode cX0_wordsFrom 18 = .ok (.invokevirtual 55, 3) := by decide +kernel
theorem dX0_wordsFrom_21 : decode cX0_wordsFrom 21 = .ok (.ifCond .eq 7, 3) := by decide +kernel
theorem dX0_wordsFrom_24 : decode cX0_wordsFrom 24 = .ok (.iconst 1, 1) := by decide +kernel
theorem dX0_wordsFrom_25 : decode cX0_wordsFrom 25 = .ok (.goto 4, 3) := by decide +kernel
theorem dX0_wordsFrom_28 : decode cX0_wordsFrom 28 = .ok (.iconst 0, 1) := by decide +kernel
theorem dX0_wordsFrom_29 : decode cX0_wordsFrom 29 = .ok (.ireturn, 1) := by decide +kernel
theorem dX0_wordsFrom_30 : decode cX0_wordsFrom 30 = .ok (.aload_n 0, 1) := by decide +kernel
theorem dX0_wordsFrom_31 : decode cX0_wordsFrom 31 = .ok (.iload_n 1, 1) := by decide +kernel
theorem dX0_wordsFrom_32 : decode cX0_wordsFrom 32 = .ok (.invokevirtual 59, 3) := by decide +kernel
theorem dX0_wordsFrom_35 : decode cX0_wordsFrom 35 = .ok (.istore_n 3, 1) := by decide +kernel
theorem dX0_wordsFrom_36 : decode cX0_wordsFrom 36 = .ok (.iconst 0, 1) := by decide +kernel
theorem dX0_wordsFrom_37 : decode cX0_wordsFrom 37 = .ok (.istore 4, 2) := by decide +kernel
theorem dX0_wordsFrom_39 : decode cX0_wordsFrom 39 = .ok (.iconst 0, 1) := by decide +kernel
theorem dX0_wordsFrom_40 : decode cX0_wordsFrom 40 = .ok (.istore 5, 2) := by decide +kernel
theorem dX0_wordsFrom_42 : decode cX0_wordsFrom 42 = .ok (.iload 5, 2) := by decide +kernel
theorem dX0_wordsFrom_44 : decode cX0_wordsFrom 44 = .ok (.iconst 3, 1) := by decide +kernel
theorem dX0_wordsFrom_45 : decode cX0_wordsFrom 45 = .ok (.if_icmp .ge 28, 3) := by decide +kernel
theorem dX0_wordsFrom_48 : decode cX0_wordsFrom 48 = .ok (.iload 4, 2) := by decide +kernel
theorem dX0_wordsFrom_50 : decode cX0_wordsFrom 50 = .ok (.aload_n 0, 1) := by decide +kernel
theorem dX0_wordsFrom_51 : decode cX0_wordsFrom 51 = .ok (.aload_n 0, 1) := by decide +kernel
theorem dX0_wordsFrom_52 : decode cX0_wordsFrom 52 = .ok (.iload 5, 2) := by decide +kernel
theorem dX0_wordsFrom_54 : decode cX0_wordsFrom 54 = .ok (.iload_n 3, 1) := by decide +kernel
theorem dX0_wordsFrom_55 : decode cX0_wordsFrom 55 = .ok (.invokevirtual 63, 3) := by decide +kernel
theorem dX0_wordsFrom_58 : decode cX0_wordsFrom 58 = .ok (.iload_n 2, 1) := by decide +kernel
theorem dX0_wordsFrom_59 : decode cX0_wordsFrom 59 = .ok (.iconst 1, 1) := by decide +kernel
theorem dX0_wordsFrom_60 : decode cX0_wordsFrom 60 = .ok (.isub, 1) := by decide +kernel
theorem dX0_wordsFrom_61 : decode cX0_wordsFrom 61 = .ok (.invokestatic 51, 3) := by decide +kernel
theorem dX0_wordsFrom_64 : decode cX0_wordsFrom 64 = .ok (.iadd, 1) := by decide +kernel
theorem dX0_wordsFrom_65 : decode cX0_wordsFrom 65 = .ok (.istore 4, 2) := by decide +kernel
theorem dX0_wordsFrom_67 : decode cX0_wordsFrom 67 = .ok (.iinc 5 1, 3) := by decide +kernel
theorem dX0_wordsFrom_70 : decode cX0_wordsFrom 70 = .ok (.goto (-28), 3) := by decide +kernel
theorem dX0_wordsFrom_73 : decode cX0_wordsFrom 73 = .ok (.iload 4, 2) := by decide +kernel
theorem dX0_wordsFrom_75 : decode cX0_wordsFrom 75 = .ok (.ireturn, 1) := by decide +kernel
set_option maxRecDepth 20000 in
theorem ggX0_addNode_X3_leftOf : GoodIn wsX0_addNode wsX3_leftOf := goodIn_r _ [5] rfl (by decide +kernel)
set_option maxRecDepth 20000 in
theorem gX0_addNode_X3_leftOf : GoodIn wsX0_addNode (wsV RX0 67 RX3 yX3_leftOf wsX3_leftOf) := goodIn_app (goodIn_of _ (by decide +kernel)) ggX0_addNode_X3_leftOf
set_option maxRecDepth 20000 in
theorem ggX0_addNode_X3_rightOf : GoodIn wsX0_addNode wsX3_rightOf := goodIn_r _ [9, 10, 11, 44, 45, 46, 47] rfl (by decide +kernel)
set_option maxRecDepth 20000 in
theorem gX0_addNode_X3_rightOf : GoodIn wsX0_addNode (wsV RX0 70 RX3 yX3_rightOf wsX3_rightOf) := goodIn_app (goodIn_of _ (by decide +kernel)) ggX0_addNode_X3_rightOf
set_option maxRecDepth 20000 in
theorem ggX0_addNode_X3_kindAt : GoodIn wsX0_addNode wsX3_kindAt := goodIn_r _ [15, 10, 16, 44, 45, 46, 47] rfl (by decide +kernel)
set_option maxRecDepth 20000 in
theorem gX0_addNode_X3_kindAt : GoodIn wsX0_addNode (wsV RX0 73 RX3 yX3_kindAt wsX3_kindAt) := goodIn_app (goodIn_of _ (by decide +kernel)) ggX0_addNode_X3_kindAt
set_option maxRecDepth 20000 in
theorem ggX0_addNode_X0_addStar : GoodIn wsX0_addNode wsX0_addStar := goodIn_r _ [21, 22, 23, 24, 25, 26, 27, 20, 28, 29, 30, 48, 49, 50, 51, 52, 53, 54] rfl (by decide +kernel)
set_option maxRecDepth 20000 in
theorem gX0_addNode_X0_addStar : GoodIn wsX0_addNode (wsV RX0 76 RX0 yX0_addStar wsX0_addStar) := goodIn_app (goodIn_of _ (by decide +kernel)) ggX0_addNode_X0_addStar
set_option maxRecDepth 20000 in
theorem ggX0_addNode_X0_addUnion : GoodIn wsX0_addNode wsX0_addUnion := goodIn_r _ [34, 22, 23, 24, 48, 49, 50, 51, 52, 53, 54] rfl (by decide +kernel)
set_option maxRecDepth 20000 in
theorem gX0_addNode_X0_addUnion : GoodIn wsX0_addNode (wsV RX0 80 RX0 yX0_addUnion wsX0_addUnion) := goodIn_app (goodIn_of _ (by decide +kernel)) ggX0_addNode_X0_addUnion
set_option maxRecDepth 20000 in
theorem ggX0_addNode_X0_addConcatenation : GoodIn wsX0_addNode wsX0_addConcatenation := goodIn_r _ [38, 22, 23, 24, 25, 26, 27, 20, 28, 29, 30, 48, 49, 50, 51, 52, 53, 54] rfl (by decide +kernel)
set_option maxRecDepth 20000 in
theorem gX0_addNode_X0_addConcatenation : GoodIn wsX0_addNode (wsV RX0 84 RX0 yX0_addConcatenation wsX0_addConcatenation) := goodIn_app (goodIn_of _ (by decide +kernel)) ggX0_addNode_X0_addConcatenation
set_option maxRecDepth 20000 in
theorem ggX0_addNode_X0_addLeaf : GoodIn wsX0_addNode wsX0_addLeaf := goodIn_r _ [42, 29, 43, 22, 23, 24, 48, 49, 50, 51, 52, 53, 54] rfl (by decide +kernel)
set_option maxRecDepth 20000 in
theorem gX0_addNode_X0_addLeaf : GoodIn wsX0_addNode (wsV RX0 87 RX0 yX0_addLeaf wsX0_addLeaf) := goodIn_app (goodIn_of _ (by decide +kernel)) ggX0_addNode_X0_addLeaf
theorem dX0_addNode_0 : decode cX0_addNode 0 = .ok (.aload_n 1, 1) := by decide +kernel
theorem dX0_addNode_1 : decode cX0_addNode 1 = .ok (.iload_n 2, 1) := by decide +kernel
theorem dX0_addNode_2 : decode cX0_addNode 2 = .ok (.invokevirtual 67, 3) := by decide +kernel
theorem dX0_addNode_5 : decode cX0_addNode 5 = .ok (.istore_n 3, 1) := by decide +kernel
theorem dX0_addNode_6 : decode cX0_addNode 6 = .ok (.aload_n 1, 1) := by decide +kernel
theorem dX0_addNode_7 : decode cX0_addNode 7 = .ok (.iload_n 2, 1) := by decide +kernel
theorem dX0_addNode_8 : decode cX0_addNode 8 = .ok (.invokevirtual 70, 3) := by decide +kernel
theorem dX0_addNode_11 : decode cX0_addNode 11 = .ok (.istore 4, 2) := by decide +kernel
theorem dX0_addNode_13 : decode cX0_addNode 13 = .ok (.aload_n 1, 1) := by decide +kernel
theorem dX0_addNode_14 : decode cX0_addNode 14 = .ok (.iload_n 2, 1) := by decide +kernel
theorem dX0_addNode_15 : decode cX0_addNode 15 = .ok (.invokevirtual 73, 3) := by decide +kernel
theorem dX0_addNode_18 : decode cX0_addNode 18 = .ok (.istore 5, 2) := by decide +kernel
theorem dX0_addNode_20 : decode cX0_addNode 20 = .ok (.iload 5, 2) := by decide +kernel
theorem dX0_addNode_22 : decode cX0_addNode 22 = .ok (.bipush 8, 2) := by decide +kernel
theorem dX0_addNode_24 : decode cX0_addNode 24 = .ok (.if_icmp .ne 18, 3) := by decide +kernel
theorem dX0_addNode_27 : decode cX0_addNode 27 = .ok (.iload_n 3, 1) := by decide +kernel
theorem dX0_addNode_28 : decode cX0_addNode 28 = .ok (.bipush 18, 2) := by decide +kernel
theorem dX0_addNode_30 : decode cX0_addNode 30 = .ok (.if_icmp .ge 12, 3) := by decide +kernel
theorem dX0_addNode_33 : decode cX0_addNode 33 = .ok (.aload_n 0, 1) := by decide +kernel
theorem dX0_addNode_34 : decode cX0_addNode 34 = .ok (.iload_n 2, 1) := by decide +kernel
theorem dX0_addNode_35 : decode cX0_addNode 35 = .ok (.iload_n 3, 1) := by decide +kernel
theorem dX0_addNode_36 : decode cX0_addNode 36 = .ok (.invokevirtual 76, 3) := by decide +kernel
theorem dX0_addNode_39 : decode cX0_addNode 39 = .ok (.goto 72, 3) := by decide +kernel
theorem dX0_addNode_42 : decode cX0_addNode 42 = .ok (.iload 5, 2) := by decide +kernel
theorem dX0_addNode_44 : decode cX0_addNode 44 = .ok (.bipush 6, 2) := by decide +kernel
theorem dX0_addNode_46 : decode cX0_addNode 46 = .ok (.if_icmp .ne 27, 3) := by decide +kernel
theorem dX0_addNode_49 : decode cX0_addNode 49 = .ok (.iload_n 3, 1) := by decide +kernel
theorem dX0_addNode_50 : decode cX0_addNode 50 = .ok (.bipush 18, 2) := by decide +kernel
theorem dX0_addNode_52 : decode cX0_addNode 52 = .ok (.if_icmp .ge 21, 3) := by decide +kernel
theorem dX0_addNode_55 : decode cX0_addNode 55 = .ok (.iload 4, 2) := by decide +kernel
theorem dX0_addNode_57 : decode cX0_addNode 57 = .ok (.bipush 18, 2) := by decide +kernel
theorem dX0_addNode_59 : decode cX0_addNode 59 = .ok (.if_icmp .ge 14, 3) := by decide +kernel
theorem dX0_addNode_62 : decode cX0_addNode 62 = .ok (.aload_n 0, 1) := by decide +kernel
theorem dX0_addNode_63 : decode cX0_addNode 63 = .ok (.iload_n 2, 1) := by decide +kernel
theorem dX0_addNode_64 : decode cX0_addNode 64 = .ok (.iload_n 3, 1) := by decide +kernel
theorem dX0_addNode_65 : decode cX0_addNode 65 = .ok (.iload 4, 2) := by decide +kernel
theorem dX0_addNode_67 : decode cX0_addNode 67 = .ok (.invokevirtual 80, 3) := by decide +kernel
theorem dX0_addNode_70 : decode cX0_addNode 70 = .ok (.goto 41, 3) := by decide +kernel
theorem dX0_addNode_73 : decode cX0_addNode 73 = .ok (.iload 5, 2) := by decide +kernel
theorem dX0_addNode_75 : decode cX0_addNode 75 = .ok (.bipush 7, 2) := by decide +kernel
theorem dX0_addNode_77 : decode cX0_addNode 77 = .ok (.if_icmp .ne 27, 3) := by decide +kernel
theorem dX0_addNode_80 : decode cX0_addNode 80 = .ok (.iload_n 3, 1) := by decide +kernel
theorem dX0_addNode_81 : decode cX0_addNode 81 = .ok (.bipush 18, 2) := by decide +kernel
theorem dX0_addNode_83 : decode cX0_addNode 83 = .ok (.if_icmp .ge 21, 3) := by decide +kernel
theorem dX0_addNode_86 : decode cX0_addNode 86 = .ok (.iload 4, 2) := by decide +kernel
theorem dX0_addNode_88 : decode cX0_addNode 88 = .ok (.bipush 18, 2) := by decide +kernel
theorem dX0_addNode_90 : decode cX0_addNode 90 = .ok (.if_icmp .ge 14, 3) := by decide +kernel
theorem dX0_addNode_93 : decode cX0_addNode 93 = .ok (.aload_n 0, 1) := by decide +kernel
theorem dX0_addNode_94 : decode cX0_addNode 94 = .ok (.iload_n 2, 1) := by decide +kernel
theorem dX0_addNode_95 : decode cX0_addNode 95 = .ok (.iload_n 3, 1) := by decide +kernel
theorem dX0_addNode_96 : decode cX0_addNode 96 = .ok (.iload 4, 2) := by decide +kernel
theorem dX0_addNode_98 : decode cX0_addNode 98 = .ok (.invokevirtual 84, 3) := by decide +kernel
theorem dX0_addNode_101 : decode cX0_addNode 101 = .ok (.goto 10, 3) := by decide +kernel
theorem dX0_addNode_104 : decode cX0_addNode 104 = .ok (.aload_n 0, 1) := by decide +kernel
theorem dX0_addNode_105 : decode cX0_addNode 105 = .ok (.iload_n 2, 1) := by decide +kernel
theorem dX0_addNode_106 : decode cX0_addNode 106 = .ok (.iload 5, 2) := by decide +kernel
theorem dX0_addNode_108 : decode cX0_addNode 108 = .ok (.invokevirtual 87, 3) := by decide +kernel
theorem dX0_addNode_111 : decode cX0_addNode 111 = .ok (.return_, 1) := by decide +kernel
theorem dX0_addLeaf_0 : decode cX0_addLeaf 0 = .ok (.iconst 0, 1) := by decide +kernel
theorem dX0_addLeaf_1 : decode cX0_addLeaf 1 = .ok (.istore_n 3, 1) := by decide +kernel
theorem dX0_addLeaf_2 : decode cX0_addLeaf 2 = .ok (.iload_n 2, 1) := by decide +kernel
theorem dX0_addLeaf_3 : decode cX0_addLeaf 3 = .ok (.iconst 3, 1) := by decide +kernel
theorem dX0_addLeaf_4 : decode cX0_addLeaf 4 = .ok (.if_icmp .lt 46, 3) := by decide +kernel
theorem dX0_addLeaf_7 : decode cX0_addLeaf 7 = .ok (.iload_n 2, 1) := by decide +kernel
theorem dX0_addLeaf_8 : decode cX0_addLeaf 8 = .ok (.iconst 5, 1) := by decide +kernel
theorem dX0_addLeaf_9 : decode cX0_addLeaf 9 = .ok (.if_icmp .gt 41, 3) := by decide +kernel
theorem dX0_addLeaf_12 : decode cX0_addLeaf 12 = .ok (.aload_n 0, 1) := by decide +kernel
theorem dX0_addLeaf_13 : decode cX0_addLeaf 13 = .ok (.getfield 34, 3) := by decide +kernel
theorem dX0_addLeaf_16 : decode cX0_addLeaf 16 = .ok (.bipush 10, 2) := by decide +kernel
theorem dX0_addLeaf_18 : decode cX0_addLeaf 18 = .ok (.if_icmp .ge 32, 3) := by decide +kernel
theorem dX0_addLeaf_21 : decode cX0_addLeaf 21 = .ok (.iconst 1, 1) := by decide +kernel
theorem dX0_addLeaf_22 : decode cX0_addLeaf 22 = .ok (.aload_n 0, 1) := by decide +kernel
theorem dX0_addLeaf_23 : decode cX0_addLeaf 23 = .ok (.getfield 34, 3) := by decide +kernel
theorem dX0_addLeaf_26 : decode cX0_addLeaf 26 = .ok (.ishl, 1) := by decide +kernel
theorem dX0_addLeaf_27 : decode cX0_addLeaf 27 = .ok (.istore_n 3, 1) := by decide +kernel
theorem dX0_addLeaf_28 : decode cX0_addLeaf 28 = .ok (.aload_n 0, 1) := by decide +kernel
theorem dX0_addLeaf_29 : decode cX0_addLeaf 29 = .ok (.getfield 25, 3) := by decide +kernel
theorem dX0_addLeaf_32 : decode cX0_addLeaf 32 = .ok (.iload_n 2, 1) := by decide +kernel
theorem dX0_addLeaf_33 : decode cX0_addLeaf 33 = .ok (.iconst 3, 1) := by decide +kernel
theorem dX0_addLeaf_34 : decode cX0_addLeaf 34 = .ok (.isub, 1) := by decide +kernel
theorem dX0_addLeaf_35 : decode cX0_addLeaf 35 = .ok (.dup2, 1) := by decide +kernel
theorem dX0_addLeaf_36 : decode cX0_addLeaf 36 = .ok (.iaload, 1) := by decide +kernel
theorem dX0_addLeaf_37 : decode cX0_addLeaf 37 = .ok (.iload_n 3, 1) := by decide +kernel
theorem dX0_addLeaf_38 : decode cX0_addLeaf 38 = .ok (.ior, 1) := by decide +kernel
theorem dX0_addLeaf_39 : decode cX0_addLeaf 39 = .ok (.iastore, 1) := by decide +kernel
theorem dX0_addLeaf_40 : decode cX0_addLeaf 40 = .ok (.aload_n 0, 1) := by decide +kernel
theorem dX0_addLeaf_41 : decode cX0_addLeaf 41 = .ok (.dup, 1) := by decide +kernel
theorem dX0_addLeaf_42 : decode cX0_addLeaf 42 = .ok (.getfield 34, 3) := by decide +kernel
theorem dX0_addLeaf_45 : decode cX0_addLeaf 45 = .ok (.iconst 1, 1) := by decide +kernel
theorem dX0_addLeaf_46 : decode cX0_addLeaf 46 = .ok (.iadd, 1) := by decide +kernel
theorem dX0_addLeaf_47 : decode cX0_addLeaf 47 = .ok (.putfield 34, 3) := by decide +kernel
theorem dX0_addLeaf_50 : decode cX0_addLeaf 50 = .ok (.aload_n 0, 1) := by decide +kernel
theorem dX0_addLeaf_51 : decode cX0_addLeaf 51 = .ok (.getfield 11, 3) := by decide +kernel
theorem dX0_addLeaf_54 : decode cX0_addLeaf 54 = .ok (.iload_n 1, 1) := by decide +kernel
theorem dX0_addLeaf_55 : decode cX0_addLeaf 55 = .ok (.iload_n 2, 1) := by decide +kernel
theorem dX0_addLeaf_56 : decode cX0_addLeaf 56 = .ok (.iconst 2, 1) := by decide +kernel
theorem dX0_addLeaf_57 : decode cX0_addLeaf 57 = .ok (.if_icmp .ne 7, 3) := by decide +kernel
theorem dX0_addLeaf_60 : decode cX0_addLeaf 60 = .ok (.iconst 1, 1) := by decide +kernel
theorem dX0_addLeaf_61 : decode cX0_addLeaf 61 = .ok (.goto 4, 3) := by decide +kernel
theorem dX0_addLeaf_64 : decode cX0_addLeaf 64 = .ok (.iconst 0, 1) := by decide +kernel
theorem dX0_addLeaf_65 : decode cX0_addLeaf 65 = .ok (.bastore, 1) := by decide +kernel
theorem dX0_addLeaf_66 : decode cX0_addLeaf 66 = .ok (.aload_n 0, 1) := by decide +kernel
theorem dX0_addLeaf_67 : decode cX0_addLeaf 67 = .ok (.getfield 15, 3) := by decide +kernel
theorem dX0_addLeaf_70 : decode cX0_addLeaf 70 = .ok (.iload_n 1, 1) := by decide +kernel
theorem dX0_addLeaf_71 : decode cX0_addLeaf 71 = .ok (.iload_n 3, 1) := by decide +kernel
theorem dX0_addLeaf_72 : decode cX0_addLeaf 72 = .ok (.iastore, 1) := by decide +kernel
theorem dX0_addLeaf_73 : decode cX0_addLeaf 73 = .ok (.aload_n 0, 1) := by decide +kernel
theorem dX0_addLeaf_74 : decode cX0_addLeaf 74 = .ok (.getfield 19, 3) := by decide +kernel
theorem dX0_addLeaf_77 : decode cX0_addLeaf 77 = .ok (.iload_n 1, 1) := by decide +kernel
theorem dX0_addLeaf_78 : decode cX0_addLeaf 78 = .ok (.iload_n 3, 1) := by decide +kernel
theorem dX0_addLeaf_79 : decode cX0_addLeaf 79 = .ok (.iastore, 1) := by decide +kernel
theorem dX0_addLeaf_80 : decode cX0_addLeaf 80 = .ok (.return_, 1) := by decide +kernel
set_option maxRecDepth 20000 in
theorem ggX0_addStar_X0_link : GoodIn wsX0_addStar wsX0_link := goodIn_r _ [8, 9, 10, 11, 12, 13, 14, 15, 16, 17] rfl (by decide +kernel)
set_option maxRecDepth 20000 in
theorem gX0_addStar_X0_link : GoodIn wsX0_addStar (wsV RX0 90 RX0 yX0_link wsX0_link) := goodIn_app (goodIn_of _ (by decide +kernel)) ggX0_addStar_X0_link
theorem dX0_addStar_0 : decode cX0_addStar 0 = .ok (.aload_n 0, 1) := by decide +kernel
theorem dX0_addStar_1 : decode cX0_addStar 1 = .ok (.getfield 11, 3) := by decide +kernel
theorem dX0_addStar_4 : decode cX0_addStar 4 = .ok (.iload_n 1, 1) := by decide +kernel
theorem dX0_addStar_5 : decode cX0_addStar 5 = .ok (.iconst 1, 1) := by decide +kernel
theorem dX0_addStar_6 : decode cX0_addStar 6 = .ok (.bastore, 1) := by decide +kernel
theorem dX0_addStar_7 : decode cX0_addStar 7 = .ok (.aload_n 0, 1) := by decide +kernel
theorem dX0_addStar_8 : decode cX0_addStar 8 = .ok (.getfield 15, 3) := by decide +kernel
theorem dX0_addStar_11 : decode cX0_addStar 11 = .ok (.iload_n 1, 1) := by decide +kernel
theorem dX0_addStar_12 : decode cX0_addStar 12 = .ok (.aload_n 0, 1) := by decide +kernel
theorem dX0_addStar_13 : decode cX0_addStar 13 = .ok (.getfield 15, 3) := by decide +kernel
theorem dX0_addStar_16 : decode cX0_addStar 16 = .ok (.iload_n 2, 1) := by decide +kernel
theorem dX0_addStar_17 : decode cX0_addStar 17 = .ok (.iaload, 1) := by decide +kernel
theorem dX0_addStar_18 : decode cX0_addStar 18 = .ok (.iastore, 1) := by decide +kernel
theorem dX0_addStar_19 : decode cX0_addStar 19 = .ok (.aload_n 0, 1) := by decide +kernel
theorem dX0_addStar_20 : decode cX0_addStar 20 = .ok (.getfield 19, 3) := by decide +kernel
theorem dX0_addStar_23 : decode cX0_addStar 23 = .ok (.iload_n 1, 1) := by decide +kernel
theorem dX0_addStar_24 : decode cX0_addStar 24 = .ok (.aload_n 0, 1) := by decide +kernel
theorem dX0_addStar_25 : decode cX0_addStar 25 = .ok (.getfield 19, 3) := by decide +kernel
theorem dX0_addStar_28 : decode cX0_addStar 28 = .ok (.iload_n 2, 1) := by decide +kernel
theorem dX0_addStar_29 : decode cX0_addStar 29 = .ok (.iaload, 1) := by decide +kernel
theorem dX0_addStar_30 : decode cX0_addStar 30 = .ok (.iastore, 1) := by decide +kernel
theorem dX0_addStar_31 : decode cX0_addStar 31 = .ok (.aload_n 0, 1) := by decide +kernel
theorem dX0_addStar_32 : decode cX0_addStar 32 = .ok (.aload_n 0, 1) := by decide +kernel
theorem dX0_addStar_33 : decode cX0_addStar 33 = .ok (.getfield 19, 3) := by decide +kernel
theorem dX0_addStar_36 : decode cX0_addStar 36 = .ok (.iload_n 2, 1) := by decide +kernel
theorem dX0_addStar_37 : decode cX0_addStar 37 = .ok (.iaload, 1) := by decide +kernel
theorem dX0_addStar_38 : decode cX0_addStar 38 = .ok (.aload_n 0, 1) := by decide +kernel
theorem dX0_addStar_39 : decode cX0_addStar 39 = .ok (.getfield 15, 3) := by decide +kernel
theorem dX0_addStar_42 : decode cX0_addStar 42 = .ok (.iload_n 2, 1) := by decide +kernel
theorem dX0_addStar_43 : decode cX0_addStar 43 = .ok (.iaload, 1) := by decide +kernel
theorem dX0_addStar_44 : decode cX0_addStar 44 = .ok (.invokevirtual 90, 3) := by decide +kernel
theorem dX0_addStar_47 : decode cX0_addStar 47 = .ok (.return_, 1) := by decide +kernel
theorem dX0_addUnion_0 : decode cX0_addUnion 0 = .ok (.aload_n 0, 1) := by decide +kernel
theorem dX0_addUnion_1 : decode cX0_addUnion 1 = .ok (.getfield 11, 3) := by decide +kernel
theorem dX0_addUnion_4 : decode cX0_addUnion 4 = .ok (.iload_n 1, 1) := by decide +kernel
theorem dX0_addUnion_5 : decode cX0_addUnion 5 = .ok (.aload_n 0, 1) := by decide +kernel
theorem dX0_addUnion_6 : decode cX0_addUnion 6 = .ok (.getfield 11, 3) := by decide +kernel
theorem dX0_addUnion_9 : decode cX0_addUnion 9 = .ok (.iload_n 2, 1) := by decide +kernel
theorem dX0_addUnion_10 : decode cX0_addUnion 10 = .ok (.baload, 1) := by decide +kernel
theorem dX0_addUnion_11 : decode cX0_addUnion 11 = .ok (.ifCond .ne 12, 3) := by decide +kernel
theorem dX0_addUnion_14 : decode cX0_addUnion 14 = .ok (.aload_n 0, 1) := by decide +kernel
theorem dX0_addUnion_15 : decode cX0_addUnion 15 = .ok (.getfield 11, 3) := by decide +kernel
theorem dX0_addUnion_18 : decode cX0_addUnion 18 = .ok (.iload_n 3, 1) := by decide +kernel
theorem dX0_addUnion_19 : decode cX0_addUnion 19 = .ok (.baload, 1) := by decide +kernel
theorem dX0_addUnion_20 : decode cX0_addUnion 20 = .ok (.ifCond .eq 7, 3) := by decide +kernel
theorem dX0_addUnion_23 : decode cX0_addUnion 23 = .ok (.iconst 1, 1) := by decide +kernel
theorem dX0_addUnion_24 : decode cX0_addUnion 24 = .ok (.goto 4, 3) := by decide +kernel
theorem dX0_addUnion_27 : decode cX0_addUnion 27 = .ok (.iconst 0, 1) := by decide +kernel
theorem dX0_addUnion_28 : decode cX0_addUnion 28 = .ok (.bastore, 1) := by decide +kernel
theorem dX0_addUnion_29 : decode cX0_addUnion 29 = .ok (.aload_n 0, 1) := by decide +kernel
theorem dX0_addUnion_30 : decode cX0_addUnion 30 = .ok (.getfield 15, 3) := by decide +kernel
theorem dX0_addUnion_33 : decode cX0_addUnion 33 = .ok (.iload_n 1, 1) := by decide +kernel
theorem dX0_addUnion_34 : decode cX0_addUnion 34 = .ok (.aload_n 0, 1) := by decide +kernel
theorem dX0_addUnion_35 : decode cX0_addUnion 35 = .ok (.getfield 15, 3) := by decide +kernel
theorem dX0_addUnion_38 : decode cX0_addUnion 38 = .ok (.iload_n 2, 1) := by decide +kernel
theorem dX0_addUnion_39 : decode cX0_addUnion 39 = .ok (.iaload, 1) := by decide +kernel
theorem dX0_addUnion_40 : decode cX0_addUnion 40 = .ok (.aload_n 0, 1) := by decide +kernel
theorem dX0_addUnion_41 : decode cX0_addUnion 41 = .ok (.getfield 15, 3) := by decide +kernel
theorem dX0_addUnion_44 : decode cX0_addUnion 44 = .ok (.iload_n 3, 1) := by decide +kernel
theorem dX0_addUnion_45 : decode cX0_addUnion 45 = .ok (.iaload, 1) := by decide +kernel
theorem dX0_addUnion_46 : decode cX0_addUnion 46 = .ok (.ior, 1) := by decide +kernel
theorem dX0_addUnion_47 : decode cX0_addUnion 47 = .ok (.iastore, 1) := by decide +kernel
theorem dX0_addUnion_48 : decode cX0_addUnion 48 = .ok (.aload_n 0, 1) := by decide +kernel
theorem dX0_addUnion_49 : decode cX0_addUnion 49 = .ok (.getfield 19, 3) := by decide +kernel
theorem dX0_addUnion_52 : decode cX0_addUnion 52 = .ok (.iload_n 1, 1) := by decide +kernel
theorem dX0_addUnion_53 : decode cX0_addUnion 53 = .ok (.aload_n 0, 1) := by decide +kernel
theorem dX0_addUnion_54 : decode cX0_addUnion 54 = .ok (.getfield 19, 3) := by decide +kernel
theorem dX0_addUnion_57 : decode cX0_addUnion 57 = .ok (.iload_n 2, 1) := by decide +kernel
theorem dX0_addUnion_58 : decode cX0_addUnion 58 = .ok (.iaload, 1) := by decide +kernel
theorem dX0_addUnion_59 : decode cX0_addUnion 59 = .ok (.aload_n 0, 1) := by decide +kernel
theorem dX0_addUnion_60 : decode cX0_addUnion 60 = .ok (.getfield 19, 3) := by decide +kernel
theorem dX0_addUnion_63 : decode cX0_addUnion 63 = .ok (.iload_n 3, 1) := by decide +kernel
theorem dX0_addUnion_64 : decode cX0_addUnion 64 = .ok (.iaload, 1) := by decide +kernel
theorem dX0_addUnion_65 : decode cX0_addUnion 65 = .ok (.ior, 1) := by decide +kernel
theorem dX0_addUnion_66 : decode cX0_addUnion 66 = .ok (.iastore, 1) := by decide +kernel
theorem dX0_addUnion_67 : decode cX0_addUnion 67 = .ok (.return_, 1) := by decide +kernel
set_option maxRecDepth 20000 in
theorem ggX0_addConcatenation_X0_link : GoodIn wsX0_addConcatenation wsX0_link := goodIn_r _ [8, 9, 10, 11, 12, 13, 14, 15, 16, 17] rfl (by decide +kernel)
set_option maxRecDepth 20000 in
theorem gX0_addConcatenation_X0_link : GoodIn wsX0_addConcatenation (wsV RX0 90 RX0 yX0_link wsX0_link) := goodIn_app (goodIn_of _ (by decide +kernel)) ggX0_addConcatenation_X0_link
theorem dX0_addConcatenation_0 : decode cX0_addConcatenation 0 = .ok (.aload_n 0, 1) := by decide +kernel
theorem dX0_addConcatenation_1 : decode cX0_addConcatenation 1 = .ok (.getfield 11, 3) := by decide +kernel
theorem dX0_addConcatenation_4 : decode cX0_addConcatenation 4 = .ok (.iload_n 1, 1) := by decide +kernel
theorem dX0_addConcatenation_5 : decode cX0_addConcatenation 5 = .ok (.aload_n 0, 1) := by decide +kernel
theorem dX0_addConcatenation_6 : decode cX0_addConcatenation 6 = .ok (.getfield 11, 3) := by decide +kernel
theorem dX0_addConcatenation_9 : decode cX0_addConcatenation 9 = .ok (.iload_n 2, 1) := by decide +kernel
theorem dX0_addConcatenation_10 : decode cX0_addConcatenation 10 = .ok (.baload, 1) := by decide +kernel
theorem dX0_addConcatenation_11 : decode cX0_addConcatenation 11 = .ok (.ifCond .eq 16, 3) := by decide +kernel
theorem dX0_addConcatenation_14 : decode cX0_addConcatenation 14 = .ok (.aload_n 0, 1) := by decide +kernel
theorem dX0_addConcatenation_15 : decode cX0_addConcatenation 15 = .ok (.getfield 11, 3) := by decide +kernel
theorem dX0_addConcatenation_18 : decode cX0_addConcatenation 18 = .ok (.iload_n 3, 1) := by decide +kernel
theorem dX0_addConcatenation_19 : decode cX0_addConcatenation 19 = .ok (.baload, 1) := by decide +kernel
theorem dX0_addConcatenation_20 : decode cX0_addConcatenation 20 = .ok (.ifCond .eq 7, 3) := by decide +kernel
theorem dX0_addConcatenation_23 : decode cX0_addConcatenation 23 = .ok (.iconst 1, 1) := by decide +kernel
theorem dX0_addConcatenation_24 : decode cX0_addConcatenation 24 = .ok (.goto 4, 3) := by decide +kernel
theorem dX0_addConcatenation_27 : decode cX0_addConcatenation 27 = .ok (.iconst 0, 1) := by decide +kernel
theorem dX0_addConcatenation_28 : decode cX0_addConcatenation 28 = .ok (.bastore, 1) := by decide +kernel
theorem dX0_addConcatenation_29 : decode cX0_addConcatenation 29 = .ok (.aload_n 0, 1) := by decide +kernel
