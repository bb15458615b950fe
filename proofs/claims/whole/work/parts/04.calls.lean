theorem wsL_law_x0 : ∀ w ∈ (vx_atS RX2 23 "java/lang/IllegalArgumentException" ["java/lang/RuntimeException", "java/lang/Exception"]).filter goodWord, w ∈ lw_tbl := by decide +kernel
theorem wsL_law_x1 : ∀ w ∈ (vx_atS RX2 40 "java/lang/IllegalStateException" ["java/lang/RuntimeException", "java/lang/Exception"]).filter goodWord, w ∈ lw_tbl := by decide +kernel
theorem wsL_law_x2 : ∀ w ∈ (vx_atS RX2 56 "java/lang/IndexOutOfBoundsException" ["java/lang/RuntimeException", "java/lang/Exception"]).filter goodWord, w ∈ lw_tbl := by decide +kernel
theorem wsL_law_in : ∀ w ∈ wsL_law, w ∈ lw_tbl := fun w h => (List.mem_append.mp h).elim (fun h => (List.mem_append.mp h).elim (fun h => (List.mem_append.mp h).elim (fun h => wsL_law_in0 w h) (fun h => wsL_law_x0 w h)) (fun h => wsL_law_x1 w h)) (fun h => wsL_law_x2 w h)
theorem inlX0 : ∀ w ∈ wsX00, w ∈ wsL_law := fun _ h => List.mem_append_left _ (List.mem_append_left _ (List.mem_append_left _ (List.mem_append_left _ (List.mem_append_left _ (List.mem_append_left _ (List.mem_append_right _ h))))))
theorem inX0 : ∀ w ∈ wsX00, w ∈ lw_tbl := fun w h => wsL_law_in w (inlX0 w h)
theorem inlX1 : ∀ w ∈ wsX10, w ∈ wsL_law := fun _ h => List.mem_append_left _ (List.mem_append_left _ (List.mem_append_left _ (List.mem_append_left _ (List.mem_append_left _ (List.mem_append_right _ h)))))
theorem inX1 : ∀ w ∈ wsX10, w ∈ lw_tbl := fun w h => wsL_law_in w (inlX1 w h)
theorem inlX2 : ∀ w ∈ wsX20, w ∈ wsL_law := fun _ h => List.mem_append_left _ (List.mem_append_left _ (List.mem_append_left _ (List.mem_append_left _ (List.mem_append_left _ (List.mem_append_left _ (List.mem_append_left _ (List.mem_append_left _ (List.mem_append_right _ h))))))))
theorem inX2 : ∀ w ∈ wsX20, w ∈ lw_tbl := fun w h => wsL_law_in w (inlX2 w h)
theorem inlX3 : ∀ w ∈ wsX30, w ∈ wsL_law := fun _ h => List.mem_append_left _ (List.mem_append_left _ (List.mem_append_left _ (List.mem_append_left _ (List.mem_append_right _ h))))
theorem inX3 : ∀ w ∈ wsX30, w ∈ lw_tbl := fun w h => wsL_law_in w (inlX3 w h)
theorem inlX4 : ∀ w ∈ wsX40, w ∈ wsL_law := fun _ h => List.mem_append_left _ (List.mem_append_left _ (List.mem_append_left _ (List.mem_append_left _ (List.mem_append_left _ (List.mem_append_left _ (List.mem_append_left _ (List.mem_append_right _ h)))))))
theorem inX4 : ∀ w ∈ wsX40, w ∈ lw_tbl := fun w h => wsL_law_in w (inlX4 w h)
theorem inJ9 : ∀ w ∈ wsJ90, w ∈ lw_tbl := by decide +kernel
theorem inJ0 : ∀ w ∈ wsJ00, w ∈ lw_tbl := by decide +kernel
theorem inJ10 : ∀ w ∈ wsJ100, w ∈ lw_tbl := by decide +kernel
set_option maxRecDepth 20000 in
theorem ggX0_init_X1_init : GoodIn wsX0_init wsX1_init := goodIn_r _ [20, 21, 2, 3, 22, 23, 24, 25, 10, 26, 27, 28, 29, 30, 31, 32, 33, 45, 46, 47, 48, 49, 50, 51, 52, 53, 54, 55, 56] (by decide +kernel) (by decide +kernel)
set_option maxRecDepth 20000 in
theorem gX0_init_X1_init_n36 : GoodIn wsX0_init (wsX1_init) := ggX0_init_X1_init
theorem dX0_init_0 : decode cX0_init 0 = .ok (.aload_n 0, 1) := by decide +kernel
theorem dX0_init_1 : decode cX0_init 1 = .ok (.invokespecial 3, 3) := by decide +kernel
theorem dX0_init_4 : decode cX0_init 4 = .ok (.aload_n 0, 1) := by decide +kernel
theorem dX0_init_5 : decode cX0_init 5 = .ok (.iconst 0, 1) := by decide +kernel
theorem dX0_init_6 : decode cX0_init 6 = .ok (.putfield 9, 3) := by decide +kernel
theorem dX0_init_9 : decode cX0_init 9 = .ok (.aload_n 0, 1) := by decide +kernel
theorem dX0_init_10 : decode cX0_init 10 = .ok (.iconst 0, 1) := by decide +kernel
theorem dX0_init_11 : decode cX0_init 11 = .ok (.putfield 15, 3) := by decide +kernel
theorem dX0_init_14 : decode cX0_init 14 = .ok (.aload_n 0, 1) := by decide +kernel
theorem dX0_init_15 : decode cX0_init 15 = .ok (.bipush 15, 2) := by decide +kernel
theorem dX0_init_17 : decode cX0_init 17 = .ok (.putfield 18, 3) := by decide +kernel
theorem dX0_init_20 : decode cX0_init 20 = .ok (.aload_n 0, 1) := by decide +kernel
theorem dX0_init_21 : decode cX0_init 21 = .ok (.iconst 0, 1) := by decide +kernel
theorem dX0_init_22 : decode cX0_init 22 = .ok (.putfield 21, 3) := by decide +kernel
theorem dX0_init_25 : decode cX0_init 25 = .ok (.aload_n 0, 1) := by decide +kernel
theorem dX0_init_26 : decode cX0_init 26 = .ok (.iconst 0, 1) := by decide +kernel
theorem dX0_init_27 : decode cX0_init 27 = .ok (.putfield 24, 3) := by decide +kernel
theorem dX0_init_30 : decode cX0_init 30 = .ok (.aload_n 0, 1) := by decide +kernel
theorem dX0_init_31 : decode cX0_init 31 = .ok (.iconst 0, 1) := by decide +kernel
theorem dX0_init_32 : decode cX0_init 32 = .ok (.putfield 27, 3) := by decide +kernel
theorem dX0_init_35 : decode cX0_init 35 = .ok (.aload_n 0, 1) := by decide +kernel
theorem dX0_init_36 : decode cX0_init 36 = .ok (.bipush 8, 2) := by decide +kernel
theorem dX0_init_38 : decode cX0_init 38 = .ok (.newarray .int, 2) := by decide +kernel
theorem dX0_init_40 : decode cX0_init 40 = .ok (.putfield 30, 3) := by decide +kernel
theorem dX0_init_43 : decode cX0_init 43 = .ok (.aload_n 0, 1) := by decide +kernel
theorem dX0_init_44 : decode cX0_init 44 = .ok (.new 34, 3) := by decide +kernel
theorem dX0_init_47 : decode cX0_init 47 = .ok (.dup, 1) := by decide +kernel
theorem dX0_init_48 : decode cX0_init 48 = .ok (.invokespecial 36, 3) := by decide +kernel
theorem dX0_init_51 : decode cX0_init 51 = .ok (.putfield 37, 3) := by decide +kernel
theorem dX0_init_54 : decode cX0_init 54 = .ok (.aload_n 0, 1) := by decide +kernel
theorem dX0_init_55 : decode cX0_init 55 = .ok (.iconst (-1), 1) := by decide +kernel
theorem dX0_init_56 : decode cX0_init 56 = .ok (.putfield 41, 3) := by decide +kernel
theorem dX0_init_59 : decode cX0_init 59 = .ok (.aload_n 0, 1) := by decide +kernel
theorem dX0_init_60 : decode cX0_init 60 = .ok (.iconst 0, 1) := by decide +kernel
theorem dX0_init_61 : decode cX0_init 61 = .ok (.putfield 44, 3) := by decide +kernel
theorem dX0_init_64 : decode cX0_init 64 = .ok (.aload_n 0, 1) := by decide +kernel
theorem dX0_init_65 : decode cX0_init 65 = .ok (.iconst 0, 1) := by decide +kernel
theorem dX0_init_66 : decode cX0_init 66 = .ok (.putfield 47, 3) := by decide +kernel
theorem dX0_init_69 : decode cX0_init 69 = .ok (.return_, 1) := by decide +kernel
set_option maxRecDepth 20000 in
theorem ggX0_copyFrom_X1_copyFrom : GoodIn wsX0_copyFrom wsX1_copyFrom := goodIn_r _ [20, 21, 22, 23, 24, 25, 26, 9, 10, 11, 27, 28, 29, 30, 31, 32, 33, 45, 46, 47, 48, 49, 50, 51, 52, 53, 54, 55, 56] (by decide +kernel) (by decide +kernel)
set_option maxRecDepth 20000 in
theorem gX0_copyFrom_X1_copyFrom : GoodIn wsX0_copyFrom (wsV RX0 57 RX1 yX1_copyFrom wsX1_copyFrom) := goodIn_app (goodIn_of _ (by decide +kernel)) ggX0_copyFrom_X1_copyFrom
theorem dX0_copyFrom_0 : decode cX0_copyFrom 0 = .ok (.aload_n 0, 1) := by decide +kernel
theorem dX0_copyFrom_1 : decode cX0_copyFrom 1 = .ok (.aload_n 1, 1) := by decide +kernel
theorem dX0_copyFrom_2 : decode cX0_copyFrom 2 = .ok (.getfield 9, 3) := by decide +kernel
theorem dX0_copyFrom_5 : decode cX0_copyFrom 5 = .ok (.putfield 9, 3) := by decide +kernel
theorem dX0_copyFrom_8 : decode cX0_copyFrom 8 = .ok (.aload_n 0, 1) := by decide +kernel
theorem dX0_copyFrom_9 : decode cX0_copyFrom 9 = .ok (.aload_n 1, 1) := by decide +kernel
theorem dX0_copyFrom_10 : decode cX0_copyFrom 10 = .ok (.getfield 15, 3) := by decide +kernel
theorem dX0_copyFrom_13 : decode cX0_copyFrom 13 = .ok (.putfield 15, 3) := by decide +kernel
theorem dX0_copyFrom_16 : decode cX0_copyFrom 16 = .ok (.aload_n 0, 1) := by decide +kernel
theorem dX0_copyFrom_17 : decode cX0_copyFrom 17 = .ok (.aload_n 1, 1) := by decide +kernel
theorem dX0_copyFrom_18 : decode cX0_copyFrom 18 = .ok (.getfield 18, 3) := by decide +kernel
theorem dX0_copyFrom_21 : decode cX0_copyFrom 21 = .ok (.putfield 18, 3) := by decide +kernel
theorem dX0_copyFrom_24 : decode cX0_copyFrom 24 = .ok (.aload_n 0, 1) := by decide +kernel
theorem dX0_copyFrom_25 : decode cX0_copyFrom 25 = .ok (.aload_n 1, 1) := by decide +kernel
theorem dX0_copyFrom_26 : decode cX0_copyFrom 26 = .ok (.getfield 21, 3) := by decide +kernel
theorem dX0_copyFrom_29 : decode cX0_copyFrom 29 = .ok (.putfield 21, 3) := by decide +kernel
theorem dX0_copyFrom_32 : decode cX0_copyFrom 32 = .ok (.aload_n 0, 1) := by decide +kernel
theorem dX0_copyFrom_33 : decode cX0_copyFrom 33 = .ok (.aload_n 1, 1) := by decide +kernel
theorem dX0_copyFrom_34 : decode cX0_copyFrom 34 = .ok (.getfield 24, 3) := by decide +kernel
theorem dX0_copyFrom_37 : decode cX0_copyFrom 37 = .ok (.putfield 24, 3) := by decide +kernel
theorem dX0_copyFrom_40 : decode cX0_copyFrom 40 = .ok (.aload_n 0, 1) := by decide +kernel
theorem dX0_copyFrom_41 : decode cX0_copyFrom 41 = .ok (.aload_n 1, 1) := by decide +kernel
theorem dX0_copyFrom_42 : decode cX0_copyFrom 42 = .ok (.getfield 27, 3) := by decide +kernel
theorem dX0_copyFrom_45 : decode cX0_copyFrom 45 = .ok (.putfield 27, 3) := by decide +kernel
theorem dX0_copyFrom_48 : decode cX0_copyFrom 48 = .ok (.aload_n 1, 1) := by decide +kernel
theorem dX0_copyFrom_49 : decode cX0_copyFrom 49 = .ok (.getfield 30, 3) := by decide +kernel
theorem dX0_copyFrom_52 : decode cX0_copyFrom 52 = .ok (.iconst 0, 1) := by decide +kernel
theorem dX0_copyFrom_53 : decode cX0_copyFrom 53 = .ok (.aload_n 0, 1) := by decide +kernel
theorem dX0_copyFrom_54 : decode cX0_copyFrom 54 = .ok (.getfield 30, 3) := by decide +kernel
theorem dX0_copyFrom_57 : decode cX0_copyFrom 57 = .ok (.iconst 0, 1) := by decide +kernel
theorem dX0_copyFrom_58 : decode cX0_copyFrom 58 = .ok (.bipush 8, 2) := by decide +kernel
theorem dX0_copyFrom_60 : decode cX0_copyFrom 60 = .ok (.invokestatic 51, 3) := by decide +kernel
theorem dX0_copyFrom_63 : decode cX0_copyFrom 63 = .ok (.aload_n 0, 1) := by decide +kernel
theorem dX0_copyFrom_64 : decode cX0_copyFrom 64 = .ok (.getfield 37, 3) := by decide +kernel
theorem dX0_copyFrom_67 : decode cX0_copyFrom 67 = .ok (.aload_n 1, 1) := by decide +kernel
theorem dX0_copyFrom_68 : decode cX0_copyFrom 68 = .ok (.getfield 37, 3) := by decide +kernel
theorem dX0_copyFrom_71 : decode cX0_copyFrom 71 = .ok (.invokevirtual 57, 3) := by decide +kernel
theorem dX0_copyFrom_74 : decode cX0_copyFrom 74 = .ok (.aload_n 0, 1) := by decide +kernel
theorem dX0_copyFrom_75 : decode cX0_copyFrom 75 = .ok (.aload_n 1, 1) := by decide +kernel
theorem dX0_copyFrom_76 : decode cX0_copyFrom 76 = .ok (.getfield 41, 3) := by decide +kernel
theorem dX0_copyFrom_79 : decode cX0_copyFrom 79 = .ok (.putfield 41, 3) := by decide +kernel
theorem dX0_copyFrom_82 : decode cX0_copyFrom 82 = .ok (.aload_n 0, 1) := by decide +kernel
theorem dX0_copyFrom_83 : decode cX0_copyFrom 83 = .ok (.aload_n 1, 1) := by decide +kernel
theorem dX0_copyFrom_84 : decode cX0_copyFrom 84 = .ok (.getfield 44, 3) := by decide +kernel
theorem dX0_copyFrom_87 : decode cX0_copyFrom 87 = .ok (.putfield 44, 3) := by decide +kernel
theorem dX0_copyFrom_90 : decode cX0_copyFrom 90 = .ok (.aload_n 0, 1) := by decide +kernel
theorem dX0_copyFrom_91 : decode cX0_copyFrom 91 = .ok (.aload_n 1, 1) := by decide +kernel
theorem dX0_copyFrom_92 : decode cX0_copyFrom 92 = .ok (.getfield 47, 3) := by decide +kernel
theorem dX0_copyFrom_95 : decode cX0_copyFrom 95 = .ok (.putfield 47, 3) := by decide +kernel
theorem dX0_copyFrom_98 : decode cX0_copyFrom 98 = .ok (.return_, 1) := by decide +kernel
set_option maxRecDepth 20000 in
theorem ggX0_goOn_X0_goOneMinute : GoodIn wsX0_goOn wsX0_goOneMinute := goodIn_r _ [5, 6, 7, 8, 9, 10, 11, 12, 13, 4, 14, 15, 16, 17, 18, 19, 20, 21, 22, 23, 24, 25, 26, 27, 28, 29, 30, 31, 32, 33, 34, 35, 36, 37, 38, 39, 40, 41, 42, 43, 44, 45, 46, 47, 48, 49, 50, 51, 52, 53, 54, 55, 56, 57, 58, 59, 60, 61, 62, 63, 64, 65, 66, 67, 68, 69, 70, 71, 72, 73, 74, 75, 76, 77, 78, 79, 80, 81, 82, 83, 84, 85, 86, 87, 88, 89, 90, 91, 92, 93, 94, 95, 96, 97, 98, 99, 100, 101, 102, 103, 104, 105, 106, 107, 108, 109, 110, 111, 112, 113, 114] (by decide +kernel) (by decide +kernel)
set_option maxRecDepth 20000 in
theorem gX0_goOn_X0_goOneMinute : GoodIn wsX0_goOn (wsV RX0 61 RX0 yX0_goOneMinute wsX0_goOneMinute) := goodIn_app (goodIn_of _ (by decide +kernel)) ggX0_goOn_X0_goOneMinute
theorem dX0_goOn_0 : decode cX0_goOn 0 = .ok (.iconst 0, 1) := by decide +kernel
theorem dX0_goOn_1 : decode cX0_goOn 1 = .ok (.istore_n 2, 1) := by decide +kernel
theorem dX0_goOn_2 : decode cX0_goOn 2 = .ok (.iload_n 2, 1) := by decide +kernel
theorem dX0_goOn_3 : decode cX0_goOn 3 = .ok (.iload_n 1, 1) := by decide +kernel
theorem dX0_goOn_4 : decode cX0_goOn 4 = .ok (.if_icmp .ge 13, 3) := by decide +kernel
theorem dX0_goOn_7 : decode cX0_goOn 7 = .ok (.aload_n 0, 1) := by decide +kernel
theorem dX0_goOn_8 : decode cX0_goOn 8 = .ok (.invokevirtual 61, 3) := by decide +kernel
theorem dX0_goOn_11 : decode cX0_goOn 11 = .ok (.iinc 2 1, 3) := by decide +kernel
theorem dX0_goOn_14 : decode cX0_goOn 14 = .ok (.goto (-12), 3) := by decide +kernel
theorem dX0_goOn_17 : decode cX0_goOn 17 = .ok (.return_, 1) := by decide +kernel
set_option maxRecDepth 20000 in
theorem ggX0_goOneMinute_X0_servedNext : GoodIn wsX0_goOneMinute wsX0_servedNext := goodIn_r _ [10, 11, 12, 2, 13, 14, 15, 16, 17, 18, 19, 20, 21, 22, 23, 24, 25, 26, 27, 28, 29, 30, 31, 32, 88, 89, 90, 91, 92, 93, 94, 95, 96, 97, 98, 99, 100, 101, 102, 103, 104, 105, 106, 107, 108, 109, 110] (by decide +kernel) (by decide +kernel)
set_option maxRecDepth 20000 in
theorem gX0_goOneMinute_X0_servedNext : GoodIn wsX0_goOneMinute (wsV RX0 64 RX0 yX0_servedNext wsX0_servedNext) := goodIn_app (goodIn_of _ (by decide +kernel)) ggX0_goOneMinute_X0_servedNext
set_option maxRecDepth 20000 in
theorem ggX0_goOneMinute_X0_serve : GoodIn wsX0_goOneMinute wsX0_serve := goodIn_r _ [36, 2, 37, 38, 11, 39, 40, 13, 5, 41, 22, 23, 24, 42, 43, 44, 45, 46, 47, 17, 48, 49, 50, 51, 52, 53, 54, 55, 56, 57, 58, 59, 60, 61, 19, 20, 62, 63, 64, 65, 9, 66, 67, 68, 88, 89, 90, 91, 92, 93, 94, 95, 96, 97, 98, 99, 100, 101, 102, 103, 104, 105, 106, 107, 108, 109, 110] (by decide +kernel) (by decide +kernel)
set_option maxRecDepth 20000 in
theorem gX0_goOneMinute_X0_serve : GoodIn wsX0_goOneMinute (wsV RX0 68 RX0 yX0_serve wsX0_serve) := goodIn_app (goodIn_of _ (by decide +kernel)) ggX0_goOneMinute_X0_serve
set_option maxRecDepth 20000 in
theorem ggX0_goOneMinute_X0_goOnPassing : GoodIn wsX0_goOneMinute wsX0_goOnPassing := goodIn_r _ [72, 2, 11, 40, 5, 45, 46, 47, 17, 48, 49, 73, 74, 75, 76, 54, 77, 78, 88, 89, 90, 91, 92, 93, 94, 95, 96, 97, 98, 99, 100, 101, 102, 103, 104, 105, 106, 107, 108, 109, 110] (by decide +kernel) (by decide +kernel)
set_option maxRecDepth 20000 in
theorem gX0_goOneMinute_X0_goOnPassing : GoodIn wsX0_goOneMinute (wsV RX0 72 RX0 yX0_goOnPassing wsX0_goOnPassing) := goodIn_app (goodIn_of _ (by decide +kernel)) ggX0_goOneMinute_X0_goOnPassing
set_option maxRecDepth 20000 in
theorem ggX0_goOneMinute_X0_freeze : GoodIn wsX0_goOneMinute wsX0_freeze := goodIn_r _ [82, 5, 68, 83, 41, 22, 23, 24, 42, 43, 44, 84, 85, 86, 87, 88, 89, 90, 91, 92, 93, 94, 95, 96, 97, 98] (by decide +kernel) (by decide +kernel)
set_option maxRecDepth 20000 in
theorem gX0_goOneMinute_X0_freeze : GoodIn wsX0_goOneMinute (wsV RX0 81 RX0 yX0_freeze wsX0_freeze) := goodIn_app (goodIn_of _ (by decide +kernel)) ggX0_goOneMinute_X0_freeze
theorem dX0_goOneMinute_0 : decode cX0_goOneMinute 0 = .ok (.aload_n 0, 1) := by decide +kernel
theorem dX0_goOneMinute_1 : decode cX0_goOneMinute 1 = .ok (.aload_n 0, 1) := by decide +kernel
theorem dX0_goOneMinute_2 : decode cX0_goOneMinute 2 = .ok (.invokevirtual 64, 3) := by decide +kernel
theorem dX0_goOneMinute_5 : decode cX0_goOneMinute 5 = .ok (.invokevirtual 68, 3) := by decide +kernel
theorem dX0_goOneMinute_8 : decode cX0_goOneMinute 8 = .ok (.aload_n 0, 1) := by decide +kernel
theorem dX0_goOneMinute_9 : decode cX0_goOneMinute 9 = .ok (.invokevirtual 72, 3) := by decide +kernel
theorem dX0_goOneMinute_12 : decode cX0_goOneMinute 12 = .ok (.aload_n 0, 1) := by decide +kernel
theorem dX0_goOneMinute_13 : decode cX0_goOneMinute 13 = .ok (.dup, 1) := by decide +kernel
theorem dX0_goOneMinute_14 : decode cX0_goOneMinute 14 = .ok (.getfield 27, 3) := by decide +kernel
theorem dX0_goOneMinute_17 : decode cX0_goOneMinute 17 = .ok (.aload_n 0, 1) := by decide +kernel
theorem dX0_goOneMinute_18 : decode cX0_goOneMinute 18 = .ok (.getfield 37, 3) := by decide +kernel
theorem dX0_goOneMinute_21 : decode cX0_goOneMinute 21 = .ok (.getfield 75, 3) := by decide +kernel
theorem dX0_goOneMinute_24 : decode cX0_goOneMinute 24 = .ok (.aload_n 0, 1) := by decide +kernel
theorem dX0_goOneMinute_25 : decode cX0_goOneMinute 25 = .ok (.getfield 37, 3) := by decide +kernel
theorem dX0_goOneMinute_28 : decode cX0_goOneMinute 28 = .ok (.getfield 78, 3) := by decide +kernel
theorem dX0_goOneMinute_31 : decode cX0_goOneMinute 31 = .ok (.iadd, 1) := by decide +kernel
theorem dX0_goOneMinute_32 : decode cX0_goOneMinute 32 = .ok (.iadd, 1) := by decide +kernel
theorem dX0_goOneMinute_33 : decode cX0_goOneMinute 33 = .ok (.putfield 27, 3) := by decide +kernel
theorem dX0_goOneMinute_36 : decode cX0_goOneMinute 36 = .ok (.aload_n 0, 1) := by decide +kernel
theorem dX0_goOneMinute_37 : decode cX0_goOneMinute 37 = .ok (.invokevirtual 81, 3) := by decide +kernel
theorem dX0_goOneMinute_40 : decode cX0_goOneMinute 40 = .ok (.aload_n 0, 1) := by decide +kernel
theorem dX0_goOneMinute_41 : decode cX0_goOneMinute 41 = .ok (.dup, 1) := by decide +kernel
theorem dX0_goOneMinute_42 : decode cX0_goOneMinute 42 = .ok (.getfield 9, 3) := by decide +kernel
theorem dX0_goOneMinute_45 : decode cX0_goOneMinute 45 = .ok (.iconst 1, 1) := by decide +kernel
theorem dX0_goOneMinute_46 : decode cX0_goOneMinute 46 = .ok (.iadd, 1) := by decide +kernel
theorem dX0_goOneMinute_47 : decode cX0_goOneMinute 47 = .ok (.putfield 9, 3) := by decide +kernel
theorem dX0_goOneMinute_50 : decode cX0_goOneMinute 50 = .ok (.return_, 1) := by decide +kernel
theorem dX0_speedTowards_0 : decode cX0_speedTowards 0 = .ok (.aload_n 0, 1) := by decide +kernel
theorem dX0_speedTowards_1 : decode cX0_speedTowards 1 = .ok (.getfield 18, 3) := by decide +kernel
theorem dX0_speedTowards_4 : decode cX0_speedTowards 4 = .ok (.bipush 6, 2) := by decide +kernel
theorem dX0_speedTowards_6 : decode cX0_speedTowards 6 = .ok (.idiv, 1) := by decide +kernel
theorem dX0_speedTowards_7 : decode cX0_speedTowards 7 = .ok (.istore_n 2, 1) := by decide +kernel
theorem dX0_speedTowards_8 : decode cX0_speedTowards 8 = .ok (.iload_n 1, 1) := by decide +kernel
theorem dX0_speedTowards_9 : decode cX0_speedTowards 9 = .ok (.ifCond .eq 9, 3) := by decide +kernel
theorem dX0_speedTowards_12 : decode cX0_speedTowards 12 = .ok (.iconst 1, 1) := by decide +kernel
theorem dX0_speedTowards_13 : decode cX0_speedTowards 13 = .ok (.iload_n 2, 1) := by decide +kernel
theorem dX0_speedTowards_14 : decode cX0_speedTowards 14 = .ok (.iadd, 1) := by decide +kernel
theorem dX0_speedTowards_15 : decode cX0_speedTowards 15 = .ok (.goto 7, 3) := by decide +kernel
theorem dX0_speedTowards_18 : decode cX0_speedTowards 18 = .ok (.bipush 6, 2) := by decide +kernel
theorem dX0_speedTowards_20 : decode cX0_speedTowards 20 = .ok (.iload_n 2, 1) := by decide +kernel
theorem dX0_speedTowards_21 : decode cX0_speedTowards 21 = .ok (.isub, 1) := by decide +kernel
theorem dX0_speedTowards_22 : decode cX0_speedTowards 22 = .ok (.istore_n 3, 1) := by decide +kernel
theorem dX0_speedTowards_23 : decode cX0_speedTowards 23 = .ok (.aload_n 0, 1) := by decide +kernel
theorem dX0_speedTowards_24 : decode cX0_speedTowards 24 = .ok (.getfield 21, 3) := by decide +kernel
theorem dX0_speedTowards_27 : decode cX0_speedTowards 27 = .ok (.iconst 5, 1) := by decide +kernel
theorem dX0_speedTowards_28 : decode cX0_speedTowards 28 = .ok (.if_icmp .lt 13, 3) := by decide +kernel
theorem dX0_speedTowards_31 : decode cX0_speedTowards 31 = .ok (.iconst 1, 1) := by decide +kernel
theorem dX0_speedTowards_32 : decode cX0_speedTowards 32 = .ok (.iload_n 3, 1) := by decide +kernel
theorem dX0_speedTowards_33 : decode cX0_speedTowards 33 = .ok (.iconst 2, 1) := by decide +kernel
theorem dX0_speedTowards_34 : decode cX0_speedTowards 34 = .ok (.idiv, 1) := by decide +kernel
theorem dX0_speedTowards_35 : decode cX0_speedTowards 35 = .ok (.invokestatic 84, 3) := by decide +kernel
theorem dX0_speedTowards_38 : decode cX0_speedTowards 38 = .ok (.goto 4, 3) := by decide +kernel
theorem dX0_speedTowards_41 : decode cX0_speedTowards 41 = .ok (.iload_n 3, 1) := by decide +kernel
theorem dX0_speedTowards_42 : decode cX0_speedTowards 42 = .ok (.ireturn, 1) := by decide +kernel
set_option maxRecDepth 20000 in
theorem ggX0_servedNext_X1_firstOfAll : GoodIn wsX0_servedNext wsX1_firstOfAll := goodIn_r _ [9, 10, 11, 12, 13, 14, 15, 35, 36, 37, 38, 39, 40, 41, 42, 43, 44, 45, 46] (by decide +kernel) (by decide +kernel)
set_option maxRecDepth 20000 in
theorem gX0_servedNext_X1_firstOfAll : GoodIn wsX0_servedNext (wsV RX0 90 RX1 yX1_firstOfAll wsX1_firstOfAll) := goodIn_app (goodIn_of _ (by decide +kernel)) ggX0_servedNext_X1_firstOfAll
set_option maxRecDepth 20000 in
theorem ggX0_servedNext_X1_firstBargeElseCart : GoodIn wsX0_servedNext wsX1_firstBargeElseCart := goodIn_r _ [19, 10, 11, 35, 36, 37, 38, 39, 40, 41, 42, 43, 44, 45, 46] (by decide +kernel) (by decide +kernel)
set_option maxRecDepth 20000 in
theorem gX0_servedNext_X1_firstBargeElseCart : GoodIn wsX0_servedNext (wsV RX0 93 RX1 yX1_firstBargeElseCart wsX1_firstBargeElseCart) := goodIn_app (goodIn_of _ (by decide +kernel)) ggX0_servedNext_X1_firstBargeElseCart
set_option maxRecDepth 20000 in
theorem ggX0_servedNext_X1_firstCartElseBarge : GoodIn wsX0_servedNext wsX1_firstCartElseBarge := goodIn_r _ [23, 11, 10, 35, 36, 37, 38, 39, 40, 41, 42, 43, 44, 45, 46] (by decide +kernel) (by decide +kernel)
set_option maxRecDepth 20000 in
theorem gX0_servedNext_X1_firstCartElseBarge : GoodIn wsX0_servedNext (wsV RX0 96 RX1 yX1_firstCartElseBarge wsX1_firstCartElseBarge) := goodIn_app (goodIn_of _ (by decide +kernel)) ggX0_servedNext_X1_firstCartElseBarge
theorem dX0_servedNext_0 : decode cX0_servedNext 0 = .ok (.aload_n 0, 1) := by decide +kernel
theorem dX0_servedNext_1 : decode cX0_servedNext 1 = .ok (.getfield 41, 3) := by decide +kernel
theorem dX0_servedNext_4 : decode cX0_servedNext 4 = .ok (.iconst (-1), 1) := by decide +kernel
theorem dX0_servedNext_5 : decode cX0_servedNext 5 = .ok (.if_icmp .eq 5, 3) := by decide +kernel
theorem dX0_servedNext_8 : decode cX0_servedNext 8 = .ok (.iconst (-1), 1) := by decide +kernel
theorem dX0_servedNext_9 : decode cX0_servedNext 9 = .ok (.ireturn, 1) := by decide +kernel
theorem dX0_servedNext_10 : decode cX0_servedNext 10 = .ok (.aload_n 0, 1) := by decide +kernel
theorem dX0_servedNext_11 : decode cX0_servedNext 11 = .ok (.getfield 24, 3) := by decide +kernel
theorem dX0_servedNext_14 : decode cX0_servedNext 14 = .ok (.tableswitch 79 0 3 #[30, 38, 46, 54], 30) := by decide +kernel
theorem dX0_servedNext_44 : decode cX0_servedNext 44 = .ok (.aload_n 0, 1) := by decide +kernel
theorem dX0_servedNext_45 : decode cX0_servedNext 45 = .ok (.getfield 37, 3) := by decide +kernel
theorem dX0_servedNext_48 : decode cX0_servedNext 48 = .ok (.invokevirtual 90, 3) := by decide +kernel
theorem dX0_servedNext_51 : decode cX0_servedNext 51 = .ok (.ireturn, 1) := by decide +kernel
theorem dX0_servedNext_52 : decode cX0_servedNext 52 = .ok (.aload_n 0, 1) := by decide +kernel
theorem dX0_servedNext_53 : decode cX0_servedNext 53 = .ok (.getfield 37, 3) := by decide +kernel
theorem dX0_servedNext_56 : decode cX0_servedNext 56 = .ok (.invokevirtual 93, 3) := by decide +kernel
theorem dX0_servedNext_59 : decode cX0_servedNext 59 = .ok (.ireturn, 1) := by decide +kernel
theorem dX0_servedNext_60 : decode cX0_servedNext 60 = .ok (.aload_n 0, 1) := by decide +kernel
theorem dX0_servedNext_61 : decode cX0_servedNext 61 = .ok (.getfield 37, 3) := by decide +kernel
theorem dX0_servedNext_64 : decode cX0_servedNext 64 = .ok (.invokevirtual 96, 3) := by decide +kernel
theorem dX0_servedNext_67 : decode cX0_servedNext 67 = .ok (.ireturn, 1) := by decide +kernel
theorem dX0_servedNext_68 : decode cX0_servedNext 68 = .ok (.aload_n 0, 1) := by decide +kernel
theorem dX0_servedNext_69 : decode cX0_servedNext 69 = .ok (.getfield 47, 3) := by decide +kernel
theorem dX0_servedNext_72 : decode cX0_servedNext 72 = .ok (.ifCond .eq 13, 3) := by decide +kernel
theorem dX0_servedNext_75 : decode cX0_servedNext 75 = .ok (.aload_n 0, 1) := by decide +kernel
theorem dX0_servedNext_76 : decode cX0_servedNext 76 = .ok (.getfield 37, 3) := by decide +kernel
theorem dX0_servedNext_79 : decode cX0_servedNext 79 = .ok (.invokevirtual 96, 3) := by decide +kernel
theorem dX0_servedNext_82 : decode cX0_servedNext 82 = .ok (.goto 10, 3) := by decide +kernel
theorem dX0_servedNext_85 : decode cX0_servedNext 85 = .ok (.aload_n 0, 1) := by decide +kernel
theorem dX0_servedNext_86 : decode cX0_servedNext 86 = .ok (.getfield 37, 3) := by decide +kernel
theorem dX0_servedNext_89 : decode cX0_servedNext 89 = .ok (.invokevirtual 93, 3) := by decide +kernel
theorem dX0_servedNext_92 : decode cX0_servedNext 92 = .ok (.ireturn, 1) := by decide +kernel
theorem dX0_servedNext_93 : decode cX0_servedNext 93 = .ok (.iconst (-1), 1) := by decide +kernel
theorem dX0_servedNext_94 : decode cX0_servedNext 94 = .ok (.ireturn, 1) := by decide +kernel
set_option maxRecDepth 20000 in
theorem ggX0_serve_X1_has : GoodIn wsX0_serve wsX1_has := goodIn_r _ [20, 21, 55, 56, 57, 58, 59, 60, 61, 62, 63, 64, 65, 66] (by decide +kernel) (by decide +kernel)
set_option maxRecDepth 20000 in
theorem gX0_serve_X1_has : GoodIn wsX0_serve (wsV RX0 99 RX1 yX1_has wsX1_has) := goodIn_app (goodIn_of _ (by decide +kernel)) ggX0_serve_X1_has
set_option maxRecDepth 20000 in
theorem ggX0_serve_X1_endWait : GoodIn wsX0_serve wsX1_endWait := goodIn_r _ [25, 26, 27, 28, 29, 30, 19, 31, 32, 33, 34, 35, 21, 36, 55, 56, 57, 58, 59, 60, 61, 62, 63, 64, 65, 66] (by decide +kernel) (by decide +kernel)
set_option maxRecDepth 20000 in
theorem gX0_serve_X1_endWait : GoodIn wsX0_serve (wsV RX0 109 RX1 yX1_endWait wsX1_endWait) := goodIn_app (goodIn_of _ (by decide +kernel)) ggX0_serve_X1_endWait
set_option maxRecDepth 20000 in
theorem ggX0_serve_X0_speedTowards : GoodIn wsX0_serve wsX0_speedTowards := goodIn_r _ [41, 42, 43, 13, 14, 11, 15, 44, 45, 46, 47, 48, 49, 50, 51, 52, 53, 54] (by decide +kernel) (by decide +kernel)
set_option maxRecDepth 20000 in
theorem gX0_serve_X0_speedTowards : GoodIn wsX0_serve (wsV RX0 113 RX0 yX0_speedTowards wsX0_speedTowards) := goodIn_app (goodIn_of _ (by decide +kernel)) ggX0_serve_X0_speedTowards
theorem dX0_serve_0 : decode cX0_serve 0 = .ok (.aload_n 0, 1) := by decide +kernel
theorem dX0_serve_1 : decode cX0_serve 1 = .ok (.getfield 37, 3) := by decide +kernel
theorem dX0_serve_4 : decode cX0_serve 4 = .ok (.iload_n 1, 1) := by decide +kernel
theorem dX0_serve_5 : decode cX0_serve 5 = .ok (.invokevirtual 99, 3) := by decide +kernel
theorem dX0_serve_8 : decode cX0_serve 8 = .ok (.ifCond .ne 4, 3) := by decide +kernel
theorem dX0_serve_11 : decode cX0_serve 11 = .ok (.return_, 1) := by decide +kernel
theorem dX0_serve_12 : decode cX0_serve 12 = .ok (.aload_n 0, 1) := by decide +kernel
theorem dX0_serve_13 : decode cX0_serve 13 = .ok (.getfield 37, 3) := by decide +kernel
theorem dX0_serve_16 : decode cX0_serve 16 = .ok (.getfield 103, 3) := by decide +kernel
theorem dX0_serve_19 : decode cX0_serve 19 = .ok (.iload_n 1, 1) := by decide +kernel
theorem dX0_serve_20 : decode cX0_serve 20 = .ok (.iaload, 1) := by decide +kernel
theorem dX0_serve_21 : decode cX0_serve 21 = .ok (.iconst 1, 1) := by decide +kernel
theorem dX0_serve_22 : decode cX0_serve 22 = .ok (.if_icmp .ne 7, 3) := by decide +kernel
theorem dX0_serve_25 : decode cX0_serve 25 = .ok (.iconst 1, 1) := by decide +kernel
theorem dX0_serve_26 : decode cX0_serve 26 = .ok (.goto 4, 3) := by decide +kernel
theorem dX0_serve_29 : decode cX0_serve 29 = .ok (.iconst 0, 1) := by decide +kernel
theorem dX0_serve_30 : decode cX0_serve 30 = .ok (.istore_n 2, 1) := by decide +kernel
theorem dX0_serve_31 : decode cX0_serve 31 = .ok (.aload_n 0, 1) := by decide +kernel
theorem dX0_serve_32 : decode cX0_serve 32 = .ok (.getfield 15, 3) := by decide +kernel
theorem dX0_serve_35 : decode cX0_serve 35 = .ok (.iload_n 2, 1) := by decide +kernel
theorem dX0_serve_36 : decode cX0_serve 36 = .ok (.ifCond .eq 8, 3) := by decide +kernel
theorem dX0_serve_39 : decode cX0_serve 39 = .ok (.bipush 60, 2) := by decide +kernel
theorem dX0_serve_41 : decode cX0_serve 41 = .ok (.goto 4, 3) := by decide +kernel
theorem dX0_serve_44 : decode cX0_serve 44 = .ok (.iconst 0, 1) := by decide +kernel
theorem dX0_serve_45 : decode cX0_serve 45 = .ok (.if_icmp .ne 42, 3) := by decide +kernel
theorem dX0_serve_48 : decode cX0_serve 48 = .ok (.aload_n 0, 1) := by decide +kernel
theorem dX0_serve_49 : decode cX0_serve 49 = .ok (.iload_n 1, 1) := by decide +kernel
theorem dX0_serve_50 : decode cX0_serve 50 = .ok (.putfield 41, 3) := by decide +kernel
theorem dX0_serve_53 : decode cX0_serve 53 = .ok (.aload_n 0, 1) := by decide +kernel
theorem dX0_serve_54 : decode cX0_serve 54 = .ok (.aload_n 0, 1) := by decide +kernel
theorem dX0_serve_55 : decode cX0_serve 55 = .ok (.getfield 37, 3) := by decide +kernel
theorem dX0_serve_58 : decode cX0_serve 58 = .ok (.getfield 106, 3) := by decide +kernel
theorem dX0_serve_61 : decode cX0_serve 61 = .ok (.iload_n 1, 1) := by decide +kernel
theorem dX0_serve_62 : decode cX0_serve 62 = .ok (.iaload, 1) := by decide +kernel
theorem dX0_serve_63 : decode cX0_serve 63 = .ok (.putfield 44, 3) := by decide +kernel
theorem dX0_serve_66 : decode cX0_serve 66 = .ok (.aload_n 0, 1) := by decide +kernel
theorem dX0_serve_67 : decode cX0_serve 67 = .ok (.iload_n 2, 1) := by decide +kernel
theorem dX0_serve_68 : decode cX0_serve 68 = .ok (.putfield 47, 3) := by decide +kernel
theorem dX0_serve_71 : decode cX0_serve 71 = .ok (.aload_n 0, 1) := by decide +kernel
theorem dX0_serve_72 : decode cX0_serve 72 = .ok (.getfield 37, 3) := by decide +kernel
theorem dX0_serve_75 : decode cX0_serve 75 = .ok (.iload_n 1, 1) := by decide +kernel
theorem dX0_serve_76 : decode cX0_serve 76 = .ok (.iconst 1, 1) := by decide +kernel
theorem dX0_serve_77 : decode cX0_serve 77 = .ok (.aload_n 0, 1) := by decide +kernel
theorem dX0_serve_78 : decode cX0_serve 78 = .ok (.getfield 9, 3) := by decide +kernel
theorem dX0_serve_81 : decode cX0_serve 81 = .ok (.invokevirtual 109, 3) := by decide +kernel
theorem dX0_serve_84 : decode cX0_serve 84 = .ok (.goto 47, 3) := by decide +kernel
theorem dX0_serve_87 : decode cX0_serve 87 = .ok (.iload_n 2, 1) := by decide +kernel
theorem dX0_serve_88 : decode cX0_serve 88 = .ok (.ifCond .eq 25, 3) := by decide +kernel
theorem dX0_serve_91 : decode cX0_serve 91 = .ok (.aload_n 0, 1) := by decide +kernel
theorem dX0_serve_92 : decode cX0_serve 92 = .ok (.bipush 60, 2) := by decide +kernel
theorem dX0_serve_94 : decode cX0_serve 94 = .ok (.aload_n 0, 1) := by decide +kernel
theorem dX0_serve_95 : decode cX0_serve 95 = .ok (.getfield 15, 3) := by decide +kernel
theorem dX0_serve_98 : decode cX0_serve 98 = .ok (.aload_n 0, 1) := by decide +kernel
theorem dX0_serve_99 : decode cX0_serve 99 = .ok (.iconst 1, 1) := by decide +kernel
theorem dX0_serve_100 : decode cX0_serve 100 = .ok (.invokevirtual 113, 3) := by decide +kernel
theorem dX0_serve_103 : decode cX0_serve 103 = .ok (.iadd, 1) := by decide +kernel
theorem dX0_serve_104 : decode cX0_serve 104 = .ok (.invokestatic 117, 3) := by decide +kernel
theorem dX0_serve_107 : decode cX0_serve 107 = .ok (.putfield 15, 3) := by decide +kernel
theorem dX0_serve_110 : decode cX0_serve 110 = .ok (.goto 21, 3) := by decide +kernel
theorem dX0_serve_113 : decode cX0_serve 113 = .ok (.aload_n 0, 1) := by decide +kernel
theorem dX0_serve_114 : decode cX0_serve 114 = .ok (.iconst 0, 1) := by decide +kernel
theorem dX0_serve_115 : decode cX0_serve 115 = .ok (.aload_n 0, 1) := by decide +kernel
theorem dX0_serve_116 : decode cX0_serve 116 = .ok (.getfield 15, 3) := by decide +kernel
theorem dX0_serve_119 : decode cX0_serve 119 = .ok (.aload_n 0, 1) := by decide +kernel
theorem dX0_serve_120 : decode cX0_serve 120 = .ok (.iconst 0, 1) := by decide +kernel
theorem dX0_serve_121 : decode cX0_serve 121 = .ok (.invokevirtual 113, 3) := by decide +kernel
theorem dX0_serve_124 : decode cX0_serve 124 = .ok (.isub, 1) := by decide +kernel
theorem dX0_serve_125 : decode cX0_serve 125 = .ok (.invokestatic 84, 3) := by decide +kernel
theorem dX0_serve_128 : decode cX0_serve 128 = .ok (.putfield 15, 3) := by decide +kernel
theorem dX0_serve_131 : decode cX0_serve 131 = .ok (.return_, 1) := by decide +kernel
set_option maxRecDepth 20000 in
theorem ggX0_goOnPassing_X1_has : GoodIn wsX0_goOnPassing wsX1_has := goodIn_r _ [9, 10, 29, 30, 31, 32, 33, 34, 35, 36, 37, 38, 39, 40] (by decide +kernel) (by decide +kernel)
set_option maxRecDepth 20000 in
theorem gX0_goOnPassing_X1_has : GoodIn wsX0_goOnPassing (wsV RX0 99 RX1 yX1_has wsX1_has) := goodIn_app (goodIn_of _ (by decide +kernel)) ggX0_goOnPassing_X1_has
set_option maxRecDepth 20000 in
theorem ggX0_goOnPassing_X1_endPassage : GoodIn wsX0_goOnPassing wsX1_endPassage := goodIn_r _ [14, 15, 16, 17, 29, 30, 31, 32, 33, 34, 35, 36, 37, 38, 39, 40] (by decide +kernel) (by decide +kernel)
set_option maxRecDepth 20000 in
theorem gX0_goOnPassing_X1_endPassage : GoodIn wsX0_goOnPassing (wsV RX0 120 RX1 yX1_endPassage wsX1_endPassage) := goodIn_app (goodIn_of _ (by decide +kernel)) ggX0_goOnPassing_X1_endPassage
theorem dX0_goOnPassing_0 : decode cX0_goOnPassing 0 = .ok (.aload_n 0, 1) := by decide +kernel
theorem dX0_goOnPassing_1 : decode cX0_goOnPassing 1 = .ok (.getfield 37, 3) := by decide +kernel
theorem dX0_goOnPassing_4 : decode cX0_goOnPassing 4 = .ok (.aload_n 0, 1) := by decide +kernel
theorem dX0_goOnPassing_5 : decode cX0_goOnPassing 5 = .ok (.getfield 41, 3) := by decide +kernel
theorem dX0_goOnPassing_8 : decode cX0_goOnPassing 8 = .ok (.invokevirtual 99, 3) := by decide +kernel
theorem dX0_goOnPassing_11 : decode cX0_goOnPassing 11 = .ok (.ifCond .ne 4, 3) := by decide +kernel
theorem dX0_goOnPassing_14 : decode cX0_goOnPassing 14 = .ok (.return_, 1) := by decide +kernel
theorem dX0_goOnPassing_15 : decode cX0_goOnPassing 15 = .ok (.aload_n 0, 1) := by decide +kernel
theorem dX0_goOnPassing_16 : decode cX0_goOnPassing 16 = .ok (.dup, 1) := by decide +kernel
theorem dX0_goOnPassing_17 : decode cX0_goOnPassing 17 = .ok (.getfield 44, 3) := by decide +kernel
theorem dX0_goOnPassing_20 : decode cX0_goOnPassing 20 = .ok (.iconst 1, 1) := by decide +kernel
theorem dX0_goOnPassing_21 : decode cX0_goOnPassing 21 = .ok (.isub, 1) := by decide +kernel
theorem dX0_goOnPassing_22 : decode cX0_goOnPassing 22 = .ok (.putfield 44, 3) := by decide +kernel
theorem dX0_goOnPassing_25 : decode cX0_goOnPassing 25 = .ok (.aload_n 0, 1) := by decide +kernel
theorem dX0_goOnPassing_26 : decode cX0_goOnPassing 26 = .ok (.getfield 44, 3) := by decide +kernel
theorem dX0_goOnPassing_29 : decode cX0_goOnPassing 29 = .ok (.ifCond .gt 23, 3) := by decide +kernel
theorem dX0_goOnPassing_32 : decode cX0_goOnPassing 32 = .ok (.aload_n 0, 1) := by decide +kernel
theorem dX0_goOnPassing_33 : decode cX0_goOnPassing 33 = .ok (.getfield 37, 3) := by decide +kernel
theorem dX0_goOnPassing_36 : decode cX0_goOnPassing 36 = .ok (.aload_n 0, 1) := by decide +kernel
theorem dX0_goOnPassing_37 : decode cX0_goOnPassing 37 = .ok (.getfield 41, 3) := by decide +kernel
theorem dX0_goOnPassing_40 : decode cX0_goOnPassing 40 = .ok (.aload_n 0, 1) := by decide +kernel
theorem dX0_goOnPassing_41 : decode cX0_goOnPassing 41 = .ok (.getfield 9, 3) := by decide +kernel
theorem dX0_goOnPassing_44 : decode cX0_goOnPassing 44 = .ok (.invokevirtual 120, 3) := by decide +kernel
theorem dX0_goOnPassing_47 : decode cX0_goOnPassing 47 = .ok (.aload_n 0, 1) := by decide +kernel
theorem dX0_goOnPassing_48 : decode cX0_goOnPassing 48 = .ok (.iconst (-1), 1) := by decide +kernel
theorem dX0_goOnPassing_49 : decode cX0_goOnPassing 49 = .ok (.putfield 41, 3) := by decide +kernel
theorem dX0_goOnPassing_52 : decode cX0_goOnPassing 52 = .ok (.return_, 1) := by decide +kernel
set_option maxRecDepth 20000 in
theorem ggX0_freeze_J9_floorMod_7cf53 : GoodIn wsX0_freeze wsJ9_floorMod_7cf53 := goodIn_r _ [14] (by decide +kernel) (by decide +kernel)
set_option maxRecDepth 20000 in
theorem gX0_freeze_J9_floorMod_7cf53 : GoodIn wsX0_freeze (va_wsS RX0 124 yJ9_floorMod_7cf53 wsJ9_floorMod_7cf53) := goodIn_app (goodIn_of _ (by decide +kernel)) ggX0_freeze_J9_floorMod_7cf53
theorem dX0_freeze_0 : decode cX0_freeze 0 = .ok (.aload_n 0, 1) := by decide +kernel
theorem dX0_freeze_1 : decode cX0_freeze 1 = .ok (.getfield 9, 3) := by decide +kernel
theorem dX0_freeze_4 : decode cX0_freeze 4 = .ok (.bipush 60, 2) := by decide +kernel
theorem dX0_freeze_6 : decode cX0_freeze 6 = .ok (.irem, 1) := by decide +kernel
theorem dX0_freeze_7 : decode cX0_freeze 7 = .ok (.ifCond .eq 4, 3) := by decide +kernel
theorem dX0_freeze_10 : decode cX0_freeze 10 = .ok (.return_, 1) := by decide +kernel
theorem dX0_freeze_11 : decode cX0_freeze 11 = .ok (.aload_n 0, 1) := by decide +kernel
theorem dX0_freeze_12 : decode cX0_freeze 12 = .ok (.getfield 9, 3) := by decide +kernel
theorem dX0_freeze_15 : decode cX0_freeze 15 = .ok (.bipush 60, 2) := by decide +kernel
theorem dX0_freeze_17 : decode cX0_freeze 17 = .ok (.idiv, 1) := by decide +kernel
theorem dX0_freeze_18 : decode cX0_freeze 18 = .ok (.bipush 8, 2) := by decide +kernel
theorem dX0_freeze_20 : decode cX0_freeze 20 = .ok (.invokestatic 124, 3) := by decide +kernel
theorem dX0_freeze_23 : decode cX0_freeze 23 = .ok (.istore_n 1, 1) := by decide +kernel
theorem dX0_freeze_24 : decode cX0_freeze 24 = .ok (.aload_n 0, 1) := by decide +kernel
theorem dX0_freeze_25 : decode cX0_freeze 25 = .ok (.iconst 0, 1) := by decide +kernel
theorem dX0_freeze_26 : decode cX0_freeze 26 = .ok (.bipush 9, 2) := by decide +kernel
theorem dX0_freeze_28 : decode cX0_freeze 28 = .ok (.aload_n 0, 1) := by decide +kernel
theorem dX0_freeze_29 : decode cX0_freeze 29 = .ok (.getfield 21, 3) := by decide +kernel
theorem dX0_freeze_32 : decode cX0_freeze 32 = .ok (.aload_n 0, 1) := by decide +kernel
theorem dX0_freeze_33 : decode cX0_freeze 33 = .ok (.getfield 30, 3) := by decide +kernel
theorem dX0_freeze_36 : decode cX0_freeze 36 = .ok (.iload_n 1, 1) := by decide +kernel
theorem dX0_freeze_37 : decode cX0_freeze 37 = .ok (.iaload, 1) := by decide +kernel
theorem dX0_freeze_38 : decode cX0_freeze 38 = .ok (.iadd, 1) := by decide +kernel
theorem dX0_freeze_39 : decode cX0_freeze 39 = .ok (.invokestatic 117, 3) := by decide +kernel
theorem dX0_freeze_42 : decode cX0_freeze 42 = .ok (.invokestatic 84, 3) := by decide +kernel
theorem dX0_freeze_45 : decode cX0_freeze 45 = .ok (.putfield 21, 3) := by decide +kernel
theorem dX0_freeze_48 : decode cX0_freeze 48 = .ok (.return_, 1) := by decide +kernel
set_option maxRecDepth 20000 in
theorem ggX0_total_X0_servedNext : GoodIn wsX0_total wsX0_servedNext := goodIn_r _ [17, 12, 5, 6, 18, 19, 20, 21, 22, 23, 24, 25, 26, 27, 28, 29, 30, 31, 32, 33, 34, 35, 36, 37, 38, 39, 40, 41, 42, 43, 44, 45, 46, 47, 48, 49, 50, 51, 52, 53, 54, 55, 56, 57, 58, 59, 60] (by decide +kernel) (by decide +kernel)
set_option maxRecDepth 20000 in
theorem gX0_total_X0_servedNext : GoodIn wsX0_total (wsV RX0 64 RX0 yX0_servedNext wsX0_servedNext) := goodIn_app (goodIn_of _ (by decide +kernel)) ggX0_total_X0_servedNext
theorem dX0_total_0 : decode cX0_total 0 = .ok (.iload_n 1, 1) := by decide +kernel
theorem dX0_total_1 : decode cX0_total 1 = .ok (.tableswitch 126 0 10 #[59, 64, 69, 74, 79, 84, 92, 100, 108, 116, 121], 59) := by decide +kernel
theorem dX0_total_60 : decode cX0_total 60 = .ok (.aload_n 0, 1) := by decide +kernel
theorem dX0_total_61 : decode cX0_total 61 = .ok (.getfield 9, 3) := by decide +kernel
theorem dX0_total_64 : decode cX0_total 64 = .ok (.ireturn, 1) := by decide +kernel
theorem dX0_total_65 : decode cX0_total 65 = .ok (.aload_n 0, 1) := by decide +kernel
theorem dX0_total_66 : decode cX0_total 66 = .ok (.getfield 15, 3) := by decide +kernel
theorem dX0_total_69 : decode cX0_total 69 = .ok (.ireturn, 1) := by decide +kernel
theorem dX0_total_70 : decode cX0_total 70 = .ok (.aload_n 0, 1) := by decide +kernel
theorem dX0_total_71 : decode cX0_total 71 = .ok (.getfield 18, 3) := by decide +kernel
theorem dX0_total_74 : decode cX0_total 74 = .ok (.ireturn, 1) := by decide +kernel
theorem dX0_total_75 : decode cX0_total 75 = .ok (.aload_n 0, 1) := by decide +kernel
theorem dX0_total_76 : decode cX0_total 76 = .ok (.getfield 21, 3) := by decide +kernel
theorem dX0_total_79 : decode cX0_total 79 = .ok (.ireturn, 1) := by decide +kernel
theorem dX0_total_80 : decode cX0_total 80 = .ok (.aload_n 0, 1) := by decide +kernel
theorem dX0_total_81 : decode cX0_total 81 = .ok (.getfield 24, 3) := by decide +kernel
theorem dX0_total_84 : decode cX0_total 84 = .ok (.ireturn, 1) := by decide +kernel
theorem dX0_total_85 : decode cX0_total 85 = .ok (.aload_n 0, 1) := by decide +kernel
theorem dX0_total_86 : decode cX0_total 86 = .ok (.getfield 37, 3) := by decide +kernel
theorem dX0_total_89 : decode cX0_total 89 = .ok (.getfield 127, 3) := by decide +kernel
theorem dX0_total_92 : decode cX0_total 92 = .ok (.ireturn, 1) := by decide +kernel
theorem dX0_total_93 : decode cX0_total 93 = .ok (.aload_n 0, 1) := by decide +kernel
theorem dX0_total_94 : decode cX0_total 94 = .ok (.getfield 37, 3) := by decide +kernel
theorem dX0_total_97 : decode cX0_total 97 = .ok (.getfield 75, 3) := by decide +kernel
theorem dX0_total_100 : decode cX0_total 100 = .ok (.ireturn, 1) := by decide +kernel
theorem dX0_total_101 : decode cX0_total 101 = .ok (.aload_n 0, 1) := by decide +kernel
theorem dX0_total_102 : decode cX0_total 102 = .ok (.getfield 37, 3) := by decide +kernel
theorem dX0_total_105 : decode cX0_total 105 = .ok (.getfield 78, 3) := by decide +kernel
theorem dX0_total_108 : decode cX0_total 108 = .ok (.ireturn, 1) := by decide +kernel
theorem dX0_total_109 : decode cX0_total 109 = .ok (.aload_n 0, 1) := by decide +kernel
theorem dX0_total_110 : decode cX0_total 110 = .ok (.getfield 37, 3) := by decide +kernel
theorem dX0_total_113 : decode cX0_total 113 = .ok (.getfield 130, 3) := by decide +kernel
theorem dX0_total_116 : decode cX0_total 116 = .ok (.ireturn, 1) := by decide +kernel
theorem dX0_total_117 : decode cX0_total 117 = .ok (.aload_n 0, 1) := by decide +kernel
theorem dX0_total_118 : decode cX0_total 118 = .ok (.getfield 27, 3) := by decide +kernel
theorem dX0_total_121 : decode cX0_total 121 = .ok (.ireturn, 1) := by decide +kernel
theorem dX0_total_122 : decode cX0_total 122 = .ok (.aload_n 0, 1) := by decide +kernel
theorem dX0_total_123 : decode cX0_total 123 = .ok (.getfield 41, 3) := by decide +kernel
theorem dX0_total_126 : decode cX0_total 126 = .ok (.ireturn, 1) := by decide +kernel
theorem dX0_total_127 : decode cX0_total 127 = .ok (.aload_n 0, 1) := by decide +kernel
theorem dX0_total_128 : decode cX0_total 128 = .ok (.invokevirtual 64, 3) := by decide +kernel
theorem dX0_total_131 : decode cX0_total 131 = .ok (.ireturn, 1) := by decide +kernel
set_option maxRecDepth 20000 in
theorem ggX0_factOf_X1_waited : GoodIn wsX0_factOf wsX1_waited := goodIn_r _ [14, 15, 16, 17, 29, 30, 31, 32, 33, 34, 35, 36, 37, 38, 39, 40] (by decide +kernel) (by decide +kernel)
set_option maxRecDepth 20000 in
theorem gX0_factOf_X1_waited : GoodIn wsX0_factOf (wsV RX0 139 RX1 yX1_waited wsX1_waited) := goodIn_app (goodIn_of _ (by decide +kernel)) ggX0_factOf_X1_waited
theorem dX0_factOf_0 : decode cX0_factOf 0 = .ok (.iload_n 2, 1) := by decide +kernel
theorem dX0_factOf_1 : decode cX0_factOf 1 = .ok (.tableswitch 109 0 5 #[39, 49, 59, 69, 79, 92], 39) := by decide +kernel
theorem dX0_factOf_40 : decode cX0_factOf 40 = .ok (.aload_n 0, 1) := by decide +kernel
theorem dX0_factOf_41 : decode cX0_factOf 41 = .ok (.getfield 37, 3) := by decide +kernel
theorem dX0_factOf_44 : decode cX0_factOf 44 = .ok (.getfield 103, 3) := by decide +kernel
theorem dX0_factOf_47 : decode cX0_factOf 47 = .ok (.iload_n 1, 1) := by decide +kernel
theorem dX0_factOf_48 : decode cX0_factOf 48 = .ok (.iaload, 1) := by decide +kernel
theorem dX0_factOf_49 : decode cX0_factOf 49 = .ok (.ireturn, 1) := by decide +kernel
theorem dX0_factOf_50 : decode cX0_factOf 50 = .ok (.aload_n 0, 1) := by decide +kernel
theorem dX0_factOf_51 : decode cX0_factOf 51 = .ok (.getfield 37, 3) := by decide +kernel
theorem dX0_factOf_54 : decode cX0_factOf 54 = .ok (.getfield 106, 3) := by decide +kernel
theorem dX0_factOf_57 : decode cX0_factOf 57 = .ok (.iload_n 1, 1) := by decide +kernel
theorem dX0_factOf_58 : decode cX0_factOf 58 = .ok (.iaload, 1) := by decide +kernel
theorem dX0_factOf_59 : decode cX0_factOf 59 = .ok (.ireturn, 1) := by decide +kernel
theorem dX0_factOf_60 : decode cX0_factOf 60 = .ok (.aload_n 0, 1) := by decide +kernel
theorem dX0_factOf_61 : decode cX0_factOf 61 = .ok (.getfield 37, 3) := by decide +kernel
theorem dX0_factOf_64 : decode cX0_factOf 64 = .ok (.getfield 133, 3) := by decide +kernel
theorem dX0_factOf_67 : decode cX0_factOf 67 = .ok (.iload_n 1, 1) := by decide +kernel
theorem dX0_factOf_68 : decode cX0_factOf 68 = .ok (.iaload, 1) := by decide +kernel
theorem dX0_factOf_69 : decode cX0_factOf 69 = .ok (.ireturn, 1) := by decide +kernel
theorem dX0_factOf_70 : decode cX0_factOf 70 = .ok (.aload_n 0, 1) := by decide +kernel
theorem dX0_factOf_71 : decode cX0_factOf 71 = .ok (.getfield 37, 3) := by decide +kernel
theorem dX0_factOf_74 : decode cX0_factOf 74 = .ok (.getfield 136, 3) := by decide +kernel
theorem dX0_factOf_77 : decode cX0_factOf 77 = .ok (.iload_n 1, 1) := by decide +kernel
theorem dX0_factOf_78 : decode cX0_factOf 78 = .ok (.iaload, 1) := by decide +kernel
theorem dX0_factOf_79 : decode cX0_factOf 79 = .ok (.ireturn, 1) := by decide +kernel
theorem dX0_factOf_80 : decode cX0_factOf 80 = .ok (.aload_n 0, 1) := by decide +kernel
theorem dX0_factOf_81 : decode cX0_factOf 81 = .ok (.getfield 37, 3) := by decide +kernel
theorem dX0_factOf_84 : decode cX0_factOf 84 = .ok (.iload_n 1, 1) := by decide +kernel
theorem dX0_factOf_85 : decode cX0_factOf 85 = .ok (.aload_n 0, 1) := by decide +kernel
theorem dX0_factOf_86 : decode cX0_factOf 86 = .ok (.getfield 9, 3) := by decide +kernel
theorem dX0_factOf_89 : decode cX0_factOf 89 = .ok (.invokevirtual 139, 3) := by decide +kernel
theorem dX0_factOf_92 : decode cX0_factOf 92 = .ok (.ireturn, 1) := by decide +kernel
theorem dX0_factOf_93 : decode cX0_factOf 93 = .ok (.iload_n 1, 1) := by decide +kernel
theorem dX0_factOf_94 : decode cX0_factOf 94 = .ok (.aload_n 0, 1) := by decide +kernel
theorem dX0_factOf_95 : decode cX0_factOf 95 = .ok (.getfield 41, 3) := by decide +kernel
theorem dX0_factOf_98 : decode cX0_factOf 98 = .ok (.if_icmp .ne 10, 3) := by decide +kernel
theorem dX0_factOf_101 : decode cX0_factOf 101 = .ok (.aload_n 0, 1) := by decide +kernel
theorem dX0_factOf_102 : decode cX0_factOf 102 = .ok (.getfield 44, 3) := by decide +kernel
theorem dX0_factOf_105 : decode cX0_factOf 105 = .ok (.goto 4, 3) := by decide +kernel
theorem dX0_factOf_108 : decode cX0_factOf 108 = .ok (.iconst 0, 1) := by decide +kernel
theorem dX0_factOf_109 : decode cX0_factOf 109 = .ok (.ireturn, 1) := by decide +kernel
theorem dX0_factOf_110 : decode cX0_factOf 110 = .ok (.aload_n 0, 1) := by decide +kernel
theorem dX0_factOf_111 : decode cX0_factOf 111 = .ok (.getfield 37, 3) := by decide +kernel
theorem dX0_factOf_114 : decode cX0_factOf 114 = .ok (.getfield 142, 3) := by decide +kernel
theorem dX0_factOf_117 : decode cX0_factOf 117 = .ok (.iload_n 1, 1) := by decide +kernel
theorem dX0_factOf_118 : decode cX0_factOf 118 = .ok (.iaload, 1) := by decide +kernel
theorem dX0_factOf_119 : decode cX0_factOf 119 = .ok (.ireturn, 1) := by decide +kernel
theorem dX1_init_0 : decode cX1_init 0 = .ok (.aload_n 0, 1) := by decide +kernel
theorem dX1_init_1 : decode cX1_init 1 = .ok (.invokespecial 3, 3) := by decide +kernel
theorem dX1_init_4 : decode cX1_init 4 = .ok (.aload_n 0, 1) := by decide +kernel
theorem dX1_init_5 : decode cX1_init 5 = .ok (.iconst 0, 1) := by decide +kernel
theorem dX1_init_6 : decode cX1_init 6 = .ok (.putfield 9, 3) := by decide +kernel
theorem dX1_init_9 : decode cX1_init 9 = .ok (.aload_n 0, 1) := by decide +kernel
theorem dX1_init_10 : decode cX1_init 10 = .ok (.iconst 0, 1) := by decide +kernel
theorem dX1_init_11 : decode cX1_init 11 = .ok (.putfield 15, 3) := by decide +kernel
theorem dX1_init_14 : decode cX1_init 14 = .ok (.aload_n 0, 1) := by decide +kernel
theorem dX1_init_15 : decode cX1_init 15 = .ok (.iconst 0, 1) := by decide +kernel
theorem dX1_init_16 : decode cX1_init 16 = .ok (.putfield 18, 3) := by decide +kernel
theorem dX1_init_19 : decode cX1_init 19 = .ok (.aload_n 0, 1) := by decide +kernel
theorem dX1_init_20 : decode cX1_init 20 = .ok (.iconst 0, 1) := by decide +kernel
theorem dX1_init_21 : decode cX1_init 21 = .ok (.putfield 21, 3) := by decide +kernel
theorem dX1_init_24 : decode cX1_init 24 = .ok (.aload_n 0, 1) := by decide +kernel
theorem dX1_init_25 : decode cX1_init 25 = .ok (.bipush 40, 2) := by decide +kernel
theorem dX1_init_27 : decode cX1_init 27 = .ok (.newarray .int, 2) := by decide +kernel
theorem dX1_init_29 : decode cX1_init 29 = .ok (.putfield 24, 3) := by decide +kernel
theorem dX1_init_32 : decode cX1_init 32 = .ok (.aload_n 0, 1) := by decide +kernel
theorem dX1_init_33 : decode cX1_init 33 = .ok (.bipush 40, 2) := by decide +kernel
theorem dX1_init_35 : decode cX1_init 35 = .ok (.newarray .int, 2) := by decide +kernel
theorem dX1_init_37 : decode cX1_init 37 = .ok (.putfield 28, 3) := by decide +kernel
theorem dX1_init_40 : decode cX1_init 40 = .ok (.aload_n 0, 1) := by decide +kernel
theorem dX1_init_41 : decode cX1_init 41 = .ok (.bipush 40, 2) := by decide +kernel
theorem dX1_init_43 : decode cX1_init 43 = .ok (.newarray .int, 2) := by decide +kernel
theorem dX1_init_45 : decode cX1_init 45 = .ok (.putfield 31, 3) := by decide +kernel
theorem dX1_init_48 : decode cX1_init 48 = .ok (.aload_n 0, 1) := by decide +kernel
theorem dX1_init_49 : decode cX1_init 49 = .ok (.bipush 40, 2) := by decide +kernel
theorem dX1_init_51 : decode cX1_init 51 = .ok (.newarray .int, 2) := by decide +kernel
theorem dX1_init_53 : decode cX1_init 53 = .ok (.putfield 34, 3) := by decide +kernel
theorem dX1_init_56 : decode cX1_init 56 = .ok (.aload_n 0, 1) := by decide +kernel
theorem dX1_init_57 : decode cX1_init 57 = .ok (.bipush 40, 2) := by decide +kernel
theorem dX1_init_59 : decode cX1_init 59 = .ok (.newarray .int, 2) := by decide +kernel
theorem dX1_init_61 : decode cX1_init 61 = .ok (.putfield 37, 3) := by decide +kernel
theorem dX1_init_64 : decode cX1_init 64 = .ok (.aload_n 0, 1) := by decide +kernel
theorem dX1_init_65 : decode cX1_init 65 = .ok (.bipush 40, 2) := by decide +kernel
theorem dX1_init_67 : decode cX1_init 67 = .ok (.newarray .int, 2) := by decide +kernel
theorem dX1_init_69 : decode cX1_init 69 = .ok (.putfield 40, 3) := by decide +kernel
theorem dX1_init_72 : decode cX1_init 72 = .ok (.aload_n 0, 1) := by decide +kernel
theorem dX1_init_73 : decode cX1_init 73 = .ok (.iconst (-1), 1) := by decide +kernel
theorem dX1_init_74 : decode cX1_init 74 = .ok (.putfield 43, 3) := by decide +kernel
theorem dX1_init_77 : decode cX1_init 77 = .ok (.aload_n 0, 1) := by decide +kernel
theorem dX1_init_78 : decode cX1_init 78 = .ok (.iconst (-1), 1) := by decide +kernel
theorem dX1_init_79 : decode cX1_init 79 = .ok (.putfield 46, 3) := by decide +kernel
theorem dX1_init_82 : decode cX1_init 82 = .ok (.return_, 1) := by decide +kernel
theorem dX1_copyFrom_0 : decode cX1_copyFrom 0 = .ok (.aload_n 0, 1) := by decide +kernel
theorem dX1_copyFrom_1 : decode cX1_copyFrom 1 = .ok (.aload_n 1, 1) := by decide +kernel
theorem dX1_copyFrom_2 : decode cX1_copyFrom 2 = .ok (.getfield 9, 3) := by decide +kernel
theorem dX1_copyFrom_5 : decode cX1_copyFrom 5 = .ok (.putfield 9, 3) := by decide +kernel
theorem dX1_copyFrom_8 : decode cX1_copyFrom 8 = .ok (.aload_n 0, 1) := by decide +kernel
theorem dX1_copyFrom_9 : decode cX1_copyFrom 9 = .ok (.aload_n 1, 1) := by decide +kernel
theorem dX1_copyFrom_10 : decode cX1_copyFrom 10 = .ok (.getfield 15, 3) := by decide +kernel
theorem dX1_copyFrom_13 : decode cX1_copyFrom 13 = .ok (.putfield 15, 3) := by decide +kernel
theorem dX1_copyFrom_16 : decode cX1_copyFrom 16 = .ok (.aload_n 0, 1) := by decide +kernel
theorem dX1_copyFrom_17 : decode cX1_copyFrom 17 = .ok (.aload_n 1, 1) := by decide +kernel
theorem dX1_copyFrom_18 : decode cX1_copyFrom 18 = .ok (.getfield 18, 3) := by decide +kernel
theorem dX1_copyFrom_21 : decode cX1_copyFrom 21 = .ok (.putfield 18, 3) := by decide +kernel
theorem dX1_copyFrom_24 : decode cX1_copyFrom 24 = .ok (.aload_n 0, 1) := by decide +kernel
theorem dX1_copyFrom_25 : decode cX1_copyFrom 25 = .ok (.aload_n 1, 1) := by decide +kernel
theorem dX1_copyFrom_26 : decode cX1_copyFrom 26 = .ok (.getfield 21, 3) := by decide +kernel
theorem dX1_copyFrom_29 : decode cX1_copyFrom 29 = .ok (.putfield 21, 3) := by decide +kernel
theorem dX1_copyFrom_32 : decode cX1_copyFrom 32 = .ok (.aload_n 1, 1) := by decide +kernel
theorem dX1_copyFrom_33 : decode cX1_copyFrom 33 = .ok (.getfield 24, 3) := by decide +kernel
theorem dX1_copyFrom_36 : decode cX1_copyFrom 36 = .ok (.iconst 0, 1) := by decide +kernel
theorem dX1_copyFrom_37 : decode cX1_copyFrom 37 = .ok (.aload_n 0, 1) := by decide +kernel
theorem dX1_copyFrom_38 : decode cX1_copyFrom 38 = .ok (.getfield 24, 3) := by decide +kernel
theorem dX1_copyFrom_41 : decode cX1_copyFrom 41 = .ok (.iconst 0, 1) := by decide +kernel
theorem dX1_copyFrom_42 : decode cX1_copyFrom 42 = .ok (.bipush 40, 2) := by decide +kernel
theorem dX1_copyFrom_44 : decode cX1_copyFrom 44 = .ok (.invokestatic 49, 3) := by decide +kernel
theorem dX1_copyFrom_47 : decode cX1_copyFrom 47 = .ok (.aload_n 1, 1) := by decide +kernel
theorem dX1_copyFrom_48 : decode cX1_copyFrom 48 = .ok (.getfield 28, 3) := by decide +kernel
theorem dX1_copyFrom_51 : decode cX1_copyFrom 51 = .ok (.iconst 0, 1) := by decide +kernel
theorem dX1_copyFrom_52 : decode cX1_copyFrom 52 = .ok (.aload_n 0, 1) := by decide +kernel
theorem dX1_copyFrom_53 : decode cX1_copyFrom 53 = .ok (.getfield 28, 3) := by decide +kernel
theorem dX1_copyFrom_56 : decode cX1_copyFrom 56 = .ok (.iconst 0, 1) := by decide +kernel
theorem dX1_copyFrom_57 : decode cX1_copyFrom 57 = .ok (.bipush 40, 2) := by decide +kernel
theorem dX1_copyFrom_59 : decode cX1_copyFrom 59 = .ok (.invokestatic 49, 3) := by decide +kernel
theorem dX1_copyFrom_62 : decode cX1_copyFrom 62 = .ok (.aload_n 1, 1) := by decide +kernel
theorem dX1_copyFrom_63 : decode cX1_copyFrom 63 = .ok (.getfield 31, 3) := by decide +kernel
theorem dX1_copyFrom_66 : decode cX1_copyFrom 66 = .ok (.iconst 0, 1) := by decide +kernel
theorem dX1_copyFrom_67 : decode cX1_copyFrom 67 = .ok (.aload_n 0, 1) := by decide +kernel
theorem dX1_copyFrom_68 : decode cX1_copyFrom 68 = .ok (.getfield 31, 3) := by decide +kernel
theorem dX1_copyFrom_71 : decode cX1_copyFrom 71 = .ok (.iconst 0, 1) := by decide +kernel
theorem dX1_copyFrom_72 : decode cX1_copyFrom 72 = .ok (.bipush 40, 2) := by decide +kernel
theorem dX1_copyFrom_74 : decode cX1_copyFrom 74 = .ok (.invokestatic 49, 3) := by decide +kernel
theorem dX1_copyFrom_77 : decode cX1_copyFrom 77 = .ok (.aload_n 1, 1) := by decide +kernel
theorem dX1_copyFrom_78 : decode cX1_copyFrom 78 = .ok (.getfield 34, 3) := by decide +kernel
theorem dX1_copyFrom_81 : decode cX1_copyFrom 81 = .ok (.iconst 0, 1) := by decide +kernel
theorem dX1_copyFrom_82 : decode cX1_copyFrom 82 = .ok (.aload_n 0, 1) := by decide +kernel
theorem dX1_copyFrom_83 : decode cX1_copyFrom 83 = .ok (.getfield 34, 3) := by decide +kernel
theorem dX1_copyFrom_86 : decode cX1_copyFrom 86 = .ok (.iconst 0, 1) := by decide +kernel
theorem dX1_copyFrom_87 : decode cX1_copyFrom 87 = .ok (.bipush 40, 2) := by decide +kernel
theorem dX1_copyFrom_89 : decode cX1_copyFrom 89 = .ok (.invokestatic 49, 3) := by decide +kernel
theorem dX1_copyFrom_92 : decode cX1_copyFrom 92 = .ok (.aload_n 1, 1) := by decide +kernel
theorem dX1_copyFrom_93 : decode cX1_copyFrom 93 = .ok (.getfield 37, 3) := by decide +kernel
theorem dX1_copyFrom_96 : decode cX1_copyFrom 96 = .ok (.iconst 0, 1) := by decide +kernel
theorem dX1_copyFrom_97 : decode cX1_copyFrom 97 = .ok (.aload_n 0, 1) := by decide +kernel
theorem dX1_copyFrom_98 : decode cX1_copyFrom 98 = .ok (.getfield 37, 3) := by decide +kernel
theorem dX1_copyFrom_101 : decode cX1_copyFrom 101 = .ok (.iconst 0, 1) := by decide +kernel
theorem dX1_copyFrom_102 : decode cX1_copyFrom 102 = .ok (.bipush 40, 2) := by decide +kernel
theorem dX1_copyFrom_104 : decode cX1_copyFrom 104 = .ok (.invokestatic 49, 3) := by decide +kernel
theorem dX1_copyFrom_107 : decode cX1_copyFrom 107 = .ok (.aload_n 1, 1) := by decide +kernel
theorem dX1_copyFrom_108 : decode cX1_copyFrom 108 = .ok (.getfield 40, 3) := by decide +kernel
theorem dX1_copyFrom_111 : decode cX1_copyFrom 111 = .ok (.iconst 0, 1) := by decide +kernel
theorem dX1_copyFrom_112 : decode cX1_copyFrom 112 = .ok (.aload_n 0, 1) := by decide +kernel
theorem dX1_copyFrom_113 : decode cX1_copyFrom 113 = .ok (.getfield 40, 3) := by decide +kernel
theorem dX1_copyFrom_116 : decode cX1_copyFrom 116 = .ok (.iconst 0, 1) := by decide +kernel
theorem dX1_copyFrom_117 : decode cX1_copyFrom 117 = .ok (.bipush 40, 2) := by decide +kernel
theorem dX1_copyFrom_119 : decode cX1_copyFrom 119 = .ok (.invokestatic 49, 3) := by decide +kernel
theorem dX1_copyFrom_122 : decode cX1_copyFrom 122 = .ok (.aload_n 0, 1) := by decide +kernel
theorem dX1_copyFrom_123 : decode cX1_copyFrom 123 = .ok (.aload_n 1, 1) := by decide +kernel
theorem dX1_copyFrom_124 : decode cX1_copyFrom 124 = .ok (.getfield 43, 3) := by decide +kernel
theorem dX1_copyFrom_127 : decode cX1_copyFrom 127 = .ok (.putfield 43, 3) := by decide +kernel
theorem dX1_copyFrom_130 : decode cX1_copyFrom 130 = .ok (.aload_n 0, 1) := by decide +kernel
theorem dX1_copyFrom_131 : decode cX1_copyFrom 131 = .ok (.aload_n 1, 1) := by decide +kernel
theorem dX1_copyFrom_132 : decode cX1_copyFrom 132 = .ok (.getfield 46, 3) := by decide +kernel
theorem dX1_copyFrom_135 : decode cX1_copyFrom 135 = .ok (.putfield 46, 3) := by decide +kernel
theorem dX1_copyFrom_138 : decode cX1_copyFrom 138 = .ok (.return_, 1) := by decide +kernel
theorem dX1_has_0 : decode cX1_has 0 = .ok (.iload_n 1, 1) := by decide +kernel
theorem dX1_has_1 : decode cX1_has 1 = .ok (.ifCond .lt 15, 3) := by decide +kernel
theorem dX1_has_4 : decode cX1_has 4 = .ok (.iload_n 1, 1) := by decide +kernel
theorem dX1_has_5 : decode cX1_has 5 = .ok (.aload_n 0, 1) := by decide +kernel
theorem dX1_has_6 : decode cX1_has 6 = .ok (.getfield 9, 3) := by decide +kernel
theorem dX1_has_9 : decode cX1_has 9 = .ok (.if_icmp .ge 7, 3) := by decide +kernel
theorem dX1_has_12 : decode cX1_has 12 = .ok (.iconst 1, 1) := by decide +kernel
theorem dX1_has_13 : decode cX1_has 13 = .ok (.goto 4, 3) := by decide +kernel
theorem dX1_has_16 : decode cX1_has 16 = .ok (.iconst 0, 1) := by decide +kernel
theorem dX1_has_17 : decode cX1_has 17 = .ok (.ireturn, 1) := by decide +kernel
set_option maxRecDepth 20000 in
theorem ggX1_add_X1_seeWhoWaits : GoodIn wsX1_add wsX1_seeWhoWaits := goodIn_r _ [11, 12, 13, 14, 15, 1, 4, 2, 16, 17, 18, 19, 20, 21, 22, 23, 24, 25, 26, 27] (by decide +kernel) (by decide +kernel)
set_option maxRecDepth 20000 in
theorem gX1_add_X1_seeWhoWaits : GoodIn wsX1_add (wsV RX1 55 RX1 yX1_seeWhoWaits wsX1_seeWhoWaits) := goodIn_app (goodIn_of _ (by decide +kernel)) ggX1_add_X1_seeWhoWaits
theorem dX1_add_0 : decode cX1_add 0 = .ok (.aload_n 0, 1) := by decide +kernel
theorem dX1_add_1 : decode cX1_add 1 = .ok (.getfield 9, 3) := by decide +kernel
theorem dX1_add_4 : decode cX1_add 4 = .ok (.istore 4, 2) := by decide +kernel
theorem dX1_add_6 : decode cX1_add 6 = .ok (.aload_n 0, 1) := by decide +kernel
theorem dX1_add_7 : decode cX1_add 7 = .ok (.getfield 24, 3) := by decide +kernel
theorem dX1_add_10 : decode cX1_add 10 = .ok (.iload 4, 2) := by decide +kernel
theorem dX1_add_12 : decode cX1_add 12 = .ok (.iload_n 1, 1) := by decide +kernel
theorem dX1_add_13 : decode cX1_add 13 = .ok (.ifCond .eq 7, 3) := by decide +kernel
theorem dX1_add_16 : decode cX1_add 16 = .ok (.iconst 1, 1) := by decide +kernel
theorem dX1_add_17 : decode cX1_add 17 = .ok (.goto 4, 3) := by decide +kernel
theorem dX1_add_20 : decode cX1_add 20 = .ok (.iconst 0, 1) := by decide +kernel
theorem dX1_add_21 : decode cX1_add 21 = .ok (.iastore, 1) := by decide +kernel
theorem dX1_add_22 : decode cX1_add 22 = .ok (.aload_n 0, 1) := by decide +kernel
theorem dX1_add_23 : decode cX1_add 23 = .ok (.getfield 28, 3) := by decide +kernel
theorem dX1_add_26 : decode cX1_add 26 = .ok (.iload 4, 2) := by decide +kernel
theorem dX1_add_28 : decode cX1_add 28 = .ok (.iload_n 2, 1) := by decide +kernel
theorem dX1_add_29 : decode cX1_add 29 = .ok (.iastore, 1) := by decide +kernel
theorem dX1_add_30 : decode cX1_add 30 = .ok (.aload_n 0, 1) := by decide +kernel
theorem dX1_add_31 : decode cX1_add 31 = .ok (.getfield 31, 3) := by decide +kernel
theorem dX1_add_34 : decode cX1_add 34 = .ok (.iload 4, 2) := by decide +kernel
theorem dX1_add_36 : decode cX1_add 36 = .ok (.iconst 0, 1) := by decide +kernel
theorem dX1_add_37 : decode cX1_add 37 = .ok (.iastore, 1) := by decide +kernel
theorem dX1_add_38 : decode cX1_add 38 = .ok (.aload_n 0, 1) := by decide +kernel
theorem dX1_add_39 : decode cX1_add 39 = .ok (.getfield 34, 3) := by decide +kernel
theorem dX1_add_42 : decode cX1_add 42 = .ok (.iload 4, 2) := by decide +kernel
theorem dX1_add_44 : decode cX1_add 44 = .ok (.iload_n 3, 1) := by decide +kernel
theorem dX1_add_45 : decode cX1_add 45 = .ok (.iastore, 1) := by decide +kernel
theorem dX1_add_46 : decode cX1_add 46 = .ok (.aload_n 0, 1) := by decide +kernel
theorem dX1_add_47 : decode cX1_add 47 = .ok (.getfield 37, 3) := by decide +kernel
theorem dX1_add_50 : decode cX1_add 50 = .ok (.iload 4, 2) := by decide +kernel
theorem dX1_add_52 : decode cX1_add 52 = .ok (.iconst (-1), 1) := by decide +kernel
theorem dX1_add_53 : decode cX1_add 53 = .ok (.iastore, 1) := by decide +kernel
theorem dX1_add_54 : decode cX1_add 54 = .ok (.aload_n 0, 1) := by decide +kernel
theorem dX1_add_55 : decode cX1_add 55 = .ok (.dup, 1) := by decide +kernel
theorem dX1_add_56 : decode cX1_add 56 = .ok (.getfield 9, 3) := by decide +kernel
theorem dX1_add_59 : decode cX1_add 59 = .ok (.iconst 1, 1) := by decide +kernel
theorem dX1_add_60 : decode cX1_add 60 = .ok (.iadd, 1) := by decide +kernel
theorem dX1_add_61 : decode cX1_add 61 = .ok (.putfield 9, 3) := by decide +kernel
theorem dX1_add_64 : decode cX1_add 64 = .ok (.aload_n 0, 1) := by decide +kernel
theorem dX1_add_65 : decode cX1_add 65 = .ok (.invokevirtual 55, 3) := by decide +kernel
theorem dX1_add_68 : decode cX1_add 68 = .ok (.iload 4, 2) := by decide +kernel
theorem dX1_add_70 : decode cX1_add 70 = .ok (.ireturn, 1) := by decide +kernel
set_option maxRecDepth 20000 in
theorem ggX1_endWait_X1_seeWhoWaits : GoodIn wsX1_endWait wsX1_seeWhoWaits := goodIn_r _ [7, 8, 9, 10, 11, 12, 1, 13, 14, 15, 16, 17, 18, 19, 20, 21, 22, 23, 24, 25] (by decide +kernel) (by decide +kernel)
set_option maxRecDepth 20000 in
theorem gX1_endWait_X1_seeWhoWaits : GoodIn wsX1_endWait (wsV RX1 55 RX1 yX1_seeWhoWaits wsX1_seeWhoWaits) := goodIn_app (goodIn_of _ (by decide +kernel)) ggX1_endWait_X1_seeWhoWaits
theorem dX1_endWait_0 : decode cX1_endWait 0 = .ok (.aload_n 0, 1) := by decide +kernel
theorem dX1_endWait_1 : decode cX1_endWait 1 = .ok (.getfield 31, 3) := by decide +kernel
theorem dX1_endWait_4 : decode cX1_endWait 4 = .ok (.iload_n 1, 1) := by decide +kernel
theorem dX1_endWait_5 : decode cX1_endWait 5 = .ok (.iload_n 2, 1) := by decide +kernel
theorem dX1_endWait_6 : decode cX1_endWait 6 = .ok (.iastore, 1) := by decide +kernel
theorem dX1_endWait_7 : decode cX1_endWait 7 = .ok (.aload_n 0, 1) := by decide +kernel
theorem dX1_endWait_8 : decode cX1_endWait 8 = .ok (.getfield 40, 3) := by decide +kernel
theorem dX1_endWait_11 : decode cX1_endWait 11 = .ok (.iload_n 1, 1) := by decide +kernel
theorem dX1_endWait_12 : decode cX1_endWait 12 = .ok (.iload_n 3, 1) := by decide +kernel
theorem dX1_endWait_13 : decode cX1_endWait 13 = .ok (.iastore, 1) := by decide +kernel
theorem dX1_endWait_14 : decode cX1_endWait 14 = .ok (.aload_n 0, 1) := by decide +kernel
theorem dX1_endWait_15 : decode cX1_endWait 15 = .ok (.invokevirtual 55, 3) := by decide +kernel
theorem dX1_endWait_18 : decode cX1_endWait 18 = .ok (.return_, 1) := by decide +kernel
theorem dX1_endPassage_0 : decode cX1_endPassage 0 = .ok (.aload_n 0, 1) := by decide +kernel
theorem dX1_endPassage_1 : decode cX1_endPassage 1 = .ok (.getfield 31, 3) := by decide +kernel
theorem dX1_endPassage_4 : decode cX1_endPassage 4 = .ok (.iload_n 1, 1) := by decide +kernel
theorem dX1_endPassage_5 : decode cX1_endPassage 5 = .ok (.iconst 2, 1) := by decide +kernel
theorem dX1_endPassage_6 : decode cX1_endPassage 6 = .ok (.iastore, 1) := by decide +kernel
theorem dX1_endPassage_7 : decode cX1_endPassage 7 = .ok (.aload_n 0, 1) := by decide +kernel
theorem dX1_endPassage_8 : decode cX1_endPassage 8 = .ok (.getfield 37, 3) := by decide +kernel
theorem dX1_endPassage_11 : decode cX1_endPassage 11 = .ok (.iload_n 1, 1) := by decide +kernel
theorem dX1_endPassage_12 : decode cX1_endPassage 12 = .ok (.iload_n 2, 1) := by decide +kernel
theorem dX1_endPassage_13 : decode cX1_endPassage 13 = .ok (.iastore, 1) := by decide +kernel
theorem dX1_endPassage_14 : decode cX1_endPassage 14 = .ok (.aload_n 0, 1) := by decide +kernel
theorem dX1_endPassage_15 : decode cX1_endPassage 15 = .ok (.dup, 1) := by decide +kernel
theorem dX1_endPassage_16 : decode cX1_endPassage 16 = .ok (.getfield 15, 3) := by decide +kernel
theorem dX1_endPassage_19 : decode cX1_endPassage 19 = .ok (.iconst 1, 1) := by decide +kernel
theorem dX1_endPassage_20 : decode cX1_endPassage 20 = .ok (.iadd, 1) := by decide +kernel
theorem dX1_endPassage_21 : decode cX1_endPassage 21 = .ok (.putfield 15, 3) := by decide +kernel
theorem dX1_endPassage_24 : decode cX1_endPassage 24 = .ok (.return_, 1) := by decide +kernel
theorem dX1_waited_0 : decode cX1_waited 0 = .ok (.aload_n 0, 1) := by decide +kernel
theorem dX1_waited_1 : decode cX1_waited 1 = .ok (.getfield 31, 3) := by decide +kernel
theorem dX1_waited_4 : decode cX1_waited 4 = .ok (.iload_n 1, 1) := by decide +kernel
theorem dX1_waited_5 : decode cX1_waited 5 = .ok (.iaload, 1) := by decide +kernel
theorem dX1_waited_6 : decode cX1_waited 6 = .ok (.ifCond .ne 7, 3) := by decide +kernel
theorem dX1_waited_9 : decode cX1_waited 9 = .ok (.iload_n 2, 1) := by decide +kernel
theorem dX1_waited_10 : decode cX1_waited 10 = .ok (.goto 9, 3) := by decide +kernel
theorem dX1_waited_13 : decode cX1_waited 13 = .ok (.aload_n 0, 1) := by decide +kernel
theorem dX1_waited_14 : decode cX1_waited 14 = .ok (.getfield 40, 3) := by decide +kernel
theorem dX1_waited_17 : decode cX1_waited 17 = .ok (.iload_n 1, 1) := by decide +kernel
theorem dX1_waited_18 : decode cX1_waited 18 = .ok (.iaload, 1) := by decide +kernel
theorem dX1_waited_19 : decode cX1_waited 19 = .ok (.istore_n 3, 1) := by decide +kernel
theorem dX1_waited_20 : decode cX1_waited 20 = .ok (.iload_n 3, 1) := by decide +kernel
theorem dX1_waited_21 : decode cX1_waited 21 = .ok (.aload_n 0, 1) := by decide +kernel
theorem dX1_waited_22 : decode cX1_waited 22 = .ok (.getfield 34, 3) := by decide +kernel
theorem dX1_waited_25 : decode cX1_waited 25 = .ok (.iload_n 1, 1) := by decide +kernel
theorem dX1_waited_26 : decode cX1_waited 26 = .ok (.iaload, 1) := by decide +kernel
theorem dX1_waited_27 : decode cX1_waited 27 = .ok (.isub, 1) := by decide +kernel
theorem dX1_waited_28 : decode cX1_waited 28 = .ok (.ireturn, 1) := by decide +kernel
theorem dX1_firstOfAll_0 : decode cX1_firstOfAll 0 = .ok (.aload_n 0, 1) := by decide +kernel
theorem dX1_firstOfAll_1 : decode cX1_firstOfAll 1 = .ok (.getfield 43, 3) := by decide +kernel
theorem dX1_firstOfAll_4 : decode cX1_firstOfAll 4 = .ok (.iconst (-1), 1) := by decide +kernel
theorem dX1_firstOfAll_5 : decode cX1_firstOfAll 5 = .ok (.if_icmp .ne 8, 3) := by decide +kernel
theorem dX1_firstOfAll_8 : decode cX1_firstOfAll 8 = .ok (.aload_n 0, 1) := by decide +kernel
theorem dX1_firstOfAll_9 : decode cX1_firstOfAll 9 = .ok (.getfield 46, 3) := by decide +kernel
theorem dX1_firstOfAll_12 : decode cX1_firstOfAll 12 = .ok (.ireturn, 1) := by decide +kernel
theorem dX1_firstOfAll_13 : decode cX1_firstOfAll 13 = .ok (.aload_n 0, 1) := by decide +kernel
theorem dX1_firstOfAll_14 : decode cX1_firstOfAll 14 = .ok (.getfield 46, 3) := by decide +kernel
theorem dX1_firstOfAll_17 : decode cX1_firstOfAll 17 = .ok (.iconst (-1), 1) := by decide +kernel
theorem dX1_firstOfAll_18 : decode cX1_firstOfAll 18 = .ok (.if_icmp .ne 10, 3) := by decide +kernel
theorem dX1_firstOfAll_21 : decode cX1_firstOfAll 21 = .ok (.aload_n 0, 1) := by decide +kernel
theorem dX1_firstOfAll_22 : decode cX1_firstOfAll 22 = .ok (.getfield 43, 3) := by decide +kernel
theorem dX1_firstOfAll_25 : decode cX1_firstOfAll 25 = .ok (.goto 14, 3) := by decide +kernel
theorem dX1_firstOfAll_28 : decode cX1_firstOfAll 28 = .ok (.aload_n 0, 1) := by decide +kernel
theorem dX1_firstOfAll_29 : decode cX1_firstOfAll 29 = .ok (.getfield 43, 3) := by decide +kernel
theorem dX1_firstOfAll_32 : decode cX1_firstOfAll 32 = .ok (.aload_n 0, 1) := by decide +kernel
theorem dX1_firstOfAll_33 : decode cX1_firstOfAll 33 = .ok (.getfield 46, 3) := by decide +kernel
theorem dX1_firstOfAll_36 : decode cX1_firstOfAll 36 = .ok (.invokestatic 58, 3) := by decide +kernel
theorem dX1_firstOfAll_39 : decode cX1_firstOfAll 39 = .ok (.ireturn, 1) := by decide +kernel
theorem dX1_firstBargeElseCart_0 : decode cX1_firstBargeElseCart 0 = .ok (.aload_n 0, 1) := by decide +kernel
theorem dX1_firstBargeElseCart_1 : decode cX1_firstBargeElseCart 1 = .ok (.getfield 43, 3) := by decide +kernel
theorem dX1_firstBargeElseCart_4 : decode cX1_firstBargeElseCart 4 = .ok (.iconst (-1), 1) := by decide +kernel
theorem dX1_firstBargeElseCart_5 : decode cX1_firstBargeElseCart 5 = .ok (.if_icmp .eq 10, 3) := by decide +kernel
theorem dX1_firstBargeElseCart_8 : decode cX1_firstBargeElseCart 8 = .ok (.aload_n 0, 1) := by decide +kernel
theorem dX1_firstBargeElseCart_9 : decode cX1_firstBargeElseCart 9 = .ok (.getfield 43, 3) := by decide +kernel
theorem dX1_firstBargeElseCart_12 : decode cX1_firstBargeElseCart 12 = .ok (.goto 7, 3) := by decide +kernel
theorem dX1_firstBargeElseCart_15 : decode cX1_firstBargeElseCart 15 = .ok (.aload_n 0, 1) := by decide +kernel
theorem dX1_firstBargeElseCart_16 : decode cX1_firstBargeElseCart 16 = .ok (.getfield 46, 3) := by decide +kernel
theorem dX1_firstBargeElseCart_19 : decode cX1_firstBargeElseCart 19 = .ok (.ireturn, 1) := by decide +kernel
theorem dX1_firstCartElseBarge_0 : decode cX1_firstCartElseBarge 0 = .ok (.aload_n 0, 1) := by decide +kernel
theorem dX1_firstCartElseBarge_1 : decode cX1_firstCartElseBarge 1 = .ok (.getfield 46, 3) := by decide +kernel
theorem dX1_firstCartElseBarge_4 : decode cX1_firstCartElseBarge 4 = .ok (.iconst (-1), 1) := by decide +kernel
theorem dX1_firstCartElseBarge_5 : decode cX1_firstCartElseBarge 5 = .ok (.if_icmp .eq 10, 3) := by decide +kernel
theorem dX1_firstCartElseBarge_8 : decode cX1_firstCartElseBarge 8 = .ok (.aload_n 0, 1) := by decide +kernel
theorem dX1_firstCartElseBarge_9 : decode cX1_firstCartElseBarge 9 = .ok (.getfield 46, 3) := by decide +kernel
theorem dX1_firstCartElseBarge_12 : decode cX1_firstCartElseBarge 12 = .ok (.goto 7, 3) := by decide +kernel
theorem dX1_firstCartElseBarge_15 : decode cX1_firstCartElseBarge 15 = .ok (.aload_n 0, 1) := by decide +kernel
theorem dX1_firstCartElseBarge_16 : decode cX1_firstCartElseBarge 16 = .ok (.getfield 43, 3) := by decide +kernel
theorem dX1_firstCartElseBarge_19 : decode cX1_firstCartElseBarge 19 = .ok (.ireturn, 1) := by decide +kernel
theorem dX1_seeWhoWaits_0 : decode cX1_seeWhoWaits 0 = .ok (.aload_n 0, 1) := by decide +kernel
theorem dX1_seeWhoWaits_1 : decode cX1_seeWhoWaits 1 = .ok (.iconst 0, 1) := by decide +kernel
theorem dX1_seeWhoWaits_2 : decode cX1_seeWhoWaits 2 = .ok (.putfield 18, 3) := by decide +kernel
theorem dX1_seeWhoWaits_5 : decode cX1_seeWhoWaits 5 = .ok (.aload_n 0, 1) := by decide +kernel
theorem dX1_seeWhoWaits_6 : decode cX1_seeWhoWaits 6 = .ok (.iconst 0, 1) := by decide +kernel
theorem dX1_seeWhoWaits_7 : decode cX1_seeWhoWaits 7 = .ok (.putfield 21, 3) := by decide +kernel
theorem dX1_seeWhoWaits_10 : decode cX1_seeWhoWaits 10 = .ok (.aload_n 0, 1) := by decide +kernel
theorem dX1_seeWhoWaits_11 : decode cX1_seeWhoWaits 11 = .ok (.iconst (-1), 1) := by decide +kernel
theorem dX1_seeWhoWaits_12 : decode cX1_seeWhoWaits 12 = .ok (.putfield 43, 3) := by decide +kernel
theorem dX1_seeWhoWaits_15 : decode cX1_seeWhoWaits 15 = .ok (.aload_n 0, 1) := by decide +kernel
theorem dX1_seeWhoWaits_16 : decode cX1_seeWhoWaits 16 = .ok (.iconst (-1), 1) := by decide +kernel
theorem dX1_seeWhoWaits_17 : decode cX1_seeWhoWaits 17 = .ok (.putfield 46, 3) := by decide +kernel
theorem dX1_seeWhoWaits_20 : decode cX1_seeWhoWaits 20 = .ok (.aload_n 0, 1) := by decide +kernel
theorem dX1_seeWhoWaits_21 : decode cX1_seeWhoWaits 21 = .ok (.getfield 9, 3) := by decide +kernel
theorem dX1_seeWhoWaits_24 : decode cX1_seeWhoWaits 24 = .ok (.iconst 1, 1) := by decide +kernel
theorem dX1_seeWhoWaits_25 : decode cX1_seeWhoWaits 25 = .ok (.isub, 1) := by decide +kernel
theorem dX1_seeWhoWaits_26 : decode cX1_seeWhoWaits 26 = .ok (.istore_n 1, 1) := by decide +kernel
theorem dX1_seeWhoWaits_27 : decode cX1_seeWhoWaits 27 = .ok (.iload_n 1, 1) := by decide +kernel
theorem dX1_seeWhoWaits_28 : decode cX1_seeWhoWaits 28 = .ok (.ifCond .lt 64, 3) := by decide +kernel
theorem dX1_seeWhoWaits_31 : decode cX1_seeWhoWaits 31 = .ok (.aload_n 0, 1) := by decide +kernel
theorem dX1_seeWhoWaits_32 : decode cX1_seeWhoWaits 32 = .ok (.getfield 31, 3) := by decide +kernel
theorem dX1_seeWhoWaits_35 : decode cX1_seeWhoWaits 35 = .ok (.iload_n 1, 1) := by decide +kernel
theorem dX1_seeWhoWaits_36 : decode cX1_seeWhoWaits 36 = .ok (.iaload, 1) := by decide +kernel
theorem dX1_seeWhoWaits_37 : decode cX1_seeWhoWaits 37 = .ok (.ifCond .eq 6, 3) := by decide +kernel
theorem dX1_seeWhoWaits_40 : decode cX1_seeWhoWaits 40 = .ok (.goto 46, 3) := by decide +kernel
theorem dX1_seeWhoWaits_43 : decode cX1_seeWhoWaits 43 = .ok (.aload_n 0, 1) := by decide +kernel
theorem dX1_seeWhoWaits_44 : decode cX1_seeWhoWaits 44 = .ok (.getfield 24, 3) := by decide +kernel
theorem dX1_seeWhoWaits_47 : decode cX1_seeWhoWaits 47 = .ok (.iload_n 1, 1) := by decide +kernel
theorem dX1_seeWhoWaits_48 : decode cX1_seeWhoWaits 48 = .ok (.iaload, 1) := by decide +kernel
theorem dX1_seeWhoWaits_49 : decode cX1_seeWhoWaits 49 = .ok (.iconst 1, 1) := by decide +kernel
theorem dX1_seeWhoWaits_50 : decode cX1_seeWhoWaits 50 = .ok (.if_icmp .ne 21, 3) := by decide +kernel
theorem dX1_seeWhoWaits_53 : decode cX1_seeWhoWaits 53 = .ok (.aload_n 0, 1) := by decide +kernel
theorem dX1_seeWhoWaits_54 : decode cX1_seeWhoWaits 54 = .ok (.dup, 1) := by decide +kernel
theorem dX1_seeWhoWaits_55 : decode cX1_seeWhoWaits 55 = .ok (.getfield 18, 3) := by decide +kernel
theorem dX1_seeWhoWaits_58 : decode cX1_seeWhoWaits 58 = .ok (.iconst 1, 1) := by decide +kernel
theorem dX1_seeWhoWaits_59 : decode cX1_seeWhoWaits 59 = .ok (.iadd, 1) := by decide +kernel
theorem dX1_seeWhoWaits_60 : decode cX1_seeWhoWaits 60 = .ok (.putfield 18, 3) := by decide +kernel
theorem dX1_seeWhoWaits_63 : decode cX1_seeWhoWaits 63 = .ok (.aload_n 0, 1) := by decide +kernel
theorem dX1_seeWhoWaits_64 : decode cX1_seeWhoWaits 64 = .ok (.iload_n 1, 1) := by decide +kernel
theorem dX1_seeWhoWaits_65 : decode cX1_seeWhoWaits 65 = .ok (.putfield 43, 3) := by decide +kernel
theorem dX1_seeWhoWaits_68 : decode cX1_seeWhoWaits 68 = .ok (.goto 18, 3) := by decide +kernel
theorem dX1_seeWhoWaits_71 : decode cX1_seeWhoWaits 71 = .ok (.aload_n 0, 1) := by decide +kernel
theorem dX1_seeWhoWaits_72 : decode cX1_seeWhoWaits 72 = .ok (.dup, 1) := by decide +kernel
theorem dX1_seeWhoWaits_73 : decode cX1_seeWhoWaits 73 = .ok (.getfield 21, 3) := by decide +kernel
theorem dX1_seeWhoWaits_76 : decode cX1_seeWhoWaits 76 = .ok (.iconst 1, 1) := by decide +kernel
theorem dX1_seeWhoWaits_77 : decode cX1_seeWhoWaits 77 = .ok (.iadd, 1) := by decide +kernel
theorem dX1_seeWhoWaits_78 : decode cX1_seeWhoWaits 78 = .ok (.putfield 21, 3) := by decide +kernel
theorem dX1_seeWhoWaits_81 : decode cX1_seeWhoWaits 81 = .ok (.aload_n 0, 1) := by decide +kernel
theorem dX1_seeWhoWaits_82 : decode cX1_seeWhoWaits 82 = .ok (.iload_n 1, 1) := by decide +kernel
theorem dX1_seeWhoWaits_83 : decode cX1_seeWhoWaits 83 = .ok (.putfield 46, 3) := by decide +kernel
theorem dX1_seeWhoWaits_86 : decode cX1_seeWhoWaits 86 = .ok (.iinc 1 (-1), 3) := by decide +kernel
theorem dX1_seeWhoWaits_89 : decode cX1_seeWhoWaits 89 = .ok (.goto (-62), 3) := by decide +kernel
theorem dX1_seeWhoWaits_92 : decode cX1_seeWhoWaits 92 = .ok (.return_, 1) := by decide +kernel
set_option maxRecDepth 20000 in
theorem ggX2_init_X0_init : GoodIn wsX2_init wsX0_init := goodIn_r _ [10, 11, 2, 3, 12, 13, 14, 15, 16, 17, 18, 19, 20, 21, 22, 23, 24, 25, 26, 27, 28, 29, 30, 31, 32, 33, 34, 35, 36, 37, 38, 39, 40, 41, 42, 43, 44, 45, 46, 47, 48, 49, 50, 51, 52, 55, 56, 57, 58, 59, 60, 61, 62, 63, 64, 65, 66] (by decide +kernel) (by decide +kernel)
set_option maxRecDepth 20000 in
theorem gX2_init_X0_init_n9 : GoodIn wsX2_init (wsX0_init) := ggX2_init_X0_init
theorem dX2_init_0 : decode cX2_init 0 = .ok (.aload_n 0, 1) := by decide +kernel
theorem dX2_init_1 : decode cX2_init 1 = .ok (.invokespecial 1, 3) := by decide +kernel
theorem dX2_init_4 : decode cX2_init 4 = .ok (.aload_n 0, 1) := by decide +kernel
theorem dX2_init_5 : decode cX2_init 5 = .ok (.new 7, 3) := by decide +kernel
theorem dX2_init_8 : decode cX2_init 8 = .ok (.dup, 1) := by decide +kernel
theorem dX2_init_9 : decode cX2_init 9 = .ok (.invokespecial 9, 3) := by decide +kernel
theorem dX2_init_12 : decode cX2_init 12 = .ok (.putfield 10, 3) := by decide +kernel
theorem dX2_init_15 : decode cX2_init 15 = .ok (.aload_n 0, 1) := by decide +kernel
theorem dX2_init_16 : decode cX2_init 16 = .ok (.new 7, 3) := by decide +kernel
theorem dX2_init_19 : decode cX2_init 19 = .ok (.dup, 1) := by decide +kernel
theorem dX2_init_20 : decode cX2_init 20 = .ok (.invokespecial 9, 3) := by decide +kernel
theorem dX2_init_23 : decode cX2_init 23 = .ok (.putfield 16, 3) := by decide +kernel
theorem dX2_init_26 : decode cX2_init 26 = .ok (.return_, 1) := by decide +kernel
set_option maxRecDepth 20000 in
theorem ggX2_come_X1_add : GoodIn wsX2_come wsX1_add := goodIn_r _ [13, 14, 15, 16, 17, 18, 19, 20, 21, 22, 12, 23, 24, 25, 26, 27, 41, 42, 43, 44, 45, 46, 47, 48, 49, 50, 51, 52] (by decide +kernel) (by decide +kernel)
set_option maxRecDepth 20000 in
theorem gX2_come_X1_add : GoodIn wsX2_come (wsV RX2 44 RX1 yX1_add wsX1_add) := goodIn_app (goodIn_of _ (by decide +kernel)) ggX2_come_X1_add
theorem dX2_come_0 : decode cX2_come 0 = .ok (.iload_n 2, 1) := by decide +kernel
theorem dX2_come_1 : decode cX2_come 1 = .ok (.iconst 1, 1) := by decide +kernel
theorem dX2_come_2 : decode cX2_come 2 = .ok (.if_icmp .lt 9, 3) := by decide +kernel
theorem dX2_come_5 : decode cX2_come 5 = .ok (.iload_n 2, 1) := by decide +kernel
theorem dX2_come_6 : decode cX2_come 6 = .ok (.bipush 6, 2) := by decide +kernel
theorem dX2_come_8 : decode cX2_come 8 = .ok (.if_icmp .le 13, 3) := by decide +kernel
theorem dX2_come_11 : decode cX2_come 11 = .ok (.new 19, 3) := by decide +kernel
theorem dX2_come_14 : decode cX2_come 14 = .ok (.dup, 1) := by decide +kernel
theorem dX2_come_15 : decode cX2_come 15 = .ok (.ldc 21, 2) := by decide +kernel
theorem dX2_come_17 : decode cX2_come 17 = .ok (.invokespecial 23, 3) := by decide +kernel
theorem dX2_come_20 : decode cX2_come 20 = .ok (.athrow, 1) := by decide +kernel
theorem dX2_come_21 : decode cX2_come 21 = .ok (.aload_n 0, 1) := by decide +kernel
theorem dX2_come_22 : decode cX2_come 22 = .ok (.getfield 10, 3) := by decide +kernel
theorem dX2_come_25 : decode cX2_come 25 = .ok (.getfield 26, 3) := by decide +kernel
theorem dX2_come_28 : decode cX2_come 28 = .ok (.getfield 30, 3) := by decide +kernel
theorem dX2_come_31 : decode cX2_come 31 = .ok (.bipush 40, 2) := by decide +kernel
theorem dX2_come_33 : decode cX2_come 33 = .ok (.if_icmp .lt 13, 3) := by decide +kernel
theorem dX2_come_36 : decode cX2_come 36 = .ok (.new 36, 3) := by decide +kernel
theorem dX2_come_39 : decode cX2_come 39 = .ok (.dup, 1) := by decide +kernel
theorem dX2_come_40 : decode cX2_come 40 = .ok (.ldc 38, 2) := by decide +kernel
theorem dX2_come_42 : decode cX2_come 42 = .ok (.invokespecial 40, 3) := by decide +kernel
theorem dX2_come_45 : decode cX2_come 45 = .ok (.athrow, 1) := by decide +kernel
theorem dX2_come_46 : decode cX2_come 46 = .ok (.aload_n 0, 1) := by decide +kernel
theorem dX2_come_47 : decode cX2_come 47 = .ok (.getfield 10, 3) := by decide +kernel
theorem dX2_come_50 : decode cX2_come 50 = .ok (.getfield 26, 3) := by decide +kernel
theorem dX2_come_53 : decode cX2_come 53 = .ok (.iload_n 1, 1) := by decide +kernel
theorem dX2_come_54 : decode cX2_come 54 = .ok (.iload_n 2, 1) := by decide +kernel
theorem dX2_come_55 : decode cX2_come 55 = .ok (.aload_n 0, 1) := by decide +kernel
theorem dX2_come_56 : decode cX2_come 56 = .ok (.getfield 10, 3) := by decide +kernel
theorem dX2_come_59 : decode cX2_come 59 = .ok (.getfield 41, 3) := by decide +kernel
theorem dX2_come_62 : decode cX2_come 62 = .ok (.invokevirtual 44, 3) := by decide +kernel
theorem dX2_come_65 : decode cX2_come 65 = .ok (.ireturn, 1) := by decide +kernel
set_option maxRecDepth 20000 in
theorem ggX2_leave_X1_has : GoodIn wsX2_leave wsX1_has := goodIn_r _ [13, 14, 48, 49, 50, 51, 52, 53, 54, 55, 56, 57, 58, 59] (by decide +kernel) (by decide +kernel)
set_option maxRecDepth 20000 in
theorem gX2_leave_X1_has : GoodIn wsX2_leave (wsV RX2 48 RX1 yX1_has wsX1_has) := goodIn_app (goodIn_of _ (by decide +kernel)) ggX2_leave_X1_has
set_option maxRecDepth 20000 in
theorem ggX2_leave_X1_endWait : GoodIn wsX2_leave wsX1_endWait := goodIn_r _ [18, 19, 20, 21, 22, 23, 12, 24, 25, 26, 27, 28, 14, 29, 48, 49, 50, 51, 52, 53, 54, 55, 56, 57, 58, 59] (by decide +kernel) (by decide +kernel)
set_option maxRecDepth 20000 in
theorem gX2_leave_X1_endWait : GoodIn wsX2_leave (wsV RX2 63 RX1 yX1_endWait wsX1_endWait) := goodIn_app (goodIn_of _ (by decide +kernel)) ggX2_leave_X1_endWait
set_option maxRecDepth 20000 in
theorem ggX2_leave_X1_waited : GoodIn wsX2_leave wsX1_waited := goodIn_r _ [33, 19, 20, 34, 48, 49, 50, 51, 52, 53, 54, 55, 56, 57, 58, 59] (by decide +kernel) (by decide +kernel)
set_option maxRecDepth 20000 in
theorem gX2_leave_X1_waited : GoodIn wsX2_leave (wsV RX2 67 RX1 yX1_waited wsX1_waited) := goodIn_app (goodIn_of _ (by decide +kernel)) ggX2_leave_X1_waited
theorem dX2_leave_0 : decode cX2_leave 0 = .ok (.aload_n 0, 1) := by decide +kernel
theorem dX2_leave_1 : decode cX2_leave 1 = .ok (.getfield 10, 3) := by decide +kernel
theorem dX2_leave_4 : decode cX2_leave 4 = .ok (.getfield 26, 3) := by decide +kernel
theorem dX2_leave_7 : decode cX2_leave 7 = .ok (.iload_n 1, 1) := by decide +kernel
theorem dX2_leave_8 : decode cX2_leave 8 = .ok (.invokevirtual 48, 3) := by decide +kernel
theorem dX2_leave_11 : decode cX2_leave 11 = .ok (.ifCond .ne 13, 3) := by decide +kernel
theorem dX2_leave_14 : decode cX2_leave 14 = .ok (.new 52, 3) := by decide +kernel
theorem dX2_leave_17 : decode cX2_leave 17 = .ok (.dup, 1) := by decide +kernel
theorem dX2_leave_18 : decode cX2_leave 18 = .ok (.ldc 54, 2) := by decide +kernel
theorem dX2_leave_20 : decode cX2_leave 20 = .ok (.invokespecial 56, 3) := by decide +kernel
theorem dX2_leave_23 : decode cX2_leave 23 = .ok (.athrow, 1) := by decide +kernel
theorem dX2_leave_24 : decode cX2_leave 24 = .ok (.aload_n 0, 1) := by decide +kernel
theorem dX2_leave_25 : decode cX2_leave 25 = .ok (.getfield 10, 3) := by decide +kernel
theorem dX2_leave_28 : decode cX2_leave 28 = .ok (.getfield 26, 3) := by decide +kernel
theorem dX2_leave_31 : decode cX2_leave 31 = .ok (.getfield 57, 3) := by decide +kernel
theorem dX2_leave_34 : decode cX2_leave 34 = .ok (.iload_n 1, 1) := by decide +kernel
theorem dX2_leave_35 : decode cX2_leave 35 = .ok (.iaload, 1) := by decide +kernel
theorem dX2_leave_36 : decode cX2_leave 36 = .ok (.ifCond .eq 13, 3) := by decide +kernel
theorem dX2_leave_39 : decode cX2_leave 39 = .ok (.new 36, 3) := by decide +kernel
theorem dX2_leave_42 : decode cX2_leave 42 = .ok (.dup, 1) := by decide +kernel
theorem dX2_leave_43 : decode cX2_leave 43 = .ok (.ldc 61, 2) := by decide +kernel
theorem dX2_leave_45 : decode cX2_leave 45 = .ok (.invokespecial 40, 3) := by decide +kernel
theorem dX2_leave_48 : decode cX2_leave 48 = .ok (.athrow, 1) := by decide +kernel
theorem dX2_leave_49 : decode cX2_leave 49 = .ok (.aload_n 0, 1) := by decide +kernel
theorem dX2_leave_50 : decode cX2_leave 50 = .ok (.getfield 10, 3) := by decide +kernel
theorem dX2_leave_53 : decode cX2_leave 53 = .ok (.getfield 26, 3) := by decide +kernel
theorem dX2_leave_56 : decode cX2_leave 56 = .ok (.iload_n 1, 1) := by decide +kernel
theorem dX2_leave_57 : decode cX2_leave 57 = .ok (.iconst 3, 1) := by decide +kernel
theorem dX2_leave_58 : decode cX2_leave 58 = .ok (.aload_n 0, 1) := by decide +kernel
theorem dX2_leave_59 : decode cX2_leave 59 = .ok (.getfield 10, 3) := by decide +kernel
theorem dX2_leave_62 : decode cX2_leave 62 = .ok (.getfield 41, 3) := by decide +kernel
theorem dX2_leave_65 : decode cX2_leave 65 = .ok (.invokevirtual 63, 3) := by decide +kernel
theorem dX2_leave_68 : decode cX2_leave 68 = .ok (.aload_n 0, 1) := by decide +kernel
theorem dX2_leave_69 : decode cX2_leave 69 = .ok (.getfield 10, 3) := by decide +kernel
theorem dX2_leave_72 : decode cX2_leave 72 = .ok (.getfield 26, 3) := by decide +kernel
theorem dX2_leave_75 : decode cX2_leave 75 = .ok (.iload_n 1, 1) := by decide +kernel
theorem dX2_leave_76 : decode cX2_leave 76 = .ok (.aload_n 0, 1) := by decide +kernel
theorem dX2_leave_77 : decode cX2_leave 77 = .ok (.getfield 10, 3) := by decide +kernel
theorem dX2_leave_80 : decode cX2_leave 80 = .ok (.getfield 41, 3) := by decide +kernel
theorem dX2_leave_83 : decode cX2_leave 83 = .ok (.invokevirtual 67, 3) := by decide +kernel
theorem dX2_leave_86 : decode cX2_leave 86 = .ok (.ireturn, 1) := by decide +kernel
theorem dX2_ring_0 : decode cX2_ring 0 = .ok (.iload_n 1, 1) := by decide +kernel
theorem dX2_ring_1 : decode cX2_ring 1 = .ok (.ifCond .lt 8, 3) := by decide +kernel
theorem dX2_ring_4 : decode cX2_ring 4 = .ok (.iload_n 1, 1) := by decide +kernel
theorem dX2_ring_5 : decode cX2_ring 5 = .ok (.iconst 4, 1) := by decide +kernel
theorem dX2_ring_6 : decode cX2_ring 6 = .ok (.if_icmp .le 13, 3) := by decide +kernel
theorem dX2_ring_9 : decode cX2_ring 9 = .ok (.new 19, 3) := by decide +kernel
theorem dX2_ring_12 : decode cX2_ring 12 = .ok (.dup, 1) := by decide +kernel
theorem dX2_ring_13 : decode cX2_ring 13 = .ok (.ldc 71, 2) := by decide +kernel
theorem dX2_ring_15 : decode cX2_ring 15 = .ok (.invokespecial 23, 3) := by decide +kernel
theorem dX2_ring_18 : decode cX2_ring 18 = .ok (.athrow, 1) := by decide +kernel
theorem dX2_ring_19 : decode cX2_ring 19 = .ok (.aload_n 0, 1) := by decide +kernel
theorem dX2_ring_20 : decode cX2_ring 20 = .ok (.getfield 10, 3) := by decide +kernel
theorem dX2_ring_23 : decode cX2_ring 23 = .ok (.getfield 73, 3) := by decide +kernel
theorem dX2_ring_26 : decode cX2_ring 26 = .ok (.istore_n 2, 1) := by decide +kernel
theorem dX2_ring_27 : decode cX2_ring 27 = .ok (.aload_n 0, 1) := by decide +kernel
theorem dX2_ring_28 : decode cX2_ring 28 = .ok (.getfield 10, 3) := by decide +kernel
theorem dX2_ring_31 : decode cX2_ring 31 = .ok (.iload_n 1, 1) := by decide +kernel
theorem dX2_ring_32 : decode cX2_ring 32 = .ok (.putfield 73, 3) := by decide +kernel
theorem dX2_ring_35 : decode cX2_ring 35 = .ok (.iload_n 2, 1) := by decide +kernel
theorem dX2_ring_36 : decode cX2_ring 36 = .ok (.ireturn, 1) := by decide +kernel
theorem dX2_poise_0 : decode cX2_poise 0 = .ok (.iload_n 1, 1) := by decide +kernel
theorem dX2_poise_1 : decode cX2_poise 1 = .ok (.ifCond .lt 9, 3) := by decide +kernel
theorem dX2_poise_4 : decode cX2_poise 4 = .ok (.iload_n 1, 1) := by decide +kernel
theorem dX2_poise_5 : decode cX2_poise 5 = .ok (.bipush 30, 2) := by decide +kernel
theorem dX2_poise_7 : decode cX2_poise 7 = .ok (.if_icmp .le 13, 3) := by decide +kernel
theorem dX2_poise_10 : decode cX2_poise 10 = .ok (.new 19, 3) := by decide +kernel
theorem dX2_poise_13 : decode cX2_poise 13 = .ok (.dup, 1) := by decide +kernel
theorem dX2_poise_14 : decode cX2_poise 14 = .ok (.ldc 76, 2) := by decide +kernel
theorem dX2_poise_16 : decode cX2_poise 16 = .ok (.invokespecial 23, 3) := by decide +kernel
theorem dX2_poise_19 : decode cX2_poise 19 = .ok (.athrow, 1) := by decide +kernel
theorem dX2_poise_20 : decode cX2_poise 20 = .ok (.aload_n 0, 1) := by decide +kernel
theorem dX2_poise_21 : decode cX2_poise 21 = .ok (.getfield 10, 3) := by decide +kernel
theorem dX2_poise_24 : decode cX2_poise 24 = .ok (.getfield 78, 3) := by decide +kernel
theorem dX2_poise_27 : decode cX2_poise 27 = .ok (.ifCond .eq 25, 3) := by decide +kernel
theorem dX2_poise_30 : decode cX2_poise 30 = .ok (.aload_n 0, 1) := by decide +kernel
theorem dX2_poise_31 : decode cX2_poise 31 = .ok (.getfield 10, 3) := by decide +kernel
theorem dX2_poise_34 : decode cX2_poise 34 = .ok (.getfield 78, 3) := by decide +kernel
theorem dX2_poise_37 : decode cX2_poise 37 = .ok (.bipush 60, 2) := by decide +kernel
theorem dX2_poise_39 : decode cX2_poise 39 = .ok (.if_icmp .eq 13, 3) := by decide +kernel
theorem dX2_poise_42 : decode cX2_poise 42 = .ok (.new 36, 3) := by decide +kernel
theorem dX2_poise_45 : decode cX2_poise 45 = .ok (.dup, 1) := by decide +kernel
theorem dX2_poise_46 : decode cX2_poise 46 = .ok (.ldc 81, 2) := by decide +kernel
theorem dX2_poise_48 : decode cX2_poise 48 = .ok (.invokespecial 40, 3) := by decide +kernel
theorem dX2_poise_51 : decode cX2_poise 51 = .ok (.athrow, 1) := by decide +kernel
theorem dX2_poise_52 : decode cX2_poise 52 = .ok (.aload_n 0, 1) := by decide +kernel
theorem dX2_poise_53 : decode cX2_poise 53 = .ok (.getfield 10, 3) := by decide +kernel
theorem dX2_poise_56 : decode cX2_poise 56 = .ok (.getfield 83, 3) := by decide +kernel
theorem dX2_poise_59 : decode cX2_poise 59 = .ok (.istore_n 2, 1) := by decide +kernel
theorem dX2_poise_60 : decode cX2_poise 60 = .ok (.aload_n 0, 1) := by decide +kernel
theorem dX2_poise_61 : decode cX2_poise 61 = .ok (.getfield 10, 3) := by decide +kernel
theorem dX2_poise_64 : decode cX2_poise 64 = .ok (.iload_n 1, 1) := by decide +kernel
theorem dX2_poise_65 : decode cX2_poise 65 = .ok (.putfield 83, 3) := by decide +kernel
theorem dX2_poise_68 : decode cX2_poise 68 = .ok (.iload_n 2, 1) := by decide +kernel
theorem dX2_poise_69 : decode cX2_poise 69 = .ok (.ireturn, 1) := by decide +kernel
theorem dX2_setCold_0 : decode cX2_setCold 0 = .ok (.iload_n 1, 1) := by decide +kernel
theorem dX2_setCold_1 : decode cX2_setCold 1 = .ok (.ifCond .lt 9, 3) := by decide +kernel
theorem dX2_setCold_4 : decode cX2_setCold 4 = .ok (.iload_n 1, 1) := by decide +kernel
theorem dX2_setCold_5 : decode cX2_setCold 5 = .ok (.bipush 8, 2) := by decide +kernel
theorem dX2_setCold_7 : decode cX2_setCold 7 = .ok (.if_icmp .lt 13, 3) := by decide +kernel
theorem dX2_setCold_10 : decode cX2_setCold 10 = .ok (.new 52, 3) := by decide +kernel
theorem dX2_setCold_13 : decode cX2_setCold 13 = .ok (.dup, 1) := by decide +kernel
theorem dX2_setCold_14 : decode cX2_setCold 14 = .ok (.ldc 86, 2) := by decide +kernel
theorem dX2_setCold_16 : decode cX2_setCold 16 = .ok (.invokespecial 56, 3) := by decide +kernel
theorem dX2_setCold_19 : decode cX2_setCold 19 = .ok (.athrow, 1) := by decide +kernel
theorem dX2_setCold_20 : decode cX2_setCold 20 = .ok (.iload_n 2, 1) := by decide +kernel
theorem dX2_setCold_21 : decode cX2_setCold 21 = .ok (.bipush (-3), 2) := by decide +kernel
theorem dX2_setCold_23 : decode cX2_setCold 23 = .ok (.if_icmp .lt 8, 3) := by decide +kernel
theorem dX2_setCold_26 : decode cX2_setCold 26 = .ok (.iload_n 2, 1) := by decide +kernel
theorem dX2_setCold_27 : decode cX2_setCold 27 = .ok (.iconst 3, 1) := by decide +kernel
theorem dX2_setCold_28 : decode cX2_setCold 28 = .ok (.if_icmp .le 13, 3) := by decide +kernel
theorem dX2_setCold_31 : decode cX2_setCold 31 = .ok (.new 19, 3) := by decide +kernel
theorem dX2_setCold_34 : decode cX2_setCold 34 = .ok (.dup, 1) := by decide +kernel
theorem dX2_setCold_35 : decode cX2_setCold 35 = .ok (.ldc 88, 2) := by decide +kernel
theorem dX2_setCold_37 : decode cX2_setCold 37 = .ok (.invokespecial 23, 3) := by decide +kernel
theorem dX2_setCold_40 : decode cX2_setCold 40 = .ok (.athrow, 1) := by decide +kernel
theorem dX2_setCold_41 : decode cX2_setCold 41 = .ok (.aload_n 0, 1) := by decide +kernel
theorem dX2_setCold_42 : decode cX2_setCold 42 = .ok (.getfield 10, 3) := by decide +kernel
theorem dX2_setCold_45 : decode cX2_setCold 45 = .ok (.getfield 90, 3) := by decide +kernel
theorem dX2_setCold_48 : decode cX2_setCold 48 = .ok (.iload_n 1, 1) := by decide +kernel
theorem dX2_setCold_49 : decode cX2_setCold 49 = .ok (.iaload, 1) := by decide +kernel
theorem dX2_setCold_50 : decode cX2_setCold 50 = .ok (.istore_n 3, 1) := by decide +kernel
theorem dX2_setCold_51 : decode cX2_setCold 51 = .ok (.aload_n 0, 1) := by decide +kernel
theorem dX2_setCold_52 : decode cX2_setCold 52 = .ok (.getfield 10, 3) := by decide +kernel
theorem dX2_setCold_55 : decode cX2_setCold 55 = .ok (.getfield 90, 3) := by decide +kernel
theorem dX2_setCold_58 : decode cX2_setCold 58 = .ok (.iload_n 1, 1) := by decide +kernel
theorem dX2_setCold_59 : decode cX2_setCold 59 = .ok (.iload_n 2, 1) := by decide +kernel
theorem dX2_setCold_60 : decode cX2_setCold 60 = .ok (.iastore, 1) := by decide +kernel
theorem dX2_setCold_61 : decode cX2_setCold 61 = .ok (.iload_n 3, 1) := by decide +kernel
theorem dX2_setCold_62 : decode cX2_setCold 62 = .ok (.ireturn, 1) := by decide +kernel
theorem dX2_crack_0 : decode cX2_crack 0 = .ok (.aload_n 0, 1) := by decide +kernel
theorem dX2_crack_1 : decode cX2_crack 1 = .ok (.getfield 10, 3) := by decide +kernel
theorem dX2_crack_4 : decode cX2_crack 4 = .ok (.iconst 0, 1) := by decide +kernel
theorem dX2_crack_5 : decode cX2_crack 5 = .ok (.aload_n 0, 1) := by decide +kernel
theorem dX2_crack_6 : decode cX2_crack 6 = .ok (.getfield 10, 3) := by decide +kernel
theorem dX2_crack_9 : decode cX2_crack 9 = .ok (.getfield 93, 3) := by decide +kernel
theorem dX2_crack_12 : decode cX2_crack 12 = .ok (.iconst 3, 1) := by decide +kernel
theorem dX2_crack_13 : decode cX2_crack 13 = .ok (.isub, 1) := by decide +kernel
theorem dX2_crack_14 : decode cX2_crack 14 = .ok (.invokestatic 96, 3) := by decide +kernel
theorem dX2_crack_17 : decode cX2_crack 17 = .ok (.putfield 93, 3) := by decide +kernel
theorem dX2_crack_20 : decode cX2_crack 20 = .ok (.aload_n 0, 1) := by decide +kernel
theorem dX2_crack_21 : decode cX2_crack 21 = .ok (.getfield 10, 3) := by decide +kernel
theorem dX2_crack_24 : decode cX2_crack 24 = .ok (.getfield 93, 3) := by decide +kernel
theorem dX2_crack_27 : decode cX2_crack 27 = .ok (.ireturn, 1) := by decide +kernel
set_option maxRecDepth 20000 in
theorem ggX2_traveller_X1_has : GoodIn wsX2_traveller wsX1_has := goodIn_r _ [9, 10, 45, 46, 47, 48, 49, 50, 51, 52, 53, 54, 55, 56] (by decide +kernel) (by decide +kernel)
set_option maxRecDepth 20000 in
theorem gX2_traveller_X1_has : GoodIn wsX2_traveller (wsV RX2 48 RX1 yX1_has wsX1_has) := goodIn_app (goodIn_of _ (by decide +kernel)) ggX2_traveller_X1_has
set_option maxRecDepth 20000 in
theorem ggX2_traveller_X0_factOf : GoodIn wsX2_traveller wsX0_factOf := goodIn_r _ [15, 16, 17, 18, 19, 20, 21, 22, 23, 24, 25, 26, 27, 8, 28, 29, 30, 31, 34, 35, 36, 37, 38, 39, 40, 41, 42, 43, 44, 45, 46, 47, 48, 49, 50, 51, 52, 53, 54, 55, 56] (by decide +kernel) (by decide +kernel)
set_option maxRecDepth 20000 in
theorem gX2_traveller_X0_factOf : GoodIn wsX2_traveller (wsV RX2 103 RX0 yX0_factOf wsX0_factOf) := goodIn_app (goodIn_of _ (by decide +kernel)) ggX2_traveller_X0_factOf
theorem dX2_traveller_0 : decode cX2_traveller 0 = .ok (.aload_n 0, 1) := by decide +kernel
theorem dX2_traveller_1 : decode cX2_traveller 1 = .ok (.getfield 10, 3) := by decide +kernel
theorem dX2_traveller_4 : decode cX2_traveller 4 = .ok (.getfield 26, 3) := by decide +kernel
theorem dX2_traveller_7 : decode cX2_traveller 7 = .ok (.iload_n 1, 1) := by decide +kernel
theorem dX2_traveller_8 : decode cX2_traveller 8 = .ok (.invokevirtual 48, 3) := by decide +kernel
theorem dX2_traveller_11 : decode cX2_traveller 11 = .ok (.ifCond .ne 13, 3) := by decide +kernel
theorem dX2_traveller_14 : decode cX2_traveller 14 = .ok (.new 52, 3) := by decide +kernel
theorem dX2_traveller_17 : decode cX2_traveller 17 = .ok (.dup, 1) := by decide +kernel
theorem dX2_traveller_18 : decode cX2_traveller 18 = .ok (.ldc 54, 2) := by decide +kernel
theorem dX2_traveller_20 : decode cX2_traveller 20 = .ok (.invokespecial 56, 3) := by decide +kernel
theorem dX2_traveller_23 : decode cX2_traveller 23 = .ok (.athrow, 1) := by decide +kernel
theorem dX2_traveller_24 : decode cX2_traveller 24 = .ok (.iload_n 2, 1) := by decide +kernel
theorem dX2_traveller_25 : decode cX2_traveller 25 = .ok (.ifCond .lt 9, 3) := by decide +kernel
theorem dX2_traveller_28 : decode cX2_traveller 28 = .ok (.iload_n 2, 1) := by decide +kernel
theorem dX2_traveller_29 : decode cX2_traveller 29 = .ok (.bipush 7, 2) := by decide +kernel
theorem dX2_traveller_31 : decode cX2_traveller 31 = .ok (.if_icmp .lt 13, 3) := by decide +kernel
theorem dX2_traveller_34 : decode cX2_traveller 34 = .ok (.new 52, 3) := by decide +kernel
theorem dX2_traveller_37 : decode cX2_traveller 37 = .ok (.dup, 1) := by decide +kernel
theorem dX2_traveller_38 : decode cX2_traveller 38 = .ok (.ldc 101, 2) := by decide +kernel
theorem dX2_traveller_40 : decode cX2_traveller 40 = .ok (.invokespecial 56, 3) := by decide +kernel
theorem dX2_traveller_43 : decode cX2_traveller 43 = .ok (.athrow, 1) := by decide +kernel
theorem dX2_traveller_44 : decode cX2_traveller 44 = .ok (.aload_n 0, 1) := by decide +kernel
theorem dX2_traveller_45 : decode cX2_traveller 45 = .ok (.getfield 10, 3) := by decide +kernel
theorem dX2_traveller_48 : decode cX2_traveller 48 = .ok (.iload_n 1, 1) := by decide +kernel
theorem dX2_traveller_49 : decode cX2_traveller 49 = .ok (.iload_n 2, 1) := by decide +kernel
theorem dX2_traveller_50 : decode cX2_traveller 50 = .ok (.invokevirtual 103, 3) := by decide +kernel
theorem dX2_traveller_53 : decode cX2_traveller 53 = .ok (.ireturn, 1) := by decide +kernel
set_option maxRecDepth 20000 in
theorem ggX2_count_X0_total : GoodIn wsX2_count wsX0_total := goodIn_r _ [8, 9, 10, 11, 12, 13, 14, 15, 16, 17, 18, 19, 20, 21, 22, 23, 7, 24, 25, 26, 27, 28, 29, 30, 31, 32, 33, 34, 35, 36, 37, 38, 39, 40, 41, 42, 43, 44, 47, 48, 49, 50, 51, 52, 53, 54, 55, 56, 57, 58, 59, 60, 61, 62, 63, 64, 65, 66, 67, 68, 69] (by decide +kernel) (by decide +kernel)
set_option maxRecDepth 20000 in
theorem gX2_count_X0_total : GoodIn wsX2_count (wsV RX2 108 RX0 yX0_total wsX0_total) := goodIn_app (goodIn_of _ (by decide +kernel)) ggX2_count_X0_total
theorem dX2_count_0 : decode cX2_count 0 = .ok (.iload_n 1, 1) := by decide +kernel
theorem dX2_count_1 : decode cX2_count 1 = .ok (.ifCond .lt 9, 3) := by decide +kernel
theorem dX2_count_4 : decode cX2_count 4 = .ok (.iload_n 1, 1) := by decide +kernel
theorem dX2_count_5 : decode cX2_count 5 = .ok (.bipush 12, 2) := by decide +kernel
theorem dX2_count_7 : decode cX2_count 7 = .ok (.if_icmp .lt 13, 3) := by decide +kernel
theorem dX2_count_10 : decode cX2_count 10 = .ok (.new 52, 3) := by decide +kernel
theorem dX2_count_13 : decode cX2_count 13 = .ok (.dup, 1) := by decide +kernel
theorem dX2_count_14 : decode cX2_count 14 = .ok (.ldc 106, 2) := by decide +kernel
theorem dX2_count_16 : decode cX2_count 16 = .ok (.invokespecial 56, 3) := by decide +kernel
theorem dX2_count_19 : decode cX2_count 19 = .ok (.athrow, 1) := by decide +kernel
theorem dX2_count_20 : decode cX2_count 20 = .ok (.aload_n 0, 1) := by decide +kernel
theorem dX2_count_21 : decode cX2_count 21 = .ok (.getfield 10, 3) := by decide +kernel
theorem dX2_count_24 : decode cX2_count 24 = .ok (.iload_n 1, 1) := by decide +kernel
theorem dX2_count_25 : decode cX2_count 25 = .ok (.invokevirtual 108, 3) := by decide +kernel
theorem dX2_count_28 : decode cX2_count 28 = .ok (.ireturn, 1) := by decide +kernel
set_option maxRecDepth 20000 in
theorem ggX2_speed_X0_speedTowards : GoodIn wsX2_speed wsX0_speedTowards := goodIn_r _ [6, 7, 8, 9, 10, 11, 12, 15, 16, 17, 18, 19, 20, 21, 22, 23, 24, 25] (by decide +kernel) (by decide +kernel)
set_option maxRecDepth 20000 in
theorem gX2_speed_X0_speedTowards : GoodIn wsX2_speed (wsV RX2 112 RX0 yX0_speedTowards wsX0_speedTowards) := goodIn_app (goodIn_of _ (by decide +kernel)) ggX2_speed_X0_speedTowards
theorem dX2_speed_0 : decode cX2_speed 0 = .ok (.aload_n 0, 1) := by decide +kernel
theorem dX2_speed_1 : decode cX2_speed 1 = .ok (.getfield 10, 3) := by decide +kernel
theorem dX2_speed_4 : decode cX2_speed 4 = .ok (.iload_n 1, 1) := by decide +kernel
theorem dX2_speed_5 : decode cX2_speed 5 = .ok (.invokevirtual 112, 3) := by decide +kernel
theorem dX2_speed_8 : decode cX2_speed 8 = .ok (.ireturn, 1) := by decide +kernel
set_option maxRecDepth 20000 in
theorem ggX2_pass_X2_isSpan : GoodIn wsX2_pass wsX2_isSpan := goodIn_r _ [9] (by decide +kernel) (by decide +kernel)
set_option maxRecDepth 20000 in
theorem gX2_pass_X2_isSpan : GoodIn wsX2_pass (va_wsS RX2 116 yX2_isSpan wsX2_isSpan) := goodIn_app (goodIn_of _ (by decide +kernel)) ggX2_pass_X2_isSpan
set_option maxRecDepth 20000 in
theorem ggX2_pass_X0_goOn : GoodIn wsX2_pass wsX0_goOn := goodIn_r _ [14, 15, 16, 17, 13, 18, 19, 20, 21, 22, 23, 24, 25, 26, 27, 28, 29, 30, 31, 32, 33, 34, 35, 36, 37, 38, 39, 40, 41, 42, 43, 44, 45, 46, 47, 48, 49, 50, 51, 52, 53, 54, 55, 56, 57, 58, 59, 60, 61, 62, 63, 64, 65, 66, 67, 68, 69, 70, 71, 72, 73, 74, 75, 76, 77, 78, 79, 80, 81, 82, 83, 84, 85, 86, 87, 88, 89, 90, 91, 92, 93, 94, 95, 96, 97, 98, 99, 100, 101, 102, 103, 104, 107, 108, 109, 110, 111, 112, 113, 114, 115, 116, 117, 118, 119, 120, 121, 122, 123, 124, 125, 126, 127, 128, 129] (by decide +kernel) (by decide +kernel)
set_option maxRecDepth 20000 in
theorem gX2_pass_X0_goOn : GoodIn wsX2_pass (wsV RX2 124 RX0 yX0_goOn wsX0_goOn) := goodIn_app (goodIn_of _ (by decide +kernel)) ggX2_pass_X0_goOn
theorem dX2_pass_0 : decode cX2_pass 0 = .ok (.iload_n 1, 1) := by decide +kernel
theorem dX2_pass_1 : decode cX2_pass 1 = .ok (.invokestatic 116, 3) := by decide +kernel
theorem dX2_pass_4 : decode cX2_pass 4 = .ok (.ifCond .ne 13, 3) := by decide +kernel
theorem dX2_pass_7 : decode cX2_pass 7 = .ok (.new 19, 3) := by decide +kernel
theorem dX2_pass_10 : decode cX2_pass 10 = .ok (.dup, 1) := by decide +kernel
theorem dX2_pass_11 : decode cX2_pass 11 = .ok (.ldc 119, 2) := by decide +kernel
theorem dX2_pass_13 : decode cX2_pass 13 = .ok (.invokespecial 23, 3) := by decide +kernel
theorem dX2_pass_16 : decode cX2_pass 16 = .ok (.athrow, 1) := by decide +kernel
theorem dX2_pass_17 : decode cX2_pass 17 = .ok (.aload_n 0, 1) := by decide +kernel
theorem dX2_pass_18 : decode cX2_pass 18 = .ok (.getfield 10, 3) := by decide +kernel
theorem dX2_pass_21 : decode cX2_pass 21 = .ok (.getfield 26, 3) := by decide +kernel
theorem dX2_pass_24 : decode cX2_pass 24 = .ok (.getfield 121, 3) := by decide +kernel
theorem dX2_pass_27 : decode cX2_pass 27 = .ok (.istore_n 2, 1) := by decide +kernel
theorem dX2_pass_28 : decode cX2_pass 28 = .ok (.aload_n 0, 1) := by decide +kernel
theorem dX2_pass_29 : decode cX2_pass 29 = .ok (.getfield 10, 3) := by decide +kernel
theorem dX2_pass_32 : decode cX2_pass 32 = .ok (.iload_n 1, 1) := by decide +kernel
theorem dX2_pass_33 : decode cX2_pass 33 = .ok (.invokevirtual 124, 3) := by decide +kernel
theorem dX2_pass_36 : decode cX2_pass 36 = .ok (.aload_n 0, 1) := by decide +kernel
theorem dX2_pass_37 : decode cX2_pass 37 = .ok (.getfield 10, 3) := by decide +kernel
theorem dX2_pass_40 : decode cX2_pass 40 = .ok (.getfield 26, 3) := by decide +kernel
theorem dX2_pass_43 : decode cX2_pass 43 = .ok (.getfield 121, 3) := by decide +kernel
theorem dX2_pass_46 : decode cX2_pass 46 = .ok (.iload_n 2, 1) := by decide +kernel
theorem dX2_pass_47 : decode cX2_pass 47 = .ok (.isub, 1) := by decide +kernel
theorem dX2_pass_48 : decode cX2_pass 48 = .ok (.ireturn, 1) := by decide +kernel
set_option maxRecDepth 20000 in
theorem ggX2_when_X1_has : GoodIn wsX2_when wsX1_has := goodIn_r _ [11, 12, 127, 128, 129, 130, 131, 132, 133, 134, 135, 136, 137, 138] (by decide +kernel) (by decide +kernel)
set_option maxRecDepth 20000 in
theorem gX2_when_X1_has : GoodIn wsX2_when (wsV RX2 48 RX1 yX1_has wsX1_has) := goodIn_app (goodIn_of _ (by decide +kernel)) ggX2_when_X1_has
set_option maxRecDepth 20000 in
theorem ggX2_when_X0_copyFrom : GoodIn wsX2_when wsX0_copyFrom := goodIn_r _ [17, 18, 19, 20, 21, 22, 23, 24, 25, 26, 27, 28, 29, 30, 31, 32, 33, 34, 35, 10, 36, 12, 37, 38, 39, 40, 41, 42, 43, 44, 45, 46, 47, 48, 116, 117, 118, 119, 120, 121, 122, 123, 124, 125, 126, 127, 128, 129, 130, 131, 132, 133, 134, 135, 136, 137, 138] (by decide +kernel) (by decide +kernel)
set_option maxRecDepth 20000 in
theorem gX2_when_X0_copyFrom : GoodIn wsX2_when (wsV RX2 128 RX0 yX0_copyFrom wsX0_copyFrom) := goodIn_app (goodIn_of _ (by decide +kernel)) ggX2_when_X0_copyFrom
set_option maxRecDepth 20000 in
theorem ggX2_when_X0_goOneMinute : GoodIn wsX2_when wsX0_goOneMinute := goodIn_r _ [52, 23, 29, 53, 54, 18, 55, 56, 57, 16, 58, 30, 22, 32, 59, 60, 61, 10, 62, 47, 48, 63, 64, 65, 66, 67, 68, 69, 70, 71, 72, 73, 74, 75, 76, 77, 78, 79, 19, 80, 31, 81, 82, 83, 84, 85, 8, 9, 11, 12, 86, 87, 88, 89, 43, 46, 90, 91, 92, 93, 38, 39, 40, 94, 95, 96, 97, 20, 21, 98, 99, 100, 101, 102, 103, 104, 105, 45, 37, 106, 107, 108, 109, 24, 110, 111, 112, 113, 116, 117, 118, 119, 120, 121, 122, 123, 124, 125, 126, 127, 128, 129, 130, 131, 132, 133, 134, 135, 136, 137, 138] (by decide +kernel) (by decide +kernel)
set_option maxRecDepth 20000 in
theorem gX2_when_X0_goOneMinute : GoodIn wsX2_when (wsV RX2 132 RX0 yX0_goOneMinute wsX0_goOneMinute) := goodIn_app (goodIn_of _ (by decide +kernel)) ggX2_when_X0_goOneMinute
theorem dX2_when_0 : decode cX2_when 0 = .ok (.aload_n 0, 1) := by decide +kernel
theorem dX2_when_1 : decode cX2_when 1 = .ok (.getfield 10, 3) := by decide +kernel
theorem dX2_when_4 : decode cX2_when 4 = .ok (.getfield 26, 3) := by decide +kernel
theorem dX2_when_7 : decode cX2_when 7 = .ok (.iload_n 1, 1) := by decide +kernel
theorem dX2_when_8 : decode cX2_when 8 = .ok (.invokevirtual 48, 3) := by decide +kernel
theorem dX2_when_11 : decode cX2_when 11 = .ok (.ifCond .ne 13, 3) := by decide +kernel
theorem dX2_when_14 : decode cX2_when 14 = .ok (.new 52, 3) := by decide +kernel
theorem dX2_when_17 : decode cX2_when 17 = .ok (.dup, 1) := by decide +kernel
theorem dX2_when_18 : decode cX2_when 18 = .ok (.ldc 54, 2) := by decide +kernel
theorem dX2_when_20 : decode cX2_when 20 = .ok (.invokespecial 56, 3) := by decide +kernel
theorem dX2_when_23 : decode cX2_when 23 = .ok (.athrow, 1) := by decide +kernel
theorem dX2_when_24 : decode cX2_when 24 = .ok (.aload_n 0, 1) := by decide +kernel
theorem dX2_when_25 : decode cX2_when 25 = .ok (.getfield 16, 3) := by decide +kernel
theorem dX2_when_28 : decode cX2_when 28 = .ok (.aload_n 0, 1) := by decide +kernel
theorem dX2_when_29 : decode cX2_when 29 = .ok (.getfield 10, 3) := by decide +kernel
theorem dX2_when_32 : decode cX2_when 32 = .ok (.invokevirtual 128, 3) := by decide +kernel
theorem dX2_when_35 : decode cX2_when 35 = .ok (.iconst 0, 1) := by decide +kernel
theorem dX2_when_36 : decode cX2_when 36 = .ok (.istore_n 2, 1) := by decide +kernel
theorem dX2_when_37 : decode cX2_when 37 = .ok (.iload_n 2, 1) := by decide +kernel
theorem dX2_when_38 : decode cX2_when 38 = .ok (.sipush 400, 3) := by decide +kernel
theorem dX2_when_41 : decode cX2_when 41 = .ok (.if_icmp .gt 34, 3) := by decide +kernel
theorem dX2_when_44 : decode cX2_when 44 = .ok (.aload_n 0, 1) := by decide +kernel
theorem dX2_when_45 : decode cX2_when 45 = .ok (.getfield 16, 3) := by decide +kernel
theorem dX2_when_48 : decode cX2_when 48 = .ok (.getfield 26, 3) := by decide +kernel
theorem dX2_when_51 : decode cX2_when 51 = .ok (.getfield 57, 3) := by decide +kernel
theorem dX2_when_54 : decode cX2_when 54 = .ok (.iload_n 1, 1) := by decide +kernel
theorem dX2_when_55 : decode cX2_when 55 = .ok (.iaload, 1) := by decide +kernel
theorem dX2_when_56 : decode cX2_when 56 = .ok (.iconst 2, 1) := by decide +kernel
theorem dX2_when_57 : decode cX2_when 57 = .ok (.if_icmp .ne 5, 3) := by decide +kernel
theorem dX2_when_60 : decode cX2_when 60 = .ok (.iload_n 2, 1) := by decide +kernel
theorem dX2_when_61 : decode cX2_when 61 = .ok (.ireturn, 1) := by decide +kernel
theorem dX2_when_62 : decode cX2_when 62 = .ok (.aload_n 0, 1) := by decide +kernel
theorem dX2_when_63 : decode cX2_when 63 = .ok (.getfield 16, 3) := by decide +kernel
theorem dX2_when_66 : decode cX2_when 66 = .ok (.invokevirtual 132, 3) := by decide +kernel
theorem dX2_when_69 : decode cX2_when 69 = .ok (.iinc 2 1, 3) := by decide +kernel
theorem dX2_when_72 : decode cX2_when 72 = .ok (.goto (-35), 3) := by decide +kernel
theorem dX2_when_75 : decode cX2_when 75 = .ok (.iconst (-1), 1) := by decide +kernel
theorem dX2_when_76 : decode cX2_when 76 = .ok (.ireturn, 1) := by decide +kernel
set_option maxRecDepth 20000 in
theorem ggX2_foresee_X2_isSpan : GoodIn wsX2_foresee wsX2_isSpan := goodIn_r _ [15] (by decide +kernel) (by decide +kernel)
set_option maxRecDepth 20000 in
theorem gX2_foresee_X2_isSpan : GoodIn wsX2_foresee (va_wsS RX2 116 yX2_isSpan wsX2_isSpan) := goodIn_app (goodIn_of _ (by decide +kernel)) ggX2_foresee_X2_isSpan
set_option maxRecDepth 20000 in
theorem ggX2_foresee_X0_copyFrom : GoodIn wsX2_foresee wsX0_copyFrom := goodIn_r _ [20, 21, 22, 23, 24, 25, 26, 27, 28, 29, 30, 31, 32, 33, 34, 35, 36, 37, 38, 39, 40, 41, 42, 43, 44, 45, 46, 47, 48, 49, 50, 51, 52, 53, 128, 129, 130, 131, 132, 133, 134, 135, 136, 137, 138, 139, 140, 141, 142, 143, 144, 145, 146, 147, 148, 149, 150] (by decide +kernel) (by decide +kernel)
set_option maxRecDepth 20000 in
theorem gX2_foresee_X0_copyFrom : GoodIn wsX2_foresee (wsV RX2 128 RX0 yX0_copyFrom wsX0_copyFrom) := goodIn_app (goodIn_of _ (by decide +kernel)) ggX2_foresee_X0_copyFrom
set_option maxRecDepth 20000 in
theorem ggX2_foresee_X0_goOn : GoodIn wsX2_foresee wsX0_goOn := goodIn_r _ [57, 58, 59, 60, 19, 61, 26, 32, 62, 63, 21, 64, 65, 66, 67, 33, 25, 35, 68, 69, 70, 39, 71, 52, 53, 72, 73, 74, 75, 76, 77, 78, 79, 80, 81, 82, 83, 84, 85, 86, 87, 88, 22, 89, 34, 90, 91, 92, 93, 94, 95, 96, 97, 41, 98, 99, 100, 101, 48, 51, 102, 103, 104, 105, 43, 44, 45, 106, 107, 108, 109, 23, 24, 110, 111, 112, 113, 114, 115, 116, 117, 50, 42, 118, 119, 120, 121, 27, 122, 123, 124, 125, 128, 129, 130, 131, 132, 133, 134, 135, 136, 137, 138, 139, 140, 141, 142, 143, 144, 145, 146, 147, 148, 149, 150] (by decide +kernel) (by decide +kernel)
set_option maxRecDepth 20000 in
theorem gX2_foresee_X0_goOn : GoodIn wsX2_foresee (wsV RX2 124 RX0 yX0_goOn wsX0_goOn) := goodIn_app (goodIn_of _ (by decide +kernel)) ggX2_foresee_X0_goOn
theorem dX2_foresee_0 : decode cX2_foresee 0 = .ok (.iload_n 1, 1) := by decide +kernel
theorem dX2_foresee_1 : decode cX2_foresee 1 = .ok (.invokestatic 116, 3) := by decide +kernel
theorem dX2_foresee_4 : decode cX2_foresee 4 = .ok (.ifCond .ne 13, 3) := by decide +kernel
theorem dX2_foresee_7 : decode cX2_foresee 7 = .ok (.new 19, 3) := by decide +kernel
theorem dX2_foresee_10 : decode cX2_foresee 10 = .ok (.dup, 1) := by decide +kernel
theorem dX2_foresee_11 : decode cX2_foresee 11 = .ok (.ldc 119, 2) := by decide +kernel
theorem dX2_foresee_13 : decode cX2_foresee 13 = .ok (.invokespecial 23, 3) := by decide +kernel
theorem dX2_foresee_16 : decode cX2_foresee 16 = .ok (.athrow, 1) := by decide +kernel
theorem dX2_foresee_17 : decode cX2_foresee 17 = .ok (.iload_n 2, 1) := by decide +kernel
theorem dX2_foresee_18 : decode cX2_foresee 18 = .ok (.ifCond .lt 8, 3) := by decide +kernel
theorem dX2_foresee_21 : decode cX2_foresee 21 = .ok (.iload_n 2, 1) := by decide +kernel
theorem dX2_foresee_22 : decode cX2_foresee 22 = .ok (.iconst 4, 1) := by decide +kernel
theorem dX2_foresee_23 : decode cX2_foresee 23 = .ok (.if_icmp .lt 13, 3) := by decide +kernel
theorem dX2_foresee_26 : decode cX2_foresee 26 = .ok (.new 52, 3) := by decide +kernel
theorem dX2_foresee_29 : decode cX2_foresee 29 = .ok (.dup, 1) := by decide +kernel
theorem dX2_foresee_30 : decode cX2_foresee 30 = .ok (.ldc 135, 2) := by decide +kernel
theorem dX2_foresee_32 : decode cX2_foresee 32 = .ok (.invokespecial 56, 3) := by decide +kernel
theorem dX2_foresee_35 : decode cX2_foresee 35 = .ok (.athrow, 1) := by decide +kernel
theorem dX2_foresee_36 : decode cX2_foresee 36 = .ok (.aload_n 0, 1) := by decide +kernel
theorem dX2_foresee_37 : decode cX2_foresee 37 = .ok (.getfield 16, 3) := by decide +kernel
theorem dX2_foresee_40 : decode cX2_foresee 40 = .ok (.aload_n 0, 1) := by decide +kernel
theorem dX2_foresee_41 : decode cX2_foresee 41 = .ok (.getfield 10, 3) := by decide +kernel
theorem dX2_foresee_44 : decode cX2_foresee 44 = .ok (.invokevirtual 128, 3) := by decide +kernel
theorem dX2_foresee_47 : decode cX2_foresee 47 = .ok (.aload_n 0, 1) := by decide +kernel
theorem dX2_foresee_48 : decode cX2_foresee 48 = .ok (.getfield 16, 3) := by decide +kernel
theorem dX2_foresee_51 : decode cX2_foresee 51 = .ok (.iload_n 1, 1) := by decide +kernel
theorem dX2_foresee_52 : decode cX2_foresee 52 = .ok (.invokevirtual 124, 3) := by decide +kernel
theorem dX2_foresee_55 : decode cX2_foresee 55 = .ok (.iload_n 2, 1) := by decide +kernel
theorem dX2_foresee_56 : decode cX2_foresee 56 = .ok (.tableswitch 74 0 2 #[28, 50, 66], 28) := by decide +kernel
theorem dX2_foresee_84 : decode cX2_foresee 84 = .ok (.aload_n 0, 1) := by decide +kernel
theorem dX2_foresee_85 : decode cX2_foresee 85 = .ok (.getfield 16, 3) := by decide +kernel
theorem dX2_foresee_88 : decode cX2_foresee 88 = .ok (.getfield 26, 3) := by decide +kernel
theorem dX2_foresee_91 : decode cX2_foresee 91 = .ok (.getfield 121, 3) := by decide +kernel
theorem dX2_foresee_94 : decode cX2_foresee 94 = .ok (.aload_n 0, 1) := by decide +kernel
theorem dX2_foresee_95 : decode cX2_foresee 95 = .ok (.getfield 10, 3) := by decide +kernel
theorem dX2_foresee_98 : decode cX2_foresee 98 = .ok (.getfield 26, 3) := by decide +kernel
theorem dX2_foresee_101 : decode cX2_foresee 101 = .ok (.getfield 121, 3) := by decide +kernel
theorem dX2_foresee_104 : decode cX2_foresee 104 = .ok (.isub, 1) := by decide +kernel
theorem dX2_foresee_105 : decode cX2_foresee 105 = .ok (.ireturn, 1) := by decide +kernel
theorem dX2_foresee_106 : decode cX2_foresee 106 = .ok (.aload_n 0, 1) := by decide +kernel
theorem dX2_foresee_107 : decode cX2_foresee 107 = .ok (.getfield 16, 3) := by decide +kernel
theorem dX2_foresee_110 : decode cX2_foresee 110 = .ok (.getfield 137, 3) := by decide +kernel
theorem dX2_foresee_113 : decode cX2_foresee 113 = .ok (.aload_n 0, 1) := by decide +kernel
theorem dX2_foresee_114 : decode cX2_foresee 114 = .ok (.getfield 10, 3) := by decide +kernel
theorem dX2_foresee_117 : decode cX2_foresee 117 = .ok (.getfield 137, 3) := by decide +kernel
theorem dX2_foresee_120 : decode cX2_foresee 120 = .ok (.isub, 1) := by decide +kernel
theorem dX2_foresee_121 : decode cX2_foresee 121 = .ok (.ireturn, 1) := by decide +kernel
theorem dX2_foresee_122 : decode cX2_foresee 122 = .ok (.aload_n 0, 1) := by decide +kernel
theorem dX2_foresee_123 : decode cX2_foresee 123 = .ok (.getfield 16, 3) := by decide +kernel
theorem dX2_foresee_126 : decode cX2_foresee 126 = .ok (.getfield 78, 3) := by decide +kernel
theorem dX2_foresee_129 : decode cX2_foresee 129 = .ok (.ireturn, 1) := by decide +kernel
theorem dX2_foresee_130 : decode cX2_foresee 130 = .ok (.aload_n 0, 1) := by decide +kernel
theorem dX2_foresee_131 : decode cX2_foresee 131 = .ok (.getfield 16, 3) := by decide +kernel
theorem dX2_foresee_134 : decode cX2_foresee 134 = .ok (.getfield 93, 3) := by decide +kernel
theorem dX2_foresee_137 : decode cX2_foresee 137 = .ok (.ireturn, 1) := by decide +kernel
set_option maxRecDepth 20000 in
theorem ggX2_bestCode_X2_isSpan : GoodIn wsX2_bestCode wsX2_isSpan := goodIn_r _ [8] (by decide +kernel) (by decide +kernel)
set_option maxRecDepth 20000 in
theorem gX2_bestCode_X2_isSpan : GoodIn wsX2_bestCode (va_wsS RX2 116 yX2_isSpan wsX2_isSpan) := goodIn_app (goodIn_of _ (by decide +kernel)) ggX2_bestCode_X2_isSpan
set_option maxRecDepth 20000 in
theorem ggX2_bestCode_X2_waitWith : GoodIn wsX2_bestCode wsX2_waitWith := goodIn_r _ [12, 13, 3, 14, 4, 15, 16, 17, 18, 19, 20, 21, 22, 23, 24, 25, 26, 27, 28, 29, 30, 31, 32, 33, 34, 35, 36, 37, 38, 39, 40, 41, 42, 43, 44, 45, 46, 47, 48, 49, 50, 51, 52, 53, 54, 55, 56, 57, 58, 59, 60, 61, 62, 63, 64, 65, 66, 67, 68, 69, 70, 71, 72, 73, 74, 75, 76, 77, 78, 79, 80, 81, 82, 83, 84, 85, 86, 87, 88, 89, 90, 91, 92, 93, 94, 95, 96, 97, 98, 99, 100, 101, 102, 103, 104, 105, 106, 107, 108, 109, 110, 111, 112, 113, 114, 115, 116, 117, 118, 119, 120, 121, 122, 123, 124, 125, 126, 127, 128, 129, 130, 131, 132, 133, 134, 135, 136, 137, 138, 139, 140, 141, 142, 143, 144, 145, 146, 147, 148, 149, 150] (by decide +kernel) (by decide +kernel)
set_option maxRecDepth 20000 in
theorem gX2_bestCode_X2_waitWith : GoodIn wsX2_bestCode (wsV RX2 140 RX2 yX2_waitWith wsX2_waitWith) := goodIn_app (goodIn_of _ (by decide +kernel)) ggX2_bestCode_X2_waitWith
theorem dX2_bestCode_0 : decode cX2_bestCode 0 = .ok (.iload_n 1, 1) := by decide +kernel
theorem dX2_bestCode_1 : decode cX2_bestCode 1 = .ok (.invokestatic 116, 3) := by decide +kernel
theorem dX2_bestCode_4 : decode cX2_bestCode 4 = .ok (.ifCond .ne 13, 3) := by decide +kernel
theorem dX2_bestCode_7 : decode cX2_bestCode 7 = .ok (.new 19, 3) := by decide +kernel
theorem dX2_bestCode_10 : decode cX2_bestCode 10 = .ok (.dup, 1) := by decide +kernel
theorem dX2_bestCode_11 : decode cX2_bestCode 11 = .ok (.ldc 119, 2) := by decide +kernel
theorem dX2_bestCode_13 : decode cX2_bestCode 13 = .ok (.invokespecial 23, 3) := by decide +kernel
theorem dX2_bestCode_16 : decode cX2_bestCode 16 = .ok (.athrow, 1) := by decide +kernel
theorem dX2_bestCode_17 : decode cX2_bestCode 17 = .ok (.iconst 0, 1) := by decide +kernel
theorem dX2_bestCode_18 : decode cX2_bestCode 18 = .ok (.istore_n 2, 1) := by decide +kernel
theorem dX2_bestCode_19 : decode cX2_bestCode 19 = .ok (.aload_n 0, 1) := by decide +kernel
theorem dX2_bestCode_20 : decode cX2_bestCode 20 = .ok (.iload_n 2, 1) := by decide +kernel
theorem dX2_bestCode_21 : decode cX2_bestCode 21 = .ok (.aload_n 0, 1) := by decide +kernel
theorem dX2_bestCode_22 : decode cX2_bestCode 22 = .ok (.getfield 10, 3) := by decide +kernel
theorem dX2_bestCode_25 : decode cX2_bestCode 25 = .ok (.getfield 83, 3) := by decide +kernel
theorem dX2_bestCode_28 : decode cX2_bestCode 28 = .ok (.iload_n 1, 1) := by decide +kernel
theorem dX2_bestCode_29 : decode cX2_bestCode 29 = .ok (.invokevirtual 140, 3) := by decide +kernel
theorem dX2_bestCode_32 : decode cX2_bestCode 32 = .ok (.istore_n 3, 1) := by decide +kernel
theorem dX2_bestCode_33 : decode cX2_bestCode 33 = .ok (.iload_n 2, 1) := by decide +kernel
theorem dX2_bestCode_34 : decode cX2_bestCode 34 = .ok (.iconst 1, 1) := by decide +kernel
theorem dX2_bestCode_35 : decode cX2_bestCode 35 = .ok (.iadd, 1) := by decide +kernel
theorem dX2_bestCode_36 : decode cX2_bestCode 36 = .ok (.istore 4, 2) := by decide +kernel
theorem dX2_bestCode_38 : decode cX2_bestCode 38 = .ok (.iload 4, 2) := by decide +kernel
theorem dX2_bestCode_40 : decode cX2_bestCode 40 = .ok (.iconst 3, 1) := by decide +kernel
theorem dX2_bestCode_41 : decode cX2_bestCode 41 = .ok (.if_icmp .gt 37, 3) := by decide +kernel
theorem dX2_bestCode_44 : decode cX2_bestCode 44 = .ok (.aload_n 0, 1) := by decide +kernel
theorem dX2_bestCode_45 : decode cX2_bestCode 45 = .ok (.iload 4, 2) := by decide +kernel
theorem dX2_bestCode_47 : decode cX2_bestCode 47 = .ok (.aload_n 0, 1) := by decide +kernel
theorem dX2_bestCode_48 : decode cX2_bestCode 48 = .ok (.getfield 10, 3) := by decide +kernel
theorem dX2_bestCode_51 : decode cX2_bestCode 51 = .ok (.getfield 83, 3) := by decide +kernel
theorem dX2_bestCode_54 : decode cX2_bestCode 54 = .ok (.iload_n 1, 1) := by decide +kernel
theorem dX2_bestCode_55 : decode cX2_bestCode 55 = .ok (.invokevirtual 140, 3) := by decide +kernel
theorem dX2_bestCode_58 : decode cX2_bestCode 58 = .ok (.istore 5, 2) := by decide +kernel
theorem dX2_bestCode_60 : decode cX2_bestCode 60 = .ok (.iload 5, 2) := by decide +kernel
theorem dX2_bestCode_62 : decode cX2_bestCode 62 = .ok (.iload_n 3, 1) := by decide +kernel
theorem dX2_bestCode_63 : decode cX2_bestCode 63 = .ok (.if_icmp .ge 9, 3) := by decide +kernel
theorem dX2_bestCode_66 : decode cX2_bestCode 66 = .ok (.iload 5, 2) := by decide +kernel
theorem dX2_bestCode_68 : decode cX2_bestCode 68 = .ok (.istore_n 3, 1) := by decide +kernel
theorem dX2_bestCode_69 : decode cX2_bestCode 69 = .ok (.iload 4, 2) := by decide +kernel
theorem dX2_bestCode_71 : decode cX2_bestCode 71 = .ok (.istore_n 2, 1) := by decide +kernel
theorem dX2_bestCode_72 : decode cX2_bestCode 72 = .ok (.iinc 4 1, 3) := by decide +kernel
theorem dX2_bestCode_75 : decode cX2_bestCode 75 = .ok (.goto (-37), 3) := by decide +kernel
theorem dX2_bestCode_78 : decode cX2_bestCode 78 = .ok (.iload_n 2, 1) := by decide +kernel
theorem dX2_bestCode_79 : decode cX2_bestCode 79 = .ok (.ireturn, 1) := by decide +kernel
set_option maxRecDepth 20000 in
theorem ggX2_bestPoise_X2_isSpan : GoodIn wsX2_bestPoise wsX2_isSpan := goodIn_r _ [8] (by decide +kernel) (by decide +kernel)
set_option maxRecDepth 20000 in
theorem gX2_bestPoise_X2_isSpan : GoodIn wsX2_bestPoise (va_wsS RX2 116 yX2_isSpan wsX2_isSpan) := goodIn_app (goodIn_of _ (by decide +kernel)) ggX2_bestPoise_X2_isSpan
set_option maxRecDepth 20000 in
theorem ggX2_bestPoise_X2_waitWith : GoodIn wsX2_bestPoise wsX2_waitWith := goodIn_r _ [12, 13, 3, 4, 14, 15, 16, 17, 18, 19, 20, 21, 22, 23, 24, 25, 26, 27, 28, 29, 30, 31, 32, 33, 34, 35, 36, 37, 38, 39, 40, 41, 42, 43, 44, 45, 46, 47, 48, 49, 50, 51, 52, 53, 54, 55, 56, 57, 58, 59, 60, 61, 62, 63, 64, 65, 66, 67, 68, 69, 70, 71, 72, 73, 74, 75, 76, 77, 78, 79, 80, 81, 82, 83, 84, 85, 86, 87, 88, 89, 90, 91, 92, 93, 94, 95, 96, 97, 98, 99, 100, 101, 102, 103, 104, 105, 106, 107, 108, 109, 110, 111, 112, 113, 114, 115, 116, 117, 118, 119, 120, 121, 122, 123, 124, 125, 126, 127, 128, 129, 130, 131, 132, 133, 134, 135, 136, 137, 138, 139, 140, 141, 142, 143, 144, 145, 146, 147, 148, 149, 150] (by decide +kernel) (by decide +kernel)
set_option maxRecDepth 20000 in
theorem gX2_bestPoise_X2_waitWith : GoodIn wsX2_bestPoise (wsV RX2 140 RX2 yX2_waitWith wsX2_waitWith) := goodIn_app (goodIn_of _ (by decide +kernel)) ggX2_bestPoise_X2_waitWith
theorem dX2_bestPoise_0 : decode cX2_bestPoise 0 = .ok (.iload_n 1, 1) := by decide +kernel
theorem dX2_bestPoise_1 : decode cX2_bestPoise 1 = .ok (.invokestatic 116, 3) := by decide +kernel
theorem dX2_bestPoise_4 : decode cX2_bestPoise 4 = .ok (.ifCond .ne 13, 3) := by decide +kernel
theorem dX2_bestPoise_7 : decode cX2_bestPoise 7 = .ok (.new 19, 3) := by decide +kernel
theorem dX2_bestPoise_10 : decode cX2_bestPoise 10 = .ok (.dup, 1) := by decide +kernel
theorem dX2_bestPoise_11 : decode cX2_bestPoise 11 = .ok (.ldc 119, 2) := by decide +kernel
theorem dX2_bestPoise_13 : decode cX2_bestPoise 13 = .ok (.invokespecial 23, 3) := by decide +kernel
theorem dX2_bestPoise_16 : decode cX2_bestPoise 16 = .ok (.athrow, 1) := by decide +kernel
theorem dX2_bestPoise_17 : decode cX2_bestPoise 17 = .ok (.iconst 0, 1) := by decide +kernel
theorem dX2_bestPoise_18 : decode cX2_bestPoise 18 = .ok (.istore_n 2, 1) := by decide +kernel
theorem dX2_bestPoise_19 : decode cX2_bestPoise 19 = .ok (.aload_n 0, 1) := by decide +kernel
theorem dX2_bestPoise_20 : decode cX2_bestPoise 20 = .ok (.aload_n 0, 1) := by decide +kernel
theorem dX2_bestPoise_21 : decode cX2_bestPoise 21 = .ok (.getfield 10, 3) := by decide +kernel
theorem dX2_bestPoise_24 : decode cX2_bestPoise 24 = .ok (.getfield 73, 3) := by decide +kernel
theorem dX2_bestPoise_27 : decode cX2_bestPoise 27 = .ok (.iload_n 2, 1) := by decide +kernel
theorem dX2_bestPoise_28 : decode cX2_bestPoise 28 = .ok (.iload_n 1, 1) := by decide +kernel
theorem dX2_bestPoise_29 : decode cX2_bestPoise 29 = .ok (.invokevirtual 140, 3) := by decide +kernel
theorem dX2_bestPoise_32 : decode cX2_bestPoise 32 = .ok (.istore_n 3, 1) := by decide +kernel
theorem dX2_bestPoise_33 : decode cX2_bestPoise 33 = .ok (.iload_n 2, 1) := by decide +kernel
theorem dX2_bestPoise_34 : decode cX2_bestPoise 34 = .ok (.iconst 1, 1) := by decide +kernel
theorem dX2_bestPoise_35 : decode cX2_bestPoise 35 = .ok (.iadd, 1) := by decide +kernel
theorem dX2_bestPoise_36 : decode cX2_bestPoise 36 = .ok (.istore 4, 2) := by decide +kernel
theorem dX2_bestPoise_38 : decode cX2_bestPoise 38 = .ok (.iload 4, 2) := by decide +kernel
theorem dX2_bestPoise_40 : decode cX2_bestPoise 40 = .ok (.bipush 30, 2) := by decide +kernel
theorem dX2_bestPoise_42 : decode cX2_bestPoise 42 = .ok (.if_icmp .gt 37, 3) := by decide +kernel
theorem dX2_bestPoise_45 : decode cX2_bestPoise 45 = .ok (.aload_n 0, 1) := by decide +kernel
theorem dX2_bestPoise_46 : decode cX2_bestPoise 46 = .ok (.aload_n 0, 1) := by decide +kernel
theorem dX2_bestPoise_47 : decode cX2_bestPoise 47 = .ok (.getfield 10, 3) := by decide +kernel
theorem dX2_bestPoise_50 : decode cX2_bestPoise 50 = .ok (.getfield 73, 3) := by decide +kernel
theorem dX2_bestPoise_53 : decode cX2_bestPoise 53 = .ok (.iload 4, 2) := by decide +kernel
theorem dX2_bestPoise_55 : decode cX2_bestPoise 55 = .ok (.iload_n 1, 1) := by decide +kernel
theorem dX2_bestPoise_56 : decode cX2_bestPoise 56 = .ok (.invokevirtual 140, 3) := by decide +kernel
theorem dX2_bestPoise_59 : decode cX2_bestPoise 59 = .ok (.istore 5, 2) := by decide +kernel
theorem dX2_bestPoise_61 : decode cX2_bestPoise 61 = .ok (.iload 5, 2) := by decide +kernel
theorem dX2_bestPoise_63 : decode cX2_bestPoise 63 = .ok (.iload_n 3, 1) := by decide +kernel
theorem dX2_bestPoise_64 : decode cX2_bestPoise 64 = .ok (.if_icmp .ge 9, 3) := by decide +kernel
theorem dX2_bestPoise_67 : decode cX2_bestPoise 67 = .ok (.iload 5, 2) := by decide +kernel
theorem dX2_bestPoise_69 : decode cX2_bestPoise 69 = .ok (.istore_n 3, 1) := by decide +kernel
theorem dX2_bestPoise_70 : decode cX2_bestPoise 70 = .ok (.iload 4, 2) := by decide +kernel
theorem dX2_bestPoise_72 : decode cX2_bestPoise 72 = .ok (.istore_n 2, 1) := by decide +kernel
theorem dX2_bestPoise_73 : decode cX2_bestPoise 73 = .ok (.iinc 4 1, 3) := by decide +kernel
theorem dX2_bestPoise_76 : decode cX2_bestPoise 76 = .ok (.goto (-38), 3) := by decide +kernel
theorem dX2_bestPoise_79 : decode cX2_bestPoise 79 = .ok (.iload_n 2, 1) := by decide +kernel
theorem dX2_bestPoise_80 : decode cX2_bestPoise 80 = .ok (.ireturn, 1) := by decide +kernel
theorem dX2_mean_0 : decode cX2_mean 0 = .ok (.aload_n 0, 1) := by decide +kernel
theorem dX2_mean_1 : decode cX2_mean 1 = .ok (.getfield 10, 3) := by decide +kernel
theorem dX2_mean_4 : decode cX2_mean 4 = .ok (.getfield 26, 3) := by decide +kernel
theorem dX2_mean_7 : decode cX2_mean 7 = .ok (.getfield 30, 3) := by decide +kernel
theorem dX2_mean_10 : decode cX2_mean 10 = .ok (.istore_n 1, 1) := by decide +kernel
theorem dX2_mean_11 : decode cX2_mean 11 = .ok (.iload_n 1, 1) := by decide +kernel
theorem dX2_mean_12 : decode cX2_mean 12 = .ok (.ifCond .ne 5, 3) := by decide +kernel
theorem dX2_mean_15 : decode cX2_mean 15 = .ok (.dconst 0, 1) := by decide +kernel
theorem dX2_mean_16 : decode cX2_mean 16 = .ok (.dreturn, 1) := by decide +kernel
theorem dX2_mean_17 : decode cX2_mean 17 = .ok (.aload_n 0, 1) := by decide +kernel
theorem dX2_mean_18 : decode cX2_mean 18 = .ok (.getfield 10, 3) := by decide +kernel
theorem dX2_mean_21 : decode cX2_mean 21 = .ok (.getfield 137, 3) := by decide +kernel
theorem dX2_mean_24 : decode cX2_mean 24 = .ok (.i2d, 1) := by decide +kernel
theorem dX2_mean_25 : decode cX2_mean 25 = .ok (.iload_n 1, 1) := by decide +kernel
theorem dX2_mean_26 : decode cX2_mean 26 = .ok (.i2d, 1) := by decide +kernel
theorem dX2_mean_27 : decode cX2_mean 27 = .ok (.ddiv, 1) := by decide +kernel
theorem dX2_mean_28 : decode cX2_mean 28 = .ok (.dreturn, 1) := by decide +kernel
set_option maxRecDepth 20000 in
theorem ggX2_digest_X0_total : GoodIn wsX2_digest wsX0_total := goodIn_r _ [11, 12, 13, 14, 15, 16, 17, 18, 19, 20, 21, 22, 23, 24, 25, 26, 10, 27, 28, 29, 30, 31, 32, 33, 34, 35, 36, 37, 38, 39, 40, 41, 42, 43, 44, 45, 46, 47, 67, 68, 69, 70, 71, 72, 73, 74, 75, 76, 77, 78, 79, 80, 81, 82, 83, 84, 85, 86, 87, 88, 89] (by decide +kernel) (by decide +kernel)
set_option maxRecDepth 20000 in
theorem gX2_digest_X0_total : GoodIn wsX2_digest (wsV RX2 108 RX0 yX0_total wsX0_total) := goodIn_app (goodIn_of _ (by decide +kernel)) ggX2_digest_X0_total
set_option maxRecDepth 20000 in
theorem ggX2_digest_X0_factOf : GoodIn wsX2_digest wsX0_factOf := goodIn_r _ [51, 17, 52, 53, 54, 55, 12, 23, 56, 57, 58, 59, 60, 32, 61, 62, 63, 64, 67, 68, 69, 70, 71, 72, 73, 74, 75, 76, 77, 78, 79, 80, 81, 82, 83, 84, 85, 86, 87, 88, 89] (by decide +kernel) (by decide +kernel)
set_option maxRecDepth 20000 in
theorem gX2_digest_X0_factOf : GoodIn wsX2_digest (wsV RX2 103 RX0 yX0_factOf wsX0_factOf) := goodIn_app (goodIn_of _ (by decide +kernel)) ggX2_digest_X0_factOf
theorem dX2_digest_0 : decode cX2_digest 0 = .ok (.ldc2_w 144, 3) := by decide +kernel
theorem dX2_digest_3 : decode cX2_digest 3 = .ok (.lstore_n 1, 1) := by decide +kernel
theorem dX2_digest_4 : decode cX2_digest 4 = .ok (.iconst 0, 1) := by decide +kernel
theorem dX2_digest_5 : decode cX2_digest 5 = .ok (.istore_n 3, 1) := by decide +kernel
theorem dX2_digest_6 : decode cX2_digest 6 = .ok (.iload_n 3, 1) := by decide +kernel
theorem dX2_digest_7 : decode cX2_digest 7 = .ok (.bipush 12, 2) := by decide +kernel
theorem dX2_digest_9 : decode cX2_digest 9 = .ok (.if_icmp .ge 25, 3) := by decide +kernel
theorem dX2_digest_12 : decode cX2_digest 12 = .ok (.lload_n 1, 1) := by decide +kernel
theorem dX2_digest_13 : decode cX2_digest 13 = .ok (.ldc2_w 146, 3) := by decide +kernel
theorem dX2_digest_16 : decode cX2_digest 16 = .ok (.lmul, 1) := by decide +kernel
theorem dX2_digest_17 : decode cX2_digest 17 = .ok (.aload_n 0, 1) := by decide +kernel
theorem dX2_digest_18 : decode cX2_digest 18 = .ok (.getfield 10, 3) := by decide +kernel
theorem dX2_digest_21 : decode cX2_digest 21 = .ok (.iload_n 3, 1) := by decide +kernel
theorem dX2_digest_22 : decode cX2_digest 22 = .ok (.invokevirtual 108, 3) := by decide +kernel
theorem dX2_digest_25 : decode cX2_digest 25 = .ok (.i2l, 1) := by decide +kernel
theorem dX2_digest_26 : decode cX2_digest 26 = .ok (.ladd, 1) := by decide +kernel
theorem dX2_digest_27 : decode cX2_digest 27 = .ok (.lstore_n 1, 1) := by decide +kernel
theorem dX2_digest_28 : decode cX2_digest 28 = .ok (.iinc 3 1, 3) := by decide +kernel
theorem dX2_digest_31 : decode cX2_digest 31 = .ok (.goto (-25), 3) := by decide +kernel
theorem dX2_digest_34 : decode cX2_digest 34 = .ok (.iconst 0, 1) := by decide +kernel
theorem dX2_digest_35 : decode cX2_digest 35 = .ok (.istore_n 3, 1) := by decide +kernel
theorem dX2_digest_36 : decode cX2_digest 36 = .ok (.iload_n 3, 1) := by decide +kernel
theorem dX2_digest_37 : decode cX2_digest 37 = .ok (.bipush 8, 2) := by decide +kernel
theorem dX2_digest_39 : decode cX2_digest 39 = .ok (.if_icmp .ge 26, 3) := by decide +kernel
theorem dX2_digest_42 : decode cX2_digest 42 = .ok (.lload_n 1, 1) := by decide +kernel
theorem dX2_digest_43 : decode cX2_digest 43 = .ok (.ldc2_w 146, 3) := by decide +kernel
theorem dX2_digest_46 : decode cX2_digest 46 = .ok (.lmul, 1) := by decide +kernel
theorem dX2_digest_47 : decode cX2_digest 47 = .ok (.aload_n 0, 1) := by decide +kernel
theorem dX2_digest_48 : decode cX2_digest 48 = .ok (.getfield 10, 3) := by decide +kernel
theorem dX2_digest_51 : decode cX2_digest 51 = .ok (.getfield 90, 3) := by decide +kernel
theorem dX2_digest_54 : decode cX2_digest 54 = .ok (.iload_n 3, 1) := by decide +kernel
theorem dX2_digest_55 : decode cX2_digest 55 = .ok (.iaload, 1) := by decide +kernel
theorem dX2_digest_56 : decode cX2_digest 56 = .ok (.i2l, 1) := by decide +kernel
theorem dX2_digest_57 : decode cX2_digest 57 = .ok (.ladd, 1) := by decide +kernel
theorem dX2_digest_58 : decode cX2_digest 58 = .ok (.lstore_n 1, 1) := by decide +kernel
theorem dX2_digest_59 : decode cX2_digest 59 = .ok (.iinc 3 1, 3) := by decide +kernel
theorem dX2_digest_62 : decode cX2_digest 62 = .ok (.goto (-26), 3) := by decide +kernel
theorem dX2_digest_65 : decode cX2_digest 65 = .ok (.iconst 0, 1) := by decide +kernel
theorem dX2_digest_66 : decode cX2_digest 66 = .ok (.istore_n 3, 1) := by decide +kernel
theorem dX2_digest_67 : decode cX2_digest 67 = .ok (.iload_n 3, 1) := by decide +kernel
theorem dX2_digest_68 : decode cX2_digest 68 = .ok (.aload_n 0, 1) := by decide +kernel
theorem dX2_digest_69 : decode cX2_digest 69 = .ok (.getfield 10, 3) := by decide +kernel
theorem dX2_digest_72 : decode cX2_digest 72 = .ok (.getfield 26, 3) := by decide +kernel
theorem dX2_digest_75 : decode cX2_digest 75 = .ok (.getfield 30, 3) := by decide +kernel
theorem dX2_digest_78 : decode cX2_digest 78 = .ok (.if_icmp .ge 43, 3) := by decide +kernel
theorem dX2_digest_81 : decode cX2_digest 81 = .ok (.iconst 0, 1) := by decide +kernel
theorem dX2_digest_82 : decode cX2_digest 82 = .ok (.istore 4, 2) := by decide +kernel
theorem dX2_digest_84 : decode cX2_digest 84 = .ok (.iload 4, 2) := by decide +kernel
theorem dX2_digest_86 : decode cX2_digest 86 = .ok (.bipush 7, 2) := by decide +kernel
theorem dX2_digest_88 : decode cX2_digest 88 = .ok (.if_icmp .ge 27, 3) := by decide +kernel
theorem dX2_digest_91 : decode cX2_digest 91 = .ok (.lload_n 1, 1) := by decide +kernel
theorem dX2_digest_92 : decode cX2_digest 92 = .ok (.ldc2_w 146, 3) := by decide +kernel
theorem dX2_digest_95 : decode cX2_digest 95 = .ok (.lmul, 1) := by decide +kernel
theorem dX2_digest_96 : decode cX2_digest 96 = .ok (.aload_n 0, 1) := by decide +kernel
theorem dX2_digest_97 : decode cX2_digest 97 = .ok (.getfield 10, 3) := by decide +kernel
theorem dX2_digest_100 : decode cX2_digest 100 = .ok (.iload_n 3, 1) := by decide +kernel
theorem dX2_digest_101 : decode cX2_digest 101 = .ok (.iload 4, 2) := by decide +kernel
theorem dX2_digest_103 : decode cX2_digest 103 = .ok (.invokevirtual 103, 3) := by decide +kernel
theorem dX2_digest_106 : decode cX2_digest 106 = .ok (.i2l, 1) := by decide +kernel
theorem dX2_digest_107 : decode cX2_digest 107 = .ok (.ladd, 1) := by decide +kernel
theorem dX2_digest_108 : decode cX2_digest 108 = .ok (.lstore_n 1, 1) := by decide +kernel
theorem dX2_digest_109 : decode cX2_digest 109 = .ok (.iinc 4 1, 3) := by decide +kernel
theorem dX2_digest_112 : decode cX2_digest 112 = .ok (.goto (-28), 3) := by decide +kernel
theorem dX2_digest_115 : decode cX2_digest 115 = .ok (.iinc 3 1, 3) := by decide +kernel
theorem dX2_digest_118 : decode cX2_digest 118 = .ok (.goto (-51), 3) := by decide +kernel
theorem dX2_digest_121 : decode cX2_digest 121 = .ok (.lload_n 1, 1) := by decide +kernel
theorem dX2_digest_122 : decode cX2_digest 122 = .ok (.lreturn, 1) := by decide +kernel
theorem dX2_isSpan_0 : decode cX2_isSpan 0 = .ok (.iload_n 0, 1) := by decide +kernel
theorem dX2_isSpan_1 : decode cX2_isSpan 1 = .ok (.iconst 1, 1) := by decide +kernel
theorem dX2_isSpan_2 : decode cX2_isSpan 2 = .ok (.if_icmp .lt 14, 3) := by decide +kernel
theorem dX2_isSpan_5 : decode cX2_isSpan 5 = .ok (.iload_n 0, 1) := by decide +kernel
theorem dX2_isSpan_6 : decode cX2_isSpan 6 = .ok (.sipush 240, 3) := by decide +kernel
theorem dX2_isSpan_9 : decode cX2_isSpan 9 = .ok (.if_icmp .gt 7, 3) := by decide +kernel
theorem dX2_isSpan_12 : decode cX2_isSpan 12 = .ok (.iconst 1, 1) := by decide +kernel
theorem dX2_isSpan_13 : decode cX2_isSpan 13 = .ok (.goto 4, 3) := by decide +kernel
theorem dX2_isSpan_16 : decode cX2_isSpan 16 = .ok (.iconst 0, 1) := by decide +kernel
theorem dX2_isSpan_17 : decode cX2_isSpan 17 = .ok (.ireturn, 1) := by decide +kernel
set_option maxRecDepth 20000 in
theorem ggX2_waitWith_X0_copyFrom : GoodIn wsX2_waitWith wsX0_copyFrom := goodIn_r _ [10, 11, 12, 13, 14, 15, 16, 17, 18, 19, 20, 21, 22, 23, 24, 25, 26, 27, 28, 29, 30, 31, 32, 33, 34, 35, 36, 37, 38, 39, 40, 41, 42, 43, 118, 119, 120, 121, 122, 123, 124, 125, 126, 127, 128, 129, 130, 131, 132, 133, 134, 135, 136, 137, 138, 139, 140] (by decide +kernel) (by decide +kernel)
set_option maxRecDepth 20000 in
theorem gX2_waitWith_X0_copyFrom : GoodIn wsX2_waitWith (wsV RX2 128 RX0 yX0_copyFrom wsX0_copyFrom) := goodIn_app (goodIn_of _ (by decide +kernel)) ggX2_waitWith_X0_copyFrom
set_option maxRecDepth 20000 in
theorem ggX2_waitWith_X0_goOn : GoodIn wsX2_waitWith wsX0_goOn := goodIn_r _ [47, 48, 49, 50, 9, 51, 16, 22, 52, 53, 11, 54, 55, 56, 57, 23, 15, 25, 58, 59, 60, 29, 61, 42, 43, 62, 63, 64, 65, 66, 67, 68, 69, 70, 71, 72, 73, 74, 75, 76, 77, 78, 12, 79, 24, 80, 81, 82, 83, 84, 85, 86, 87, 31, 88, 89, 90, 91, 38, 41, 92, 93, 94, 95, 33, 34, 35, 96, 97, 98, 99, 13, 14, 100, 101, 102, 103, 104, 105, 106, 107, 40, 32, 108, 109, 110, 111, 17, 112, 113, 114, 115, 118, 119, 120, 121, 122, 123, 124, 125, 126, 127, 128, 129, 130, 131, 132, 133, 134, 135, 136, 137, 138, 139, 140] (by decide +kernel) (by decide +kernel)
set_option maxRecDepth 20000 in
theorem gX2_waitWith_X0_goOn : GoodIn wsX2_waitWith (wsV RX2 124 RX0 yX0_goOn wsX0_goOn) := goodIn_app (goodIn_of _ (by decide +kernel)) ggX2_waitWith_X0_goOn
theorem dX2_waitWith_0 : decode cX2_waitWith 0 = .ok (.aload_n 0, 1) := by decide +kernel
theorem dX2_waitWith_1 : decode cX2_waitWith 1 = .ok (.getfield 16, 3) := by decide +kernel
theorem dX2_waitWith_4 : decode cX2_waitWith 4 = .ok (.aload_n 0, 1) := by decide +kernel
theorem dX2_waitWith_5 : decode cX2_waitWith 5 = .ok (.getfield 10, 3) := by decide +kernel
theorem dX2_waitWith_8 : decode cX2_waitWith 8 = .ok (.invokevirtual 128, 3) := by decide +kernel
theorem dX2_waitWith_11 : decode cX2_waitWith 11 = .ok (.aload_n 0, 1) := by decide +kernel
theorem dX2_waitWith_12 : decode cX2_waitWith 12 = .ok (.getfield 16, 3) := by decide +kernel
theorem dX2_waitWith_15 : decode cX2_waitWith 15 = .ok (.iload_n 1, 1) := by decide +kernel
theorem dX2_waitWith_16 : decode cX2_waitWith 16 = .ok (.putfield 73, 3) := by decide +kernel
theorem dX2_waitWith_19 : decode cX2_waitWith 19 = .ok (.aload_n 0, 1) := by decide +kernel
theorem dX2_waitWith_20 : decode cX2_waitWith 20 = .ok (.getfield 16, 3) := by decide +kernel
theorem dX2_waitWith_23 : decode cX2_waitWith 23 = .ok (.iload_n 2, 1) := by decide +kernel
theorem dX2_waitWith_24 : decode cX2_waitWith 24 = .ok (.putfield 83, 3) := by decide +kernel
theorem dX2_waitWith_27 : decode cX2_waitWith 27 = .ok (.aload_n 0, 1) := by decide +kernel
theorem dX2_waitWith_28 : decode cX2_waitWith 28 = .ok (.getfield 16, 3) := by decide +kernel
theorem dX2_waitWith_31 : decode cX2_waitWith 31 = .ok (.iload_n 3, 1) := by decide +kernel
theorem dX2_waitWith_32 : decode cX2_waitWith 32 = .ok (.invokevirtual 124, 3) := by decide +kernel
theorem dX2_waitWith_35 : decode cX2_waitWith 35 = .ok (.aload_n 0, 1) := by decide +kernel
theorem dX2_waitWith_36 : decode cX2_waitWith 36 = .ok (.getfield 16, 3) := by decide +kernel
theorem dX2_waitWith_39 : decode cX2_waitWith 39 = .ok (.getfield 137, 3) := by decide +kernel
theorem dX2_waitWith_42 : decode cX2_waitWith 42 = .ok (.aload_n 0, 1) := by decide +kernel
theorem dX2_waitWith_43 : decode cX2_waitWith 43 = .ok (.getfield 10, 3) := by decide +kernel
theorem dX2_waitWith_46 : decode cX2_waitWith 46 = .ok (.getfield 137, 3) := by decide +kernel
theorem dX2_waitWith_49 : decode cX2_waitWith 49 = .ok (.isub, 1) := by decide +kernel
theorem dX2_waitWith_50 : decode cX2_waitWith 50 = .ok (.ireturn, 1) := by decide +kernel
theorem dX3_init_0 : decode cX3_init 0 = .ok (.aload_n 0, 1) := by decide +kernel
theorem dX3_init_1 : decode cX3_init 1 = .ok (.aload_n 1, 1) := by decide +kernel
theorem dX3_init_2 : decode cX3_init 2 = .ok (.putfield 3, 3) := by decide +kernel
theorem dX3_init_5 : decode cX3_init 5 = .ok (.aload_n 0, 1) := by decide +kernel
theorem dX3_init_6 : decode cX3_init 6 = .ok (.invokespecial 9, 3) := by decide +kernel
theorem dX3_init_9 : decode cX3_init 9 = .ok (.aload_n 0, 1) := by decide +kernel
theorem dX3_init_10 : decode cX3_init 10 = .ok (.bipush 15, 2) := by decide +kernel
theorem dX3_init_12 : decode cX3_init 12 = .ok (.putfield 15, 3) := by decide +kernel
theorem dX3_init_15 : decode cX3_init 15 = .ok (.aload_n 0, 1) := by decide +kernel
theorem dX3_init_16 : decode cX3_init 16 = .ok (.iconst (-1), 1) := by decide +kernel
theorem dX3_init_17 : decode cX3_init 17 = .ok (.putfield 19, 3) := by decide +kernel
theorem dX3_init_20 : decode cX3_init 20 = .ok (.aload_n 0, 1) := by decide +kernel
theorem dX3_init_21 : decode cX3_init 21 = .ok (.bipush 40, 2) := by decide +kernel
theorem dX3_init_23 : decode cX3_init 23 = .ok (.newarray .int, 2) := by decide +kernel
theorem dX3_init_25 : decode cX3_init 25 = .ok (.putfield 22, 3) := by decide +kernel
theorem dX3_init_28 : decode cX3_init 28 = .ok (.aload_n 0, 1) := by decide +kernel
theorem dX3_init_29 : decode cX3_init 29 = .ok (.bipush 40, 2) := by decide +kernel
theorem dX3_init_31 : decode cX3_init 31 = .ok (.newarray .int, 2) := by decide +kernel
theorem dX3_init_33 : decode cX3_init 33 = .ok (.putfield 26, 3) := by decide +kernel
theorem dX3_init_36 : decode cX3_init 36 = .ok (.aload_n 0, 1) := by decide +kernel
theorem dX3_init_37 : decode cX3_init 37 = .ok (.bipush 40, 2) := by decide +kernel
theorem dX3_init_39 : decode cX3_init 39 = .ok (.newarray .int, 2) := by decide +kernel
theorem dX3_init_41 : decode cX3_init 41 = .ok (.putfield 29, 3) := by decide +kernel
theorem dX3_init_44 : decode cX3_init 44 = .ok (.aload_n 0, 1) := by decide +kernel
theorem dX3_init_45 : decode cX3_init 45 = .ok (.bipush 40, 2) := by decide +kernel
theorem dX3_init_47 : decode cX3_init 47 = .ok (.newarray .int, 2) := by decide +kernel
theorem dX3_init_49 : decode cX3_init 49 = .ok (.putfield 32, 3) := by decide +kernel
theorem dX3_init_52 : decode cX3_init 52 = .ok (.return_, 1) := by decide +kernel
theorem dX3_copy_0 : decode cX3_copy 0 = .ok (.aload_n 1, 1) := by decide +kernel
theorem dX3_copy_1 : decode cX3_copy 1 = .ok (.iconst 0, 1) := by decide +kernel
theorem dX3_copy_2 : decode cX3_copy 2 = .ok (.aload_n 2, 1) := by decide +kernel
theorem dX3_copy_3 : decode cX3_copy 3 = .ok (.iconst 0, 1) := by decide +kernel
theorem dX3_copy_4 : decode cX3_copy 4 = .ok (.aload_n 1, 1) := by decide +kernel
theorem dX3_copy_5 : decode cX3_copy 5 = .ok (.arraylength, 1) := by decide +kernel
theorem dX3_copy_6 : decode cX3_copy 6 = .ok (.invokestatic 35, 3) := by decide +kernel
theorem dX3_copy_9 : decode cX3_copy 9 = .ok (.return_, 1) := by decide +kernel
set_option maxRecDepth 20000 in
theorem ggX3_become_X3_copy : GoodIn wsX3_become wsX3_copy := goodIn_r _ [16, 17, 18, 19, 20] (by decide +kernel) (by decide +kernel)
set_option maxRecDepth 20000 in
theorem gX3_become_X3_copy : GoodIn wsX3_become (wsV RX3 56 RX3 yX3_copy wsX3_copy) := goodIn_app (goodIn_of _ (by decide +kernel)) ggX3_become_X3_copy
theorem dX3_become_0 : decode cX3_become 0 = .ok (.aload_n 0, 1) := by decide +kernel
theorem dX3_become_1 : decode cX3_become 1 = .ok (.aload_n 1, 1) := by decide +kernel
theorem dX3_become_2 : decode cX3_become 2 = .ok (.getfield 41, 3) := by decide +kernel
theorem dX3_become_5 : decode cX3_become 5 = .ok (.putfield 41, 3) := by decide +kernel
theorem dX3_become_8 : decode cX3_become 8 = .ok (.aload_n 0, 1) := by decide +kernel
theorem dX3_become_9 : decode cX3_become 9 = .ok (.aload_n 1, 1) := by decide +kernel
theorem dX3_become_10 : decode cX3_become 10 = .ok (.getfield 44, 3) := by decide +kernel
theorem dX3_become_13 : decode cX3_become 13 = .ok (.putfield 44, 3) := by decide +kernel
theorem dX3_become_16 : decode cX3_become 16 = .ok (.aload_n 0, 1) := by decide +kernel
theorem dX3_become_17 : decode cX3_become 17 = .ok (.aload_n 1, 1) := by decide +kernel
theorem dX3_become_18 : decode cX3_become 18 = .ok (.getfield 15, 3) := by decide +kernel
theorem dX3_become_21 : decode cX3_become 21 = .ok (.putfield 15, 3) := by decide +kernel
theorem dX3_become_24 : decode cX3_become 24 = .ok (.aload_n 0, 1) := by decide +kernel
theorem dX3_become_25 : decode cX3_become 25 = .ok (.aload_n 1, 1) := by decide +kernel
theorem dX3_become_26 : decode cX3_become 26 = .ok (.getfield 47, 3) := by decide +kernel
theorem dX3_become_29 : decode cX3_become 29 = .ok (.putfield 47, 3) := by decide +kernel
theorem dX3_become_32 : decode cX3_become 32 = .ok (.aload_n 0, 1) := by decide +kernel
theorem dX3_become_33 : decode cX3_become 33 = .ok (.aload_n 1, 1) := by decide +kernel
theorem dX3_become_34 : decode cX3_become 34 = .ok (.getfield 50, 3) := by decide +kernel
theorem dX3_become_37 : decode cX3_become 37 = .ok (.putfield 50, 3) := by decide +kernel
theorem dX3_become_40 : decode cX3_become 40 = .ok (.aload_n 0, 1) := by decide +kernel
theorem dX3_become_41 : decode cX3_become 41 = .ok (.aload_n 1, 1) := by decide +kernel
theorem dX3_become_42 : decode cX3_become 42 = .ok (.getfield 19, 3) := by decide +kernel
theorem dX3_become_45 : decode cX3_become 45 = .ok (.putfield 19, 3) := by decide +kernel
theorem dX3_become_48 : decode cX3_become 48 = .ok (.aload_n 0, 1) := by decide +kernel
theorem dX3_become_49 : decode cX3_become 49 = .ok (.aload_n 1, 1) := by decide +kernel
theorem dX3_become_50 : decode cX3_become 50 = .ok (.getfield 53, 3) := by decide +kernel
theorem dX3_become_53 : decode cX3_become 53 = .ok (.putfield 53, 3) := by decide +kernel
theorem dX3_become_56 : decode cX3_become 56 = .ok (.aload_n 0, 1) := by decide +kernel
theorem dX3_become_57 : decode cX3_become 57 = .ok (.aload_n 1, 1) := by decide +kernel
theorem dX3_become_58 : decode cX3_become 58 = .ok (.getfield 22, 3) := by decide +kernel
theorem dX3_become_61 : decode cX3_become 61 = .ok (.aload_n 0, 1) := by decide +kernel
theorem dX3_become_62 : decode cX3_become 62 = .ok (.getfield 22, 3) := by decide +kernel
theorem dX3_become_65 : decode cX3_become 65 = .ok (.invokevirtual 56, 3) := by decide +kernel
theorem dX3_become_68 : decode cX3_become 68 = .ok (.aload_n 0, 1) := by decide +kernel
theorem dX3_become_69 : decode cX3_become 69 = .ok (.aload_n 1, 1) := by decide +kernel
theorem dX3_become_70 : decode cX3_become 70 = .ok (.getfield 26, 3) := by decide +kernel
theorem dX3_become_73 : decode cX3_become 73 = .ok (.aload_n 0, 1) := by decide +kernel
theorem dX3_become_74 : decode cX3_become 74 = .ok (.getfield 26, 3) := by decide +kernel
theorem dX3_become_77 : decode cX3_become 77 = .ok (.invokevirtual 56, 3) := by decide +kernel
theorem dX3_become_80 : decode cX3_become 80 = .ok (.aload_n 0, 1) := by decide +kernel
theorem dX3_become_81 : decode cX3_become 81 = .ok (.aload_n 1, 1) := by decide +kernel
theorem dX3_become_82 : decode cX3_become 82 = .ok (.getfield 29, 3) := by decide +kernel
theorem dX3_become_85 : decode cX3_become 85 = .ok (.aload_n 0, 1) := by decide +kernel
theorem dX3_become_86 : decode cX3_become 86 = .ok (.getfield 29, 3) := by decide +kernel
theorem dX3_become_89 : decode cX3_become 89 = .ok (.invokevirtual 56, 3) := by decide +kernel
theorem dX3_become_92 : decode cX3_become 92 = .ok (.aload_n 0, 1) := by decide +kernel
theorem dX3_become_93 : decode cX3_become 93 = .ok (.aload_n 1, 1) := by decide +kernel
theorem dX3_become_94 : decode cX3_become 94 = .ok (.getfield 32, 3) := by decide +kernel
theorem dX3_become_97 : decode cX3_become 97 = .ok (.aload_n 0, 1) := by decide +kernel
theorem dX3_become_98 : decode cX3_become 98 = .ok (.getfield 32, 3) := by decide +kernel
theorem dX3_become_101 : decode cX3_become 101 = .ok (.invokevirtual 56, 3) := by decide +kernel
theorem dX3_become_104 : decode cX3_become 104 = .ok (.return_, 1) := by decide +kernel
theorem dX3_speed_0 : decode cX3_speed 0 = .ok (.iload_n 1, 1) := by decide +kernel
theorem dX3_speed_1 : decode cX3_speed 1 = .ok (.ifCond .eq 15, 3) := by decide +kernel
theorem dX3_speed_4 : decode cX3_speed 4 = .ok (.iconst 1, 1) := by decide +kernel
theorem dX3_speed_5 : decode cX3_speed 5 = .ok (.aload_n 0, 1) := by decide +kernel
theorem dX3_speed_6 : decode cX3_speed 6 = .ok (.getfield 15, 3) := by decide +kernel
theorem dX3_speed_9 : decode cX3_speed 9 = .ok (.bipush 6, 2) := by decide +kernel
theorem dX3_speed_11 : decode cX3_speed 11 = .ok (.idiv, 1) := by decide +kernel
theorem dX3_speed_12 : decode cX3_speed 12 = .ok (.iadd, 1) := by decide +kernel
theorem dX3_speed_13 : decode cX3_speed 13 = .ok (.goto 13, 3) := by decide +kernel
theorem dX3_speed_16 : decode cX3_speed 16 = .ok (.bipush 6, 2) := by decide +kernel
theorem dX3_speed_18 : decode cX3_speed 18 = .ok (.aload_n 0, 1) := by decide +kernel
theorem dX3_speed_19 : decode cX3_speed 19 = .ok (.getfield 15, 3) := by decide +kernel
theorem dX3_speed_22 : decode cX3_speed 22 = .ok (.bipush 6, 2) := by decide +kernel
theorem dX3_speed_24 : decode cX3_speed 24 = .ok (.idiv, 1) := by decide +kernel
theorem dX3_speed_25 : decode cX3_speed 25 = .ok (.isub, 1) := by decide +kernel
theorem dX3_speed_26 : decode cX3_speed 26 = .ok (.istore_n 2, 1) := by decide +kernel
theorem dX3_speed_27 : decode cX3_speed 27 = .ok (.aload_n 0, 1) := by decide +kernel
theorem dX3_speed_28 : decode cX3_speed 28 = .ok (.getfield 47, 3) := by decide +kernel
theorem dX3_speed_31 : decode cX3_speed 31 = .ok (.iconst 5, 1) := by decide +kernel
theorem dX3_speed_32 : decode cX3_speed 32 = .ok (.if_icmp .ge 7, 3) := by decide +kernel
theorem dX3_speed_35 : decode cX3_speed 35 = .ok (.iload_n 2, 1) := by decide +kernel
theorem dX3_speed_36 : decode cX3_speed 36 = .ok (.goto 10, 3) := by decide +kernel
theorem dX3_speed_39 : decode cX3_speed 39 = .ok (.iconst 1, 1) := by decide +kernel
theorem dX3_speed_40 : decode cX3_speed 40 = .ok (.iload_n 2, 1) := by decide +kernel
theorem dX3_speed_41 : decode cX3_speed 41 = .ok (.iconst 2, 1) := by decide +kernel
theorem dX3_speed_42 : decode cX3_speed 42 = .ok (.idiv, 1) := by decide +kernel
theorem dX3_speed_43 : decode cX3_speed 43 = .ok (.invokestatic 60, 3) := by decide +kernel
theorem dX3_speed_46 : decode cX3_speed 46 = .ok (.ireturn, 1) := by decide +kernel
theorem dX3_first_0 : decode cX3_first 0 = .ok (.iconst 0, 1) := by decide +kernel
theorem dX3_first_1 : decode cX3_first 1 = .ok (.istore_n 2, 1) := by decide +kernel
theorem dX3_first_2 : decode cX3_first 2 = .ok (.iload_n 2, 1) := by decide +kernel
theorem dX3_first_3 : decode cX3_first 3 = .ok (.aload_n 0, 1) := by decide +kernel
theorem dX3_first_4 : decode cX3_first 4 = .ok (.getfield 3, 3) := by decide +kernel
theorem dX3_first_7 : decode cX3_first 7 = .ok (.getfield 66, 3) := by decide +kernel
theorem dX3_first_10 : decode cX3_first 10 = .ok (.if_icmp .ge 38, 3) := by decide +kernel
theorem dX3_first_13 : decode cX3_first 13 = .ok (.aload_n 0, 1) := by decide +kernel
theorem dX3_first_14 : decode cX3_first 14 = .ok (.getfield 22, 3) := by decide +kernel
theorem dX3_first_17 : decode cX3_first 17 = .ok (.iload_n 2, 1) := by decide +kernel
theorem dX3_first_18 : decode cX3_first 18 = .ok (.iaload, 1) := by decide +kernel
theorem dX3_first_19 : decode cX3_first 19 = .ok (.ifCond .ne 23, 3) := by decide +kernel
theorem dX3_first_22 : decode cX3_first 22 = .ok (.iload_n 1, 1) := by decide +kernel
theorem dX3_first_23 : decode cX3_first 23 = .ok (.iconst 2, 1) := by decide +kernel
theorem dX3_first_24 : decode cX3_first 24 = .ok (.if_icmp .eq 16, 3) := by decide +kernel
theorem dX3_first_27 : decode cX3_first 27 = .ok (.aload_n 0, 1) := by decide +kernel
theorem dX3_first_28 : decode cX3_first 28 = .ok (.getfield 3, 3) := by decide +kernel
theorem dX3_first_31 : decode cX3_first 31 = .ok (.getfield 69, 3) := by decide +kernel
theorem dX3_first_34 : decode cX3_first 34 = .ok (.iload_n 2, 1) := by decide +kernel
theorem dX3_first_35 : decode cX3_first 35 = .ok (.iaload, 1) := by decide +kernel
theorem dX3_first_36 : decode cX3_first 36 = .ok (.iload_n 1, 1) := by decide +kernel
theorem dX3_first_37 : decode cX3_first 37 = .ok (.if_icmp .ne 5, 3) := by decide +kernel
theorem dX3_first_40 : decode cX3_first 40 = .ok (.iload_n 2, 1) := by decide +kernel
theorem dX3_first_41 : decode cX3_first 41 = .ok (.ireturn, 1) := by decide +kernel
theorem dX3_first_42 : decode cX3_first 42 = .ok (.iinc 2 1, 3) := by decide +kernel
theorem dX3_first_45 : decode cX3_first 45 = .ok (.goto (-43), 3) := by decide +kernel
theorem dX3_first_48 : decode cX3_first 48 = .ok (.iconst (-1), 1) := by decide +kernel
theorem dX3_first_49 : decode cX3_first 49 = .ok (.ireturn, 1) := by decide +kernel
set_option maxRecDepth 20000 in
theorem ggX3_next_X3_first : GoodIn wsX3_next wsX3_first := goodIn_r _ [8, 9, 10, 11, 12, 13, 14, 15, 16, 17, 18, 19, 20, 21, 22, 23, 24, 25, 26, 27, 28, 29, 30] (by decide +kernel) (by decide +kernel)
set_option maxRecDepth 20000 in
theorem gX3_next_X3_first : GoodIn wsX3_next (wsV RX3 72 RX3 yX3_first wsX3_first) := goodIn_app (goodIn_of _ (by decide +kernel)) ggX3_next_X3_first
theorem dX3_next_0 : decode cX3_next 0 = .ok (.aload_n 0, 1) := by decide +kernel
theorem dX3_next_1 : decode cX3_next 1 = .ok (.getfield 19, 3) := by decide +kernel
theorem dX3_next_4 : decode cX3_next 4 = .ok (.iconst (-1), 1) := by decide +kernel
theorem dX3_next_5 : decode cX3_next 5 = .ok (.if_icmp .ne 11, 3) := by decide +kernel
theorem dX3_next_8 : decode cX3_next 8 = .ok (.aload_n 0, 1) := by decide +kernel
theorem dX3_next_9 : decode cX3_next 9 = .ok (.getfield 50, 3) := by decide +kernel
theorem dX3_next_12 : decode cX3_next 12 = .ok (.iconst 4, 1) := by decide +kernel
theorem dX3_next_13 : decode cX3_next 13 = .ok (.if_icmp .ne 5, 3) := by decide +kernel
theorem dX3_next_16 : decode cX3_next 16 = .ok (.iconst (-1), 1) := by decide +kernel
theorem dX3_next_17 : decode cX3_next 17 = .ok (.ireturn, 1) := by decide +kernel
theorem dX3_next_18 : decode cX3_next 18 = .ok (.aload_n 0, 1) := by decide +kernel
theorem dX3_next_19 : decode cX3_next 19 = .ok (.getfield 50, 3) := by decide +kernel
theorem dX3_next_22 : decode cX3_next 22 = .ok (.ifCond .ne 9, 3) := by decide +kernel
theorem dX3_next_25 : decode cX3_next 25 = .ok (.aload_n 0, 1) := by decide +kernel
theorem dX3_next_26 : decode cX3_next 26 = .ok (.iconst 2, 1) := by decide +kernel
theorem dX3_next_27 : decode cX3_next 27 = .ok (.invokevirtual 72, 3) := by decide +kernel
theorem dX3_next_30 : decode cX3_next 30 = .ok (.ireturn, 1) := by decide +kernel
theorem dX3_next_31 : decode cX3_next 31 = .ok (.aload_n 0, 1) := by decide +kernel
theorem dX3_next_32 : decode cX3_next 32 = .ok (.getfield 50, 3) := by decide +kernel
theorem dX3_next_35 : decode cX3_next 35 = .ok (.iconst 1, 1) := by decide +kernel
theorem dX3_next_36 : decode cX3_next 36 = .ok (.if_icmp .eq 18, 3) := by decide +kernel
theorem dX3_next_39 : decode cX3_next 39 = .ok (.aload_n 0, 1) := by decide +kernel
theorem dX3_next_40 : decode cX3_next 40 = .ok (.getfield 50, 3) := by decide +kernel
theorem dX3_next_43 : decode cX3_next 43 = .ok (.iconst 3, 1) := by decide +kernel
theorem dX3_next_44 : decode cX3_next 44 = .ok (.if_icmp .ne 14, 3) := by decide +kernel
theorem dX3_next_47 : decode cX3_next 47 = .ok (.aload_n 0, 1) := by decide +kernel
theorem dX3_next_48 : decode cX3_next 48 = .ok (.getfield 53, 3) := by decide +kernel
theorem dX3_next_51 : decode cX3_next 51 = .ok (.ifCond .ne 7, 3) := by decide +kernel
theorem dX3_next_54 : decode cX3_next 54 = .ok (.iconst 1, 1) := by decide +kernel
theorem dX3_next_55 : decode cX3_next 55 = .ok (.goto 4, 3) := by decide +kernel
theorem dX3_next_58 : decode cX3_next 58 = .ok (.iconst 0, 1) := by decide +kernel
theorem dX3_next_59 : decode cX3_next 59 = .ok (.istore_n 1, 1) := by decide +kernel
theorem dX3_next_60 : decode cX3_next 60 = .ok (.aload_n 0, 1) := by decide +kernel
theorem dX3_next_61 : decode cX3_next 61 = .ok (.iload_n 1, 1) := by decide +kernel
theorem dX3_next_62 : decode cX3_next 62 = .ok (.invokevirtual 72, 3) := by decide +kernel
theorem dX3_next_65 : decode cX3_next 65 = .ok (.iconst (-1), 1) := by decide +kernel
theorem dX3_next_66 : decode cX3_next 66 = .ok (.if_icmp .ne 13, 3) := by decide +kernel
theorem dX3_next_69 : decode cX3_next 69 = .ok (.aload_n 0, 1) := by decide +kernel
theorem dX3_next_70 : decode cX3_next 70 = .ok (.iconst 1, 1) := by decide +kernel
theorem dX3_next_71 : decode cX3_next 71 = .ok (.iload_n 1, 1) := by decide +kernel
theorem dX3_next_72 : decode cX3_next 72 = .ok (.isub, 1) := by decide +kernel
theorem dX3_next_73 : decode cX3_next 73 = .ok (.invokevirtual 72, 3) := by decide +kernel
theorem dX3_next_76 : decode cX3_next 76 = .ok (.goto 8, 3) := by decide +kernel
theorem dX3_next_79 : decode cX3_next 79 = .ok (.aload_n 0, 1) := by decide +kernel
theorem dX3_next_80 : decode cX3_next 80 = .ok (.iload_n 1, 1) := by decide +kernel
theorem dX3_next_81 : decode cX3_next 81 = .ok (.invokevirtual 72, 3) := by decide +kernel
theorem dX3_next_84 : decode cX3_next 84 = .ok (.ireturn, 1) := by decide +kernel
set_option maxRecDepth 20000 in
theorem ggX3_serve_X3_speed : GoodIn wsX3_serve wsX3_speed := goodIn_r _ [18, 19, 20, 11, 12, 9, 13, 21, 22, 23, 24, 25, 26, 27, 28, 29, 30, 31, 32] (by decide +kernel) (by decide +kernel)
set_option maxRecDepth 20000 in
theorem gX3_serve_X3_speed : GoodIn wsX3_serve (wsV RX3 79 RX3 yX3_speed wsX3_speed) := goodIn_app (goodIn_of _ (by decide +kernel)) ggX3_serve_X3_speed
theorem dX3_serve_0 : decode cX3_serve 0 = .ok (.bipush 60, 2) := by decide +kernel
theorem dX3_serve_2 : decode cX3_serve 2 = .ok (.aload_n 0, 1) := by decide +kernel
theorem dX3_serve_3 : decode cX3_serve 3 = .ok (.getfield 3, 3) := by decide +kernel
theorem dX3_serve_6 : decode cX3_serve 6 = .ok (.getfield 69, 3) := by decide +kernel
theorem dX3_serve_9 : decode cX3_serve 9 = .ok (.iload_n 1, 1) := by decide +kernel
theorem dX3_serve_10 : decode cX3_serve 10 = .ok (.iaload, 1) := by decide +kernel
theorem dX3_serve_11 : decode cX3_serve 11 = .ok (.imul, 1) := by decide +kernel
theorem dX3_serve_12 : decode cX3_serve 12 = .ok (.istore_n 2, 1) := by decide +kernel
theorem dX3_serve_13 : decode cX3_serve 13 = .ok (.aload_n 0, 1) := by decide +kernel
theorem dX3_serve_14 : decode cX3_serve 14 = .ok (.getfield 44, 3) := by decide +kernel
theorem dX3_serve_17 : decode cX3_serve 17 = .ok (.iload_n 2, 1) := by decide +kernel
theorem dX3_serve_18 : decode cX3_serve 18 = .ok (.if_icmp .ne 44, 3) := by decide +kernel
theorem dX3_serve_21 : decode cX3_serve 21 = .ok (.aload_n 0, 1) := by decide +kernel
theorem dX3_serve_22 : decode cX3_serve 22 = .ok (.iload_n 1, 1) := by decide +kernel
theorem dX3_serve_23 : decode cX3_serve 23 = .ok (.putfield 19, 3) := by decide +kernel
theorem dX3_serve_26 : decode cX3_serve 26 = .ok (.aload_n 0, 1) := by decide +kernel
theorem dX3_serve_27 : decode cX3_serve 27 = .ok (.getfield 22, 3) := by decide +kernel
theorem dX3_serve_30 : decode cX3_serve 30 = .ok (.iload_n 1, 1) := by decide +kernel
theorem dX3_serve_31 : decode cX3_serve 31 = .ok (.iconst 1, 1) := by decide +kernel
theorem dX3_serve_32 : decode cX3_serve 32 = .ok (.iastore, 1) := by decide +kernel
theorem dX3_serve_33 : decode cX3_serve 33 = .ok (.aload_n 0, 1) := by decide +kernel
theorem dX3_serve_34 : decode cX3_serve 34 = .ok (.getfield 29, 3) := by decide +kernel
theorem dX3_serve_37 : decode cX3_serve 37 = .ok (.iload_n 1, 1) := by decide +kernel
theorem dX3_serve_38 : decode cX3_serve 38 = .ok (.aload_n 0, 1) := by decide +kernel
theorem dX3_serve_39 : decode cX3_serve 39 = .ok (.getfield 3, 3) := by decide +kernel
theorem dX3_serve_42 : decode cX3_serve 42 = .ok (.getfield 76, 3) := by decide +kernel
theorem dX3_serve_45 : decode cX3_serve 45 = .ok (.iload_n 1, 1) := by decide +kernel
theorem dX3_serve_46 : decode cX3_serve 46 = .ok (.iaload, 1) := by decide +kernel
theorem dX3_serve_47 : decode cX3_serve 47 = .ok (.iastore, 1) := by decide +kernel
theorem dX3_serve_48 : decode cX3_serve 48 = .ok (.aload_n 0, 1) := by decide +kernel
theorem dX3_serve_49 : decode cX3_serve 49 = .ok (.aload_n 0, 1) := by decide +kernel
theorem dX3_serve_50 : decode cX3_serve 50 = .ok (.getfield 3, 3) := by decide +kernel
theorem dX3_serve_53 : decode cX3_serve 53 = .ok (.getfield 69, 3) := by decide +kernel
theorem dX3_serve_56 : decode cX3_serve 56 = .ok (.iload_n 1, 1) := by decide +kernel
theorem dX3_serve_57 : decode cX3_serve 57 = .ok (.iaload, 1) := by decide +kernel
theorem dX3_serve_58 : decode cX3_serve 58 = .ok (.putfield 53, 3) := by decide +kernel
theorem dX3_serve_61 : decode cX3_serve 61 = .ok (.return_, 1) := by decide +kernel
theorem dX3_serve_62 : decode cX3_serve 62 = .ok (.aload_n 0, 1) := by decide +kernel
theorem dX3_serve_63 : decode cX3_serve 63 = .ok (.iload_n 2, 1) := by decide +kernel
theorem dX3_serve_64 : decode cX3_serve 64 = .ok (.aload_n 0, 1) := by decide +kernel
theorem dX3_serve_65 : decode cX3_serve 65 = .ok (.getfield 44, 3) := by decide +kernel
theorem dX3_serve_68 : decode cX3_serve 68 = .ok (.if_icmp .le 21, 3) := by decide +kernel
theorem dX3_serve_71 : decode cX3_serve 71 = .ok (.bipush 60, 2) := by decide +kernel
theorem dX3_serve_73 : decode cX3_serve 73 = .ok (.aload_n 0, 1) := by decide +kernel
theorem dX3_serve_74 : decode cX3_serve 74 = .ok (.getfield 44, 3) := by decide +kernel
theorem dX3_serve_77 : decode cX3_serve 77 = .ok (.aload_n 0, 1) := by decide +kernel
theorem dX3_serve_78 : decode cX3_serve 78 = .ok (.iconst 1, 1) := by decide +kernel
theorem dX3_serve_79 : decode cX3_serve 79 = .ok (.invokevirtual 79, 3) := by decide +kernel
theorem dX3_serve_82 : decode cX3_serve 82 = .ok (.iadd, 1) := by decide +kernel
theorem dX3_serve_83 : decode cX3_serve 83 = .ok (.invokestatic 83, 3) := by decide +kernel
theorem dX3_serve_86 : decode cX3_serve 86 = .ok (.goto 17, 3) := by decide +kernel
theorem dX3_serve_89 : decode cX3_serve 89 = .ok (.iconst 0, 1) := by decide +kernel
theorem dX3_serve_90 : decode cX3_serve 90 = .ok (.aload_n 0, 1) := by decide +kernel
theorem dX3_serve_91 : decode cX3_serve 91 = .ok (.getfield 44, 3) := by decide +kernel
theorem dX3_serve_94 : decode cX3_serve 94 = .ok (.aload_n 0, 1) := by decide +kernel
theorem dX3_serve_95 : decode cX3_serve 95 = .ok (.iconst 0, 1) := by decide +kernel
theorem dX3_serve_96 : decode cX3_serve 96 = .ok (.invokevirtual 79, 3) := by decide +kernel
theorem dX3_serve_99 : decode cX3_serve 99 = .ok (.isub, 1) := by decide +kernel
theorem dX3_serve_100 : decode cX3_serve 100 = .ok (.invokestatic 60, 3) := by decide +kernel
theorem dX3_serve_103 : decode cX3_serve 103 = .ok (.putfield 44, 3) := by decide +kernel
theorem dX3_serve_106 : decode cX3_serve 106 = .ok (.return_, 1) := by decide +kernel
set_option maxRecDepth 20000 in
theorem ggX3_pass_X3_next : GoodIn wsX3_pass wsX3_next := goodIn_r _ [20, 1, 21, 22, 23, 24, 25, 19, 26, 6, 3, 37, 38, 39, 40, 41, 42, 43, 44, 45, 46, 47, 48, 49, 50, 51, 52, 53, 54, 55, 56] (by decide +kernel) (by decide +kernel)
set_option maxRecDepth 20000 in
theorem gX3_pass_X3_next : GoodIn wsX3_pass (wsV RX3 86 RX3 yX3_next wsX3_next) := goodIn_app (goodIn_of _ (by decide +kernel)) ggX3_pass_X3_next
set_option maxRecDepth 20000 in
theorem ggX3_pass_X3_serve : GoodIn wsX3_pass wsX3_serve := goodIn_r _ [30, 6, 31, 1, 3, 2, 22, 9, 10, 11, 12, 13, 14, 15, 32, 33, 34, 19, 35, 36, 8, 37, 38, 39, 40, 41, 42, 43, 44, 45, 46, 47, 48, 49, 50, 51, 52, 53, 54, 55, 56] (by decide +kernel) (by decide +kernel)
set_option maxRecDepth 20000 in
theorem gX3_pass_X3_serve : GoodIn wsX3_pass (wsV RX3 90 RX3 yX3_serve wsX3_serve) := goodIn_app (goodIn_of _ (by decide +kernel)) ggX3_pass_X3_serve
theorem dX3_pass_0 : decode cX3_pass 0 = .ok (.aload_n 0, 1) := by decide +kernel
theorem dX3_pass_1 : decode cX3_pass 1 = .ok (.invokevirtual 86, 3) := by decide +kernel
theorem dX3_pass_4 : decode cX3_pass 4 = .ok (.istore_n 1, 1) := by decide +kernel
theorem dX3_pass_5 : decode cX3_pass 5 = .ok (.iload_n 1, 1) := by decide +kernel
theorem dX3_pass_6 : decode cX3_pass 6 = .ok (.iconst (-1), 1) := by decide +kernel
theorem dX3_pass_7 : decode cX3_pass 7 = .ok (.if_icmp .eq 8, 3) := by decide +kernel
theorem dX3_pass_10 : decode cX3_pass 10 = .ok (.aload_n 0, 1) := by decide +kernel
theorem dX3_pass_11 : decode cX3_pass 11 = .ok (.iload_n 1, 1) := by decide +kernel
theorem dX3_pass_12 : decode cX3_pass 12 = .ok (.invokevirtual 90, 3) := by decide +kernel
theorem dX3_pass_15 : decode cX3_pass 15 = .ok (.aload_n 0, 1) := by decide +kernel
theorem dX3_pass_16 : decode cX3_pass 16 = .ok (.getfield 19, 3) := by decide +kernel
theorem dX3_pass_19 : decode cX3_pass 19 = .ok (.iconst (-1), 1) := by decide +kernel
theorem dX3_pass_20 : decode cX3_pass 20 = .ok (.if_icmp .eq 56, 3) := by decide +kernel
theorem dX3_pass_23 : decode cX3_pass 23 = .ok (.aload_n 0, 1) := by decide +kernel
theorem dX3_pass_24 : decode cX3_pass 24 = .ok (.getfield 29, 3) := by decide +kernel
theorem dX3_pass_27 : decode cX3_pass 27 = .ok (.aload_n 0, 1) := by decide +kernel
theorem dX3_pass_28 : decode cX3_pass 28 = .ok (.getfield 19, 3) := by decide +kernel
theorem dX3_pass_31 : decode cX3_pass 31 = .ok (.dup2, 1) := by decide +kernel
theorem dX3_pass_32 : decode cX3_pass 32 = .ok (.iaload, 1) := by decide +kernel
theorem dX3_pass_33 : decode cX3_pass 33 = .ok (.iconst 1, 1) := by decide +kernel
theorem dX3_pass_34 : decode cX3_pass 34 = .ok (.isub, 1) := by decide +kernel
theorem dX3_pass_35 : decode cX3_pass 35 = .ok (.iastore, 1) := by decide +kernel
theorem dX3_pass_36 : decode cX3_pass 36 = .ok (.aload_n 0, 1) := by decide +kernel
theorem dX3_pass_37 : decode cX3_pass 37 = .ok (.getfield 29, 3) := by decide +kernel
theorem dX3_pass_40 : decode cX3_pass 40 = .ok (.aload_n 0, 1) := by decide +kernel
theorem dX3_pass_41 : decode cX3_pass 41 = .ok (.getfield 19, 3) := by decide +kernel
theorem dX3_pass_44 : decode cX3_pass 44 = .ok (.iaload, 1) := by decide +kernel
theorem dX3_pass_45 : decode cX3_pass 45 = .ok (.ifCond .ne 31, 3) := by decide +kernel
theorem dX3_pass_48 : decode cX3_pass 48 = .ok (.aload_n 0, 1) := by decide +kernel
theorem dX3_pass_49 : decode cX3_pass 49 = .ok (.getfield 22, 3) := by decide +kernel
theorem dX3_pass_52 : decode cX3_pass 52 = .ok (.aload_n 0, 1) := by decide +kernel
theorem dX3_pass_53 : decode cX3_pass 53 = .ok (.getfield 19, 3) := by decide +kernel
theorem dX3_pass_56 : decode cX3_pass 56 = .ok (.iconst 2, 1) := by decide +kernel
theorem dX3_pass_57 : decode cX3_pass 57 = .ok (.iastore, 1) := by decide +kernel
theorem dX3_pass_58 : decode cX3_pass 58 = .ok (.aload_n 0, 1) := by decide +kernel
theorem dX3_pass_59 : decode cX3_pass 59 = .ok (.getfield 32, 3) := by decide +kernel
theorem dX3_pass_62 : decode cX3_pass 62 = .ok (.aload_n 0, 1) := by decide +kernel
theorem dX3_pass_63 : decode cX3_pass 63 = .ok (.getfield 19, 3) := by decide +kernel
theorem dX3_pass_66 : decode cX3_pass 66 = .ok (.aload_n 0, 1) := by decide +kernel
theorem dX3_pass_67 : decode cX3_pass 67 = .ok (.getfield 41, 3) := by decide +kernel
theorem dX3_pass_70 : decode cX3_pass 70 = .ok (.iastore, 1) := by decide +kernel
theorem dX3_pass_71 : decode cX3_pass 71 = .ok (.aload_n 0, 1) := by decide +kernel
theorem dX3_pass_72 : decode cX3_pass 72 = .ok (.iconst (-1), 1) := by decide +kernel
theorem dX3_pass_73 : decode cX3_pass 73 = .ok (.putfield 19, 3) := by decide +kernel
theorem dX3_pass_76 : decode cX3_pass 76 = .ok (.iconst 0, 1) := by decide +kernel
theorem dX3_pass_77 : decode cX3_pass 77 = .ok (.istore_n 2, 1) := by decide +kernel
theorem dX3_pass_78 : decode cX3_pass 78 = .ok (.iload_n 2, 1) := by decide +kernel
theorem dX3_pass_79 : decode cX3_pass 79 = .ok (.aload_n 0, 1) := by decide +kernel
theorem dX3_pass_80 : decode cX3_pass 80 = .ok (.getfield 3, 3) := by decide +kernel
theorem dX3_pass_83 : decode cX3_pass 83 = .ok (.getfield 66, 3) := by decide +kernel
theorem dX3_pass_86 : decode cX3_pass 86 = .ok (.if_icmp .ge 32, 3) := by decide +kernel
theorem dX3_pass_89 : decode cX3_pass 89 = .ok (.aload_n 0, 1) := by decide +kernel
theorem dX3_pass_90 : decode cX3_pass 90 = .ok (.getfield 26, 3) := by decide +kernel
theorem dX3_pass_93 : decode cX3_pass 93 = .ok (.iload_n 2, 1) := by decide +kernel
theorem dX3_pass_94 : decode cX3_pass 94 = .ok (.dup2, 1) := by decide +kernel
theorem dX3_pass_95 : decode cX3_pass 95 = .ok (.iaload, 1) := by decide +kernel
theorem dX3_pass_96 : decode cX3_pass 96 = .ok (.aload_n 0, 1) := by decide +kernel
theorem dX3_pass_97 : decode cX3_pass 97 = .ok (.getfield 22, 3) := by decide +kernel
theorem dX3_pass_100 : decode cX3_pass 100 = .ok (.iload_n 2, 1) := by decide +kernel
theorem dX3_pass_101 : decode cX3_pass 101 = .ok (.iaload, 1) := by decide +kernel
theorem dX3_pass_102 : decode cX3_pass 102 = .ok (.ifCond .ne 7, 3) := by decide +kernel
theorem dX3_pass_105 : decode cX3_pass 105 = .ok (.iconst 1, 1) := by decide +kernel
theorem dX3_pass_106 : decode cX3_pass 106 = .ok (.goto 4, 3) := by decide +kernel
theorem dX3_pass_109 : decode cX3_pass 109 = .ok (.iconst 0, 1) := by decide +kernel
theorem dX3_pass_110 : decode cX3_pass 110 = .ok (.iadd, 1) := by decide +kernel
theorem dX3_pass_111 : decode cX3_pass 111 = .ok (.iastore, 1) := by decide +kernel
theorem dX3_pass_112 : decode cX3_pass 112 = .ok (.iinc 2 1, 3) := by decide +kernel
theorem dX3_pass_115 : decode cX3_pass 115 = .ok (.goto (-37), 3) := by decide +kernel
theorem dX3_pass_118 : decode cX3_pass 118 = .ok (.aload_n 0, 1) := by decide +kernel
theorem dX3_pass_119 : decode cX3_pass 119 = .ok (.getfield 41, 3) := by decide +kernel
theorem dX3_pass_122 : decode cX3_pass 122 = .ok (.bipush 60, 2) := by decide +kernel
theorem dX3_pass_124 : decode cX3_pass 124 = .ok (.irem, 1) := by decide +kernel
theorem dX3_pass_125 : decode cX3_pass 125 = .ok (.ifCond .ne 39, 3) := by decide +kernel
theorem dX3_pass_128 : decode cX3_pass 128 = .ok (.aload_n 0, 1) := by decide +kernel
theorem dX3_pass_129 : decode cX3_pass 129 = .ok (.iconst 0, 1) := by decide +kernel
theorem dX3_pass_130 : decode cX3_pass 130 = .ok (.bipush 9, 2) := by decide +kernel
theorem dX3_pass_132 : decode cX3_pass 132 = .ok (.aload_n 0, 1) := by decide +kernel
theorem dX3_pass_133 : decode cX3_pass 133 = .ok (.getfield 47, 3) := by decide +kernel
theorem dX3_pass_136 : decode cX3_pass 136 = .ok (.aload_n 0, 1) := by decide +kernel
theorem dX3_pass_137 : decode cX3_pass 137 = .ok (.getfield 3, 3) := by decide +kernel
theorem dX3_pass_140 : decode cX3_pass 140 = .ok (.getfield 94, 3) := by decide +kernel
theorem dX3_pass_143 : decode cX3_pass 143 = .ok (.aload_n 0, 1) := by decide +kernel
theorem dX3_pass_144 : decode cX3_pass 144 = .ok (.getfield 41, 3) := by decide +kernel
theorem dX3_pass_147 : decode cX3_pass 147 = .ok (.bipush 60, 2) := by decide +kernel
theorem dX3_pass_149 : decode cX3_pass 149 = .ok (.idiv, 1) := by decide +kernel
theorem dX3_pass_150 : decode cX3_pass 150 = .ok (.bipush 8, 2) := by decide +kernel
theorem dX3_pass_152 : decode cX3_pass 152 = .ok (.irem, 1) := by decide +kernel
theorem dX3_pass_153 : decode cX3_pass 153 = .ok (.iaload, 1) := by decide +kernel
theorem dX3_pass_154 : decode cX3_pass 154 = .ok (.iadd, 1) := by decide +kernel
theorem dX3_pass_155 : decode cX3_pass 155 = .ok (.invokestatic 83, 3) := by decide +kernel
theorem dX3_pass_158 : decode cX3_pass 158 = .ok (.invokestatic 60, 3) := by decide +kernel
theorem dX3_pass_161 : decode cX3_pass 161 = .ok (.putfield 47, 3) := by decide +kernel
theorem dX3_pass_164 : decode cX3_pass 164 = .ok (.aload_n 0, 1) := by decide +kernel
theorem dX3_pass_165 : decode cX3_pass 165 = .ok (.dup, 1) := by decide +kernel
theorem dX3_pass_166 : decode cX3_pass 166 = .ok (.getfield 41, 3) := by decide +kernel
theorem dX3_pass_169 : decode cX3_pass 169 = .ok (.iconst 1, 1) := by decide +kernel
theorem dX3_pass_170 : decode cX3_pass 170 = .ok (.iadd, 1) := by decide +kernel
theorem dX3_pass_171 : decode cX3_pass 171 = .ok (.putfield 41, 3) := by decide +kernel
theorem dX3_pass_174 : decode cX3_pass 174 = .ok (.return_, 1) := by decide +kernel
set_option maxRecDepth 20000 in
theorem ggX3_pass__X3_pass : GoodIn wsX3_pass_ wsX3_pass := goodIn_r _ [5, 6, 7, 8, 9, 10, 11, 12, 13, 14, 15, 16, 17, 18, 19, 20, 21, 22, 23, 4, 24, 25, 26, 27, 28, 29, 30, 31, 32, 33, 34, 35, 36, 37, 38, 39, 40, 41, 42, 43, 44, 45, 46, 47, 48, 49, 50, 51, 52, 53, 54, 55, 56, 57, 58, 59, 60] (by decide +kernel) (by decide +kernel)
set_option maxRecDepth 20000 in
theorem gX3_pass__X3_pass : GoodIn wsX3_pass_ (wsV RX3 97 RX3 yX3_pass wsX3_pass) := goodIn_app (goodIn_of _ (by decide +kernel)) ggX3_pass__X3_pass
theorem dX3_pass__0 : decode cX3_pass_ 0 = .ok (.iconst 0, 1) := by decide +kernel
theorem dX3_pass__1 : decode cX3_pass_ 1 = .ok (.istore_n 2, 1) := by decide +kernel
theorem dX3_pass__2 : decode cX3_pass_ 2 = .ok (.iload_n 2, 1) := by decide +kernel
theorem dX3_pass__3 : decode cX3_pass_ 3 = .ok (.iload_n 1, 1) := by decide +kernel
theorem dX3_pass__4 : decode cX3_pass_ 4 = .ok (.if_icmp .ge 13, 3) := by decide +kernel
theorem dX3_pass__7 : decode cX3_pass_ 7 = .ok (.aload_n 0, 1) := by decide +kernel
theorem dX3_pass__8 : decode cX3_pass_ 8 = .ok (.invokevirtual 97, 3) := by decide +kernel
theorem dX3_pass__11 : decode cX3_pass_ 11 = .ok (.iinc 2 1, 3) := by decide +kernel
theorem dX3_pass__14 : decode cX3_pass_ 14 = .ok (.goto (-12), 3) := by decide +kernel
theorem dX3_pass__17 : decode cX3_pass_ 17 = .ok (.return_, 1) := by decide +kernel
theorem dX3_are_0 : decode cX3_are 0 = .ok (.iconst 0, 1) := by decide +kernel
theorem dX3_are_1 : decode cX3_are 1 = .ok (.istore_n 3, 1) := by decide +kernel
theorem dX3_are_2 : decode cX3_are 2 = .ok (.iconst 0, 1) := by decide +kernel
theorem dX3_are_3 : decode cX3_are 3 = .ok (.istore 4, 2) := by decide +kernel
theorem dX3_are_5 : decode cX3_are 5 = .ok (.iload 4, 2) := by decide +kernel
theorem dX3_are_7 : decode cX3_are 7 = .ok (.aload_n 0, 1) := by decide +kernel
theorem dX3_are_8 : decode cX3_are 8 = .ok (.getfield 3, 3) := by decide +kernel
theorem dX3_are_11 : decode cX3_are 11 = .ok (.getfield 66, 3) := by decide +kernel
theorem dX3_are_14 : decode cX3_are 14 = .ok (.if_icmp .ge 47, 3) := by decide +kernel
theorem dX3_are_17 : decode cX3_are 17 = .ok (.iload_n 3, 1) := by decide +kernel
theorem dX3_are_18 : decode cX3_are 18 = .ok (.aload_n 0, 1) := by decide +kernel
theorem dX3_are_19 : decode cX3_are 19 = .ok (.getfield 22, 3) := by decide +kernel
theorem dX3_are_22 : decode cX3_are 22 = .ok (.iload 4, 2) := by decide +kernel
theorem dX3_are_24 : decode cX3_are 24 = .ok (.iaload, 1) := by decide +kernel
theorem dX3_are_25 : decode cX3_are 25 = .ok (.iload_n 1, 1) := by decide +kernel
theorem dX3_are_26 : decode cX3_are 26 = .ok (.if_icmp .ne 26, 3) := by decide +kernel
theorem dX3_are_29 : decode cX3_are 29 = .ok (.iload_n 2, 1) := by decide +kernel
theorem dX3_are_30 : decode cX3_are 30 = .ok (.iconst 2, 1) := by decide +kernel
theorem dX3_are_31 : decode cX3_are 31 = .ok (.if_icmp .eq 17, 3) := by decide +kernel
theorem dX3_are_34 : decode cX3_are 34 = .ok (.aload_n 0, 1) := by decide +kernel
theorem dX3_are_35 : decode cX3_are 35 = .ok (.getfield 3, 3) := by decide +kernel
theorem dX3_are_38 : decode cX3_are 38 = .ok (.getfield 69, 3) := by decide +kernel
theorem dX3_are_41 : decode cX3_are 41 = .ok (.iload 4, 2) := by decide +kernel
theorem dX3_are_43 : decode cX3_are 43 = .ok (.iaload, 1) := by decide +kernel
theorem dX3_are_44 : decode cX3_are 44 = .ok (.iload_n 2, 1) := by decide +kernel
theorem dX3_are_45 : decode cX3_are 45 = .ok (.if_icmp .ne 7, 3) := by decide +kernel
theorem dX3_are_48 : decode cX3_are 48 = .ok (.iconst 1, 1) := by decide +kernel
theorem dX3_are_49 : decode cX3_are 49 = .ok (.goto 4, 3) := by decide +kernel
theorem dX3_are_52 : decode cX3_are 52 = .ok (.iconst 0, 1) := by decide +kernel
theorem dX3_are_53 : decode cX3_are 53 = .ok (.iadd, 1) := by decide +kernel
theorem dX3_are_54 : decode cX3_are 54 = .ok (.istore_n 3, 1) := by decide +kernel
theorem dX3_are_55 : decode cX3_are 55 = .ok (.iinc 4 1, 3) := by decide +kernel
theorem dX3_are_58 : decode cX3_are 58 = .ok (.goto (-53), 3) := by decide +kernel
theorem dX3_are_61 : decode cX3_are 61 = .ok (.iload_n 3, 1) := by decide +kernel
theorem dX3_are_62 : decode cX3_are 62 = .ok (.ireturn, 1) := by decide +kernel
theorem dX3_sumWaited_0 : decode cX3_sumWaited 0 = .ok (.iconst 0, 1) := by decide +kernel
theorem dX3_sumWaited_1 : decode cX3_sumWaited 1 = .ok (.istore_n 1, 1) := by decide +kernel
theorem dX3_sumWaited_2 : decode cX3_sumWaited 2 = .ok (.iconst 0, 1) := by decide +kernel
theorem dX3_sumWaited_3 : decode cX3_sumWaited 3 = .ok (.istore_n 2, 1) := by decide +kernel
theorem dX3_sumWaited_4 : decode cX3_sumWaited 4 = .ok (.iload_n 2, 1) := by decide +kernel
theorem dX3_sumWaited_5 : decode cX3_sumWaited 5 = .ok (.aload_n 0, 1) := by decide +kernel
theorem dX3_sumWaited_6 : decode cX3_sumWaited 6 = .ok (.getfield 3, 3) := by decide +kernel
theorem dX3_sumWaited_9 : decode cX3_sumWaited 9 = .ok (.getfield 66, 3) := by decide +kernel
theorem dX3_sumWaited_12 : decode cX3_sumWaited 12 = .ok (.if_icmp .ge 18, 3) := by decide +kernel
theorem dX3_sumWaited_15 : decode cX3_sumWaited 15 = .ok (.iload_n 1, 1) := by decide +kernel
theorem dX3_sumWaited_16 : decode cX3_sumWaited 16 = .ok (.aload_n 0, 1) := by decide +kernel
theorem dX3_sumWaited_17 : decode cX3_sumWaited 17 = .ok (.getfield 26, 3) := by decide +kernel
theorem dX3_sumWaited_20 : decode cX3_sumWaited 20 = .ok (.iload_n 2, 1) := by decide +kernel
theorem dX3_sumWaited_21 : decode cX3_sumWaited 21 = .ok (.iaload, 1) := by decide +kernel
theorem dX3_sumWaited_22 : decode cX3_sumWaited 22 = .ok (.iadd, 1) := by decide +kernel
theorem dX3_sumWaited_23 : decode cX3_sumWaited 23 = .ok (.istore_n 1, 1) := by decide +kernel
theorem dX3_sumWaited_24 : decode cX3_sumWaited 24 = .ok (.iinc 2 1, 3) := by decide +kernel
theorem dX3_sumWaited_27 : decode cX3_sumWaited 27 = .ok (.goto (-23), 3) := by decide +kernel
theorem dX3_sumWaited_30 : decode cX3_sumWaited 30 = .ok (.iload_n 1, 1) := by decide +kernel
theorem dX3_sumWaited_31 : decode cX3_sumWaited 31 = .ok (.ireturn, 1) := by decide +kernel
set_option maxRecDepth 20000 in
theorem ggX3_counted_X3_are : GoodIn wsX3_counted wsX3_are := goodIn_r _ [12, 6, 13, 28, 29, 30, 31, 32, 33, 34, 35, 36, 37, 38, 39, 40, 41, 42, 43, 44, 45, 46, 47] (by decide +kernel) (by decide +kernel)
set_option maxRecDepth 20000 in
theorem gX3_counted_X3_are : GoodIn wsX3_counted (wsV RX3 100 RX3 yX3_are wsX3_are) := goodIn_app (goodIn_of _ (by decide +kernel)) ggX3_counted_X3_are
set_option maxRecDepth 20000 in
theorem ggX3_counted_X3_sumWaited : GoodIn wsX3_counted wsX3_sumWaited := goodIn_r _ [17, 6, 18, 28, 29, 30, 31, 32, 33, 34, 35, 36, 37, 38, 39, 40, 41, 42, 43, 44, 45, 46, 47] (by decide +kernel) (by decide +kernel)
set_option maxRecDepth 20000 in
theorem gX3_counted_X3_sumWaited : GoodIn wsX3_counted (wsV RX3 103 RX3 yX3_sumWaited wsX3_sumWaited) := goodIn_app (goodIn_of _ (by decide +kernel)) ggX3_counted_X3_sumWaited
set_option maxRecDepth 20000 in
theorem ggX3_counted_X3_next : GoodIn wsX3_counted wsX3_next := goodIn_r _ [22, 7, 5, 23, 24, 25, 26, 11, 27, 6, 13, 28, 29, 30, 31, 32, 33, 34, 35, 36, 37, 38, 39, 40, 41, 42, 43, 44, 45, 46, 47] (by decide +kernel) (by decide +kernel)
set_option maxRecDepth 20000 in
theorem gX3_counted_X3_next : GoodIn wsX3_counted (wsV RX3 86 RX3 yX3_next wsX3_next) := goodIn_app (goodIn_of _ (by decide +kernel)) ggX3_counted_X3_next
theorem dX3_counted_0 : decode cX3_counted 0 = .ok (.iload_n 1, 1) := by decide +kernel
theorem dX3_counted_1 : decode cX3_counted 1 = .ok (.tableswitch 123 0 10 #[59, 64, 69, 74, 79, 84, 92, 99, 106, 113, 118], 59) := by decide +kernel
theorem dX3_counted_60 : decode cX3_counted 60 = .ok (.aload_n 0, 1) := by decide +kernel
theorem dX3_counted_61 : decode cX3_counted 61 = .ok (.getfield 41, 3) := by decide +kernel
theorem dX3_counted_64 : decode cX3_counted 64 = .ok (.ireturn, 1) := by decide +kernel
theorem dX3_counted_65 : decode cX3_counted 65 = .ok (.aload_n 0, 1) := by decide +kernel
theorem dX3_counted_66 : decode cX3_counted 66 = .ok (.getfield 44, 3) := by decide +kernel
theorem dX3_counted_69 : decode cX3_counted 69 = .ok (.ireturn, 1) := by decide +kernel
theorem dX3_counted_70 : decode cX3_counted 70 = .ok (.aload_n 0, 1) := by decide +kernel
theorem dX3_counted_71 : decode cX3_counted 71 = .ok (.getfield 15, 3) := by decide +kernel
theorem dX3_counted_74 : decode cX3_counted 74 = .ok (.ireturn, 1) := by decide +kernel
theorem dX3_counted_75 : decode cX3_counted 75 = .ok (.aload_n 0, 1) := by decide +kernel
theorem dX3_counted_76 : decode cX3_counted 76 = .ok (.getfield 47, 3) := by decide +kernel
theorem dX3_counted_79 : decode cX3_counted 79 = .ok (.ireturn, 1) := by decide +kernel
theorem dX3_counted_80 : decode cX3_counted 80 = .ok (.aload_n 0, 1) := by decide +kernel
theorem dX3_counted_81 : decode cX3_counted 81 = .ok (.getfield 50, 3) := by decide +kernel
theorem dX3_counted_84 : decode cX3_counted 84 = .ok (.ireturn, 1) := by decide +kernel
theorem dX3_counted_85 : decode cX3_counted 85 = .ok (.aload_n 0, 1) := by decide +kernel
theorem dX3_counted_86 : decode cX3_counted 86 = .ok (.getfield 3, 3) := by decide +kernel
theorem dX3_counted_89 : decode cX3_counted 89 = .ok (.getfield 66, 3) := by decide +kernel
theorem dX3_counted_92 : decode cX3_counted 92 = .ok (.ireturn, 1) := by decide +kernel
theorem dX3_counted_93 : decode cX3_counted 93 = .ok (.aload_n 0, 1) := by decide +kernel
theorem dX3_counted_94 : decode cX3_counted 94 = .ok (.iconst 0, 1) := by decide +kernel
theorem dX3_counted_95 : decode cX3_counted 95 = .ok (.iconst 1, 1) := by decide +kernel
theorem dX3_counted_96 : decode cX3_counted 96 = .ok (.invokevirtual 100, 3) := by decide +kernel
theorem dX3_counted_99 : decode cX3_counted 99 = .ok (.ireturn, 1) := by decide +kernel
theorem dX3_counted_100 : decode cX3_counted 100 = .ok (.aload_n 0, 1) := by decide +kernel
theorem dX3_counted_101 : decode cX3_counted 101 = .ok (.iconst 0, 1) := by decide +kernel
theorem dX3_counted_102 : decode cX3_counted 102 = .ok (.iconst 0, 1) := by decide +kernel
theorem dX3_counted_103 : decode cX3_counted 103 = .ok (.invokevirtual 100, 3) := by decide +kernel
theorem dX3_counted_106 : decode cX3_counted 106 = .ok (.ireturn, 1) := by decide +kernel
theorem dX3_counted_107 : decode cX3_counted 107 = .ok (.aload_n 0, 1) := by decide +kernel
theorem dX3_counted_108 : decode cX3_counted 108 = .ok (.iconst 2, 1) := by decide +kernel
theorem dX3_counted_109 : decode cX3_counted 109 = .ok (.iconst 2, 1) := by decide +kernel
theorem dX3_counted_110 : decode cX3_counted 110 = .ok (.invokevirtual 100, 3) := by decide +kernel
theorem dX3_counted_113 : decode cX3_counted 113 = .ok (.ireturn, 1) := by decide +kernel
theorem dX3_counted_114 : decode cX3_counted 114 = .ok (.aload_n 0, 1) := by decide +kernel
theorem dX3_counted_115 : decode cX3_counted 115 = .ok (.invokevirtual 103, 3) := by decide +kernel
theorem dX3_counted_118 : decode cX3_counted 118 = .ok (.ireturn, 1) := by decide +kernel
theorem dX3_counted_119 : decode cX3_counted 119 = .ok (.aload_n 0, 1) := by decide +kernel
theorem dX3_counted_120 : decode cX3_counted 120 = .ok (.getfield 19, 3) := by decide +kernel
theorem dX3_counted_123 : decode cX3_counted 123 = .ok (.ireturn, 1) := by decide +kernel
theorem dX3_counted_124 : decode cX3_counted 124 = .ok (.aload_n 0, 1) := by decide +kernel
theorem dX3_counted_125 : decode cX3_counted 125 = .ok (.invokevirtual 86, 3) := by decide +kernel
theorem dX3_counted_128 : decode cX3_counted 128 = .ok (.ireturn, 1) := by decide +kernel
set_option maxRecDepth 20000 in
theorem ggX4_init_X3_init : GoodIn wsX4_init wsX3_init := goodIn_r _ [15, 16, 17, 2, 3, 18, 19, 4, 20, 21, 22, 23, 32, 33, 34, 35, 36, 37, 38, 39, 40, 41, 42, 43] (by decide +kernel) (by decide +kernel)
set_option maxRecDepth 20000 in
theorem gX4_init_X3_init_n24 : GoodIn wsX4_init (wsX3_init) := ggX4_init_X3_init
theorem dX4_init_0 : decode cX4_init 0 = .ok (.aload_n 0, 1) := by decide +kernel
theorem dX4_init_1 : decode cX4_init 1 = .ok (.invokespecial 1, 3) := by decide +kernel
theorem dX4_init_4 : decode cX4_init 4 = .ok (.aload_n 0, 1) := by decide +kernel
theorem dX4_init_5 : decode cX4_init 5 = .ok (.bipush 40, 2) := by decide +kernel
theorem dX4_init_7 : decode cX4_init 7 = .ok (.newarray .int, 2) := by decide +kernel
theorem dX4_init_9 : decode cX4_init 9 = .ok (.putfield 9, 3) := by decide +kernel
theorem dX4_init_12 : decode cX4_init 12 = .ok (.aload_n 0, 1) := by decide +kernel
theorem dX4_init_13 : decode cX4_init 13 = .ok (.bipush 40, 2) := by decide +kernel
theorem dX4_init_15 : decode cX4_init 15 = .ok (.newarray .int, 2) := by decide +kernel
theorem dX4_init_17 : decode cX4_init 17 = .ok (.putfield 13, 3) := by decide +kernel
theorem dX4_init_20 : decode cX4_init 20 = .ok (.aload_n 0, 1) := by decide +kernel
theorem dX4_init_21 : decode cX4_init 21 = .ok (.bipush 40, 2) := by decide +kernel
theorem dX4_init_23 : decode cX4_init 23 = .ok (.newarray .int, 2) := by decide +kernel
theorem dX4_init_25 : decode cX4_init 25 = .ok (.putfield 16, 3) := by decide +kernel
theorem dX4_init_28 : decode cX4_init 28 = .ok (.aload_n 0, 1) := by decide +kernel
theorem dX4_init_29 : decode cX4_init 29 = .ok (.bipush 8, 2) := by decide +kernel
theorem dX4_init_31 : decode cX4_init 31 = .ok (.newarray .int, 2) := by decide +kernel
theorem dX4_init_33 : decode cX4_init 33 = .ok (.putfield 19, 3) := by decide +kernel
theorem dX4_init_36 : decode cX4_init 36 = .ok (.aload_n 0, 1) := by decide +kernel
theorem dX4_init_37 : decode cX4_init 37 = .ok (.new 22, 3) := by decide +kernel
theorem dX4_init_40 : decode cX4_init 40 = .ok (.dup, 1) := by decide +kernel
theorem dX4_init_41 : decode cX4_init 41 = .ok (.aload_n 0, 1) := by decide +kernel
theorem dX4_init_42 : decode cX4_init 42 = .ok (.invokespecial 24, 3) := by decide +kernel
theorem dX4_init_45 : decode cX4_init 45 = .ok (.putfield 27, 3) := by decide +kernel
theorem dX4_init_48 : decode cX4_init 48 = .ok (.aload_n 0, 1) := by decide +kernel
theorem dX4_init_49 : decode cX4_init 49 = .ok (.new 22, 3) := by decide +kernel
theorem dX4_init_52 : decode cX4_init 52 = .ok (.dup, 1) := by decide +kernel
theorem dX4_init_53 : decode cX4_init 53 = .ok (.aload_n 0, 1) := by decide +kernel
theorem dX4_init_54 : decode cX4_init 54 = .ok (.invokespecial 24, 3) := by decide +kernel
theorem dX4_init_57 : decode cX4_init 57 = .ok (.putfield 31, 3) := by decide +kernel
theorem dX4_init_60 : decode cX4_init 60 = .ok (.return_, 1) := by decide +kernel
theorem dX4_thrown_0 : decode cX4_thrown 0 = .ok (.aload_n 0, 1) := by decide +kernel
theorem dX4_thrown_1 : decode cX4_thrown 1 = .ok (.getfield 34, 3) := by decide +kernel
theorem dX4_thrown_4 : decode cX4_thrown 4 = .ok (.ireturn, 1) := by decide +kernel
theorem dX4_no_0 : decode cX4_no 0 = .ok (.aload_n 0, 1) := by decide +kernel
theorem dX4_no_1 : decode cX4_no 1 = .ok (.iload_n 1, 1) := by decide +kernel
theorem dX4_no_2 : decode cX4_no 2 = .ok (.putfield 34, 3) := by decide +kernel
theorem dX4_no_5 : decode cX4_no 5 = .ok (.iconst 0, 1) := by decide +kernel
theorem dX4_no_6 : decode cX4_no 6 = .ok (.ireturn, 1) := by decide +kernel
theorem dX4_isIn_0 : decode cX4_isIn 0 = .ok (.iload_n 0, 1) := by decide +kernel
theorem dX4_isIn_1 : decode cX4_isIn 1 = .ok (.iload_n 1, 1) := by decide +kernel
theorem dX4_isIn_2 : decode cX4_isIn 2 = .ok (.if_icmp .lt 12, 3) := by decide +kernel
theorem dX4_isIn_5 : decode cX4_isIn 5 = .ok (.iload_n 0, 1) := by decide +kernel
theorem dX4_isIn_6 : decode cX4_isIn 6 = .ok (.iload_n 2, 1) := by decide +kernel
theorem dX4_isIn_7 : decode cX4_isIn 7 = .ok (.if_icmp .gt 7, 3) := by decide +kernel
theorem dX4_isIn_10 : decode cX4_isIn 10 = .ok (.iconst 1, 1) := by decide +kernel
theorem dX4_isIn_11 : decode cX4_isIn 11 = .ok (.goto 4, 3) := by decide +kernel
theorem dX4_isIn_14 : decode cX4_isIn 14 = .ok (.iconst 0, 1) := by decide +kernel
theorem dX4_isIn_15 : decode cX4_isIn 15 = .ok (.ireturn, 1) := by decide +kernel
set_option maxRecDepth 20000 in
theorem ggX4_isTraveller_X4_isIn : GoodIn wsX4_isTraveller wsX4_isIn := goodIn_r _ [5] (by decide +kernel) (by decide +kernel)
set_option maxRecDepth 20000 in
theorem gX4_isTraveller_X4_isIn : GoodIn wsX4_isTraveller (va_wsS RX4 41 yX4_isIn wsX4_isIn) := goodIn_app (goodIn_of _ (by decide +kernel)) ggX4_isTraveller_X4_isIn
theorem dX4_isTraveller_0 : decode cX4_isTraveller 0 = .ok (.iload_n 1, 1) := by decide +kernel
theorem dX4_isTraveller_1 : decode cX4_isTraveller 1 = .ok (.iconst 0, 1) := by decide +kernel
theorem dX4_isTraveller_2 : decode cX4_isTraveller 2 = .ok (.aload_n 0, 1) := by decide +kernel
theorem dX4_isTraveller_3 : decode cX4_isTraveller 3 = .ok (.getfield 38, 3) := by decide +kernel
theorem dX4_isTraveller_6 : decode cX4_isTraveller 6 = .ok (.iconst 1, 1) := by decide +kernel
theorem dX4_isTraveller_7 : decode cX4_isTraveller 7 = .ok (.isub, 1) := by decide +kernel
theorem dX4_isTraveller_8 : decode cX4_isTraveller 8 = .ok (.invokestatic 41, 3) := by decide +kernel
theorem dX4_isTraveller_11 : decode cX4_isTraveller 11 = .ok (.ireturn, 1) := by decide +kernel
set_option maxRecDepth 20000 in
theorem ggX4_come_X4_isIn : GoodIn wsX4_come wsX4_isIn := goodIn_r _ [10] (by decide +kernel) (by decide +kernel)
set_option maxRecDepth 20000 in
theorem gX4_come_X4_isIn : GoodIn wsX4_come (va_wsS RX4 41 yX4_isIn wsX4_isIn) := goodIn_app (goodIn_of _ (by decide +kernel)) ggX4_come_X4_isIn
set_option maxRecDepth 20000 in
theorem ggX4_come_X4_no : GoodIn wsX4_come wsX4_no := goodIn_r _ [14, 1, 15, 16, 17, 18, 19, 20, 21, 22] (by decide +kernel) (by decide +kernel)
set_option maxRecDepth 20000 in
theorem gX4_come_X4_no : GoodIn wsX4_come (wsV RX4 45 RX4 yX4_no wsX4_no) := goodIn_app (goodIn_of _ (by decide +kernel)) ggX4_come_X4_no
theorem dX4_come_0 : decode cX4_come 0 = .ok (.aload_n 0, 1) := by decide +kernel
theorem dX4_come_1 : decode cX4_come 1 = .ok (.iconst 0, 1) := by decide +kernel
theorem dX4_come_2 : decode cX4_come 2 = .ok (.putfield 34, 3) := by decide +kernel
theorem dX4_come_5 : decode cX4_come 5 = .ok (.iload_n 2, 1) := by decide +kernel
theorem dX4_come_6 : decode cX4_come 6 = .ok (.iconst 1, 1) := by decide +kernel
theorem dX4_come_7 : decode cX4_come 7 = .ok (.bipush 6, 2) := by decide +kernel
theorem dX4_come_9 : decode cX4_come 9 = .ok (.invokestatic 41, 3) := by decide +kernel
theorem dX4_come_12 : decode cX4_come 12 = .ok (.ifCond .ne 9, 3) := by decide +kernel
theorem dX4_come_15 : decode cX4_come 15 = .ok (.aload_n 0, 1) := by decide +kernel
theorem dX4_come_16 : decode cX4_come 16 = .ok (.iconst 1, 1) := by decide +kernel
theorem dX4_come_17 : decode cX4_come 17 = .ok (.invokevirtual 45, 3) := by decide +kernel
theorem dX4_come_20 : decode cX4_come 20 = .ok (.ireturn, 1) := by decide +kernel
theorem dX4_come_21 : decode cX4_come 21 = .ok (.aload_n 0, 1) := by decide +kernel
theorem dX4_come_22 : decode cX4_come 22 = .ok (.getfield 38, 3) := by decide +kernel
theorem dX4_come_25 : decode cX4_come 25 = .ok (.bipush 40, 2) := by decide +kernel
theorem dX4_come_27 : decode cX4_come 27 = .ok (.if_icmp .ne 9, 3) := by decide +kernel
theorem dX4_come_30 : decode cX4_come 30 = .ok (.aload_n 0, 1) := by decide +kernel
theorem dX4_come_31 : decode cX4_come 31 = .ok (.iconst 2, 1) := by decide +kernel
theorem dX4_come_32 : decode cX4_come 32 = .ok (.invokevirtual 45, 3) := by decide +kernel
theorem dX4_come_35 : decode cX4_come 35 = .ok (.ireturn, 1) := by decide +kernel
theorem dX4_come_36 : decode cX4_come 36 = .ok (.aload_n 0, 1) := by decide +kernel
theorem dX4_come_37 : decode cX4_come 37 = .ok (.getfield 9, 3) := by decide +kernel
theorem dX4_come_40 : decode cX4_come 40 = .ok (.aload_n 0, 1) := by decide +kernel
theorem dX4_come_41 : decode cX4_come 41 = .ok (.getfield 38, 3) := by decide +kernel
theorem dX4_come_44 : decode cX4_come 44 = .ok (.iload_n 1, 1) := by decide +kernel
theorem dX4_come_45 : decode cX4_come 45 = .ok (.ifCond .eq 7, 3) := by decide +kernel
theorem dX4_come_48 : decode cX4_come 48 = .ok (.iconst 1, 1) := by decide +kernel
theorem dX4_come_49 : decode cX4_come 49 = .ok (.goto 4, 3) := by decide +kernel
theorem dX4_come_52 : decode cX4_come 52 = .ok (.iconst 0, 1) := by decide +kernel
theorem dX4_come_53 : decode cX4_come 53 = .ok (.iastore, 1) := by decide +kernel
theorem dX4_come_54 : decode cX4_come 54 = .ok (.aload_n 0, 1) := by decide +kernel
theorem dX4_come_55 : decode cX4_come 55 = .ok (.getfield 13, 3) := by decide +kernel
theorem dX4_come_58 : decode cX4_come 58 = .ok (.aload_n 0, 1) := by decide +kernel
theorem dX4_come_59 : decode cX4_come 59 = .ok (.getfield 38, 3) := by decide +kernel
theorem dX4_come_62 : decode cX4_come 62 = .ok (.iload_n 2, 1) := by decide +kernel
theorem dX4_come_63 : decode cX4_come 63 = .ok (.iastore, 1) := by decide +kernel
theorem dX4_come_64 : decode cX4_come 64 = .ok (.aload_n 0, 1) := by decide +kernel
theorem dX4_come_65 : decode cX4_come 65 = .ok (.getfield 16, 3) := by decide +kernel
theorem dX4_come_68 : decode cX4_come 68 = .ok (.aload_n 0, 1) := by decide +kernel
theorem dX4_come_69 : decode cX4_come 69 = .ok (.getfield 38, 3) := by decide +kernel
theorem dX4_come_72 : decode cX4_come 72 = .ok (.aload_n 0, 1) := by decide +kernel
theorem dX4_come_73 : decode cX4_come 73 = .ok (.getfield 27, 3) := by decide +kernel
theorem dX4_come_76 : decode cX4_come 76 = .ok (.getfield 49, 3) := by decide +kernel
theorem dX4_come_79 : decode cX4_come 79 = .ok (.iastore, 1) := by decide +kernel
theorem dX4_come_80 : decode cX4_come 80 = .ok (.aload_n 0, 1) := by decide +kernel
theorem dX4_come_81 : decode cX4_come 81 = .ok (.getfield 27, 3) := by decide +kernel
theorem dX4_come_84 : decode cX4_come 84 = .ok (.getfield 52, 3) := by decide +kernel
theorem dX4_come_87 : decode cX4_come 87 = .ok (.aload_n 0, 1) := by decide +kernel
theorem dX4_come_88 : decode cX4_come 88 = .ok (.getfield 38, 3) := by decide +kernel
theorem dX4_come_91 : decode cX4_come 91 = .ok (.iconst (-1), 1) := by decide +kernel
theorem dX4_come_92 : decode cX4_come 92 = .ok (.iastore, 1) := by decide +kernel
theorem dX4_come_93 : decode cX4_come 93 = .ok (.aload_n 0, 1) := by decide +kernel
theorem dX4_come_94 : decode cX4_come 94 = .ok (.dup, 1) := by decide +kernel
theorem dX4_come_95 : decode cX4_come 95 = .ok (.getfield 38, 3) := by decide +kernel
theorem dX4_come_98 : decode cX4_come 98 = .ok (.iconst 1, 1) := by decide +kernel
theorem dX4_come_99 : decode cX4_come 99 = .ok (.iadd, 1) := by decide +kernel
theorem dX4_come_100 : decode cX4_come 100 = .ok (.putfield 38, 3) := by decide +kernel
theorem dX4_come_103 : decode cX4_come 103 = .ok (.aload_n 0, 1) := by decide +kernel
theorem dX4_come_104 : decode cX4_come 104 = .ok (.getfield 38, 3) := by decide +kernel
theorem dX4_come_107 : decode cX4_come 107 = .ok (.iconst 1, 1) := by decide +kernel
theorem dX4_come_108 : decode cX4_come 108 = .ok (.isub, 1) := by decide +kernel
theorem dX4_come_109 : decode cX4_come 109 = .ok (.ireturn, 1) := by decide +kernel
set_option maxRecDepth 20000 in
theorem ggX4_leave_X4_isTraveller : GoodIn wsX4_leave wsX4_isTraveller := goodIn_r _ [7, 8, 9, 10, 6, 11, 16, 17, 18, 19, 20, 21, 22, 23] (by decide +kernel) (by decide +kernel)
set_option maxRecDepth 20000 in
theorem gX4_leave_X4_isTraveller : GoodIn wsX4_leave (wsV RX4 55 RX4 yX4_isTraveller wsX4_isTraveller) := goodIn_app (goodIn_of _ (by decide +kernel)) ggX4_leave_X4_isTraveller
set_option maxRecDepth 20000 in
theorem ggX4_leave_X4_no : GoodIn wsX4_leave wsX4_no := goodIn_r _ [15, 1, 16, 17, 18, 19, 20, 21, 22, 23] (by decide +kernel) (by decide +kernel)
set_option maxRecDepth 20000 in
theorem gX4_leave_X4_no : GoodIn wsX4_leave (wsV RX4 45 RX4 yX4_no wsX4_no) := goodIn_app (goodIn_of _ (by decide +kernel)) ggX4_leave_X4_no
theorem dX4_leave_0 : decode cX4_leave 0 = .ok (.aload_n 0, 1) := by decide +kernel
theorem dX4_leave_1 : decode cX4_leave 1 = .ok (.iconst 0, 1) := by decide +kernel
theorem dX4_leave_2 : decode cX4_leave 2 = .ok (.putfield 34, 3) := by decide +kernel
theorem dX4_leave_5 : decode cX4_leave 5 = .ok (.aload_n 0, 1) := by decide +kernel
theorem dX4_leave_6 : decode cX4_leave 6 = .ok (.iload_n 1, 1) := by decide +kernel
theorem dX4_leave_7 : decode cX4_leave 7 = .ok (.invokevirtual 55, 3) := by decide +kernel
theorem dX4_leave_10 : decode cX4_leave 10 = .ok (.ifCond .ne 9, 3) := by decide +kernel
theorem dX4_leave_13 : decode cX4_leave 13 = .ok (.aload_n 0, 1) := by decide +kernel
theorem dX4_leave_14 : decode cX4_leave 14 = .ok (.iconst 1, 1) := by decide +kernel
theorem dX4_leave_15 : decode cX4_leave 15 = .ok (.invokevirtual 45, 3) := by decide +kernel
theorem dX4_leave_18 : decode cX4_leave 18 = .ok (.ireturn, 1) := by decide +kernel
theorem dX4_leave_19 : decode cX4_leave 19 = .ok (.aload_n 0, 1) := by decide +kernel
theorem dX4_leave_20 : decode cX4_leave 20 = .ok (.getfield 27, 3) := by decide +kernel
theorem dX4_leave_23 : decode cX4_leave 23 = .ok (.getfield 59, 3) := by decide +kernel
theorem dX4_leave_26 : decode cX4_leave 26 = .ok (.iload_n 1, 1) := by decide +kernel
theorem dX4_leave_27 : decode cX4_leave 27 = .ok (.iaload, 1) := by decide +kernel
theorem dX4_leave_28 : decode cX4_leave 28 = .ok (.ifCond .eq 9, 3) := by decide +kernel
theorem dX4_leave_31 : decode cX4_leave 31 = .ok (.aload_n 0, 1) := by decide +kernel
theorem dX4_leave_32 : decode cX4_leave 32 = .ok (.iconst 2, 1) := by decide +kernel
theorem dX4_leave_33 : decode cX4_leave 33 = .ok (.invokevirtual 45, 3) := by decide +kernel
theorem dX4_leave_36 : decode cX4_leave 36 = .ok (.ireturn, 1) := by decide +kernel
theorem dX4_leave_37 : decode cX4_leave 37 = .ok (.aload_n 0, 1) := by decide +kernel
theorem dX4_leave_38 : decode cX4_leave 38 = .ok (.getfield 27, 3) := by decide +kernel
theorem dX4_leave_41 : decode cX4_leave 41 = .ok (.getfield 59, 3) := by decide +kernel
theorem dX4_leave_44 : decode cX4_leave 44 = .ok (.iload_n 1, 1) := by decide +kernel
theorem dX4_leave_45 : decode cX4_leave 45 = .ok (.iconst 3, 1) := by decide +kernel
theorem dX4_leave_46 : decode cX4_leave 46 = .ok (.iastore, 1) := by decide +kernel
theorem dX4_leave_47 : decode cX4_leave 47 = .ok (.aload_n 0, 1) := by decide +kernel
theorem dX4_leave_48 : decode cX4_leave 48 = .ok (.getfield 27, 3) := by decide +kernel
theorem dX4_leave_51 : decode cX4_leave 51 = .ok (.getfield 62, 3) := by decide +kernel
theorem dX4_leave_54 : decode cX4_leave 54 = .ok (.iload_n 1, 1) := by decide +kernel
theorem dX4_leave_55 : decode cX4_leave 55 = .ok (.iaload, 1) := by decide +kernel
theorem dX4_leave_56 : decode cX4_leave 56 = .ok (.ireturn, 1) := by decide +kernel
set_option maxRecDepth 20000 in
theorem ggX4_ring_X4_isIn : GoodIn wsX4_ring wsX4_isIn := goodIn_r _ [6] (by decide +kernel) (by decide +kernel)
set_option maxRecDepth 20000 in
theorem gX4_ring_X4_isIn : GoodIn wsX4_ring (va_wsS RX4 41 yX4_isIn wsX4_isIn) := goodIn_app (goodIn_of _ (by decide +kernel)) ggX4_ring_X4_isIn
set_option maxRecDepth 20000 in
theorem ggX4_ring_X4_no : GoodIn wsX4_ring wsX4_no := goodIn_r _ [10, 1, 11, 12, 13, 14, 15, 16, 17, 18] (by decide +kernel) (by decide +kernel)
set_option maxRecDepth 20000 in
theorem gX4_ring_X4_no : GoodIn wsX4_ring (wsV RX4 45 RX4 yX4_no wsX4_no) := goodIn_app (goodIn_of _ (by decide +kernel)) ggX4_ring_X4_no
theorem dX4_ring_0 : decode cX4_ring 0 = .ok (.aload_n 0, 1) := by decide +kernel
theorem dX4_ring_1 : decode cX4_ring 1 = .ok (.iconst 0, 1) := by decide +kernel
theorem dX4_ring_2 : decode cX4_ring 2 = .ok (.putfield 34, 3) := by decide +kernel
theorem dX4_ring_5 : decode cX4_ring 5 = .ok (.iload_n 1, 1) := by decide +kernel
theorem dX4_ring_6 : decode cX4_ring 6 = .ok (.iconst 0, 1) := by decide +kernel
theorem dX4_ring_7 : decode cX4_ring 7 = .ok (.iconst 4, 1) := by decide +kernel
theorem dX4_ring_8 : decode cX4_ring 8 = .ok (.invokestatic 41, 3) := by decide +kernel
theorem dX4_ring_11 : decode cX4_ring 11 = .ok (.ifCond .ne 9, 3) := by decide +kernel
theorem dX4_ring_14 : decode cX4_ring 14 = .ok (.aload_n 0, 1) := by decide +kernel
theorem dX4_ring_15 : decode cX4_ring 15 = .ok (.iconst 1, 1) := by decide +kernel
theorem dX4_ring_16 : decode cX4_ring 16 = .ok (.invokevirtual 45, 3) := by decide +kernel
theorem dX4_ring_19 : decode cX4_ring 19 = .ok (.ireturn, 1) := by decide +kernel
theorem dX4_ring_20 : decode cX4_ring 20 = .ok (.aload_n 0, 1) := by decide +kernel
theorem dX4_ring_21 : decode cX4_ring 21 = .ok (.getfield 27, 3) := by decide +kernel
theorem dX4_ring_24 : decode cX4_ring 24 = .ok (.getfield 65, 3) := by decide +kernel
theorem dX4_ring_27 : decode cX4_ring 27 = .ok (.istore_n 2, 1) := by decide +kernel
theorem dX4_ring_28 : decode cX4_ring 28 = .ok (.aload_n 0, 1) := by decide +kernel
theorem dX4_ring_29 : decode cX4_ring 29 = .ok (.getfield 27, 3) := by decide +kernel
theorem dX4_ring_32 : decode cX4_ring 32 = .ok (.iload_n 1, 1) := by decide +kernel
theorem dX4_ring_33 : decode cX4_ring 33 = .ok (.putfield 65, 3) := by decide +kernel
theorem dX4_ring_36 : decode cX4_ring 36 = .ok (.iload_n 2, 1) := by decide +kernel
theorem dX4_ring_37 : decode cX4_ring 37 = .ok (.ireturn, 1) := by decide +kernel
set_option maxRecDepth 20000 in
theorem ggX4_poise_X4_isIn : GoodIn wsX4_poise wsX4_isIn := goodIn_r _ [6] (by decide +kernel) (by decide +kernel)
set_option maxRecDepth 20000 in
theorem gX4_poise_X4_isIn : GoodIn wsX4_poise (va_wsS RX4 41 yX4_isIn wsX4_isIn) := goodIn_app (goodIn_of _ (by decide +kernel)) ggX4_poise_X4_isIn
set_option maxRecDepth 20000 in
theorem ggX4_poise_X4_no : GoodIn wsX4_poise wsX4_no := goodIn_r _ [10, 1, 11, 12, 13, 14, 15, 16, 17, 18] (by decide +kernel) (by decide +kernel)
set_option maxRecDepth 20000 in
theorem gX4_poise_X4_no : GoodIn wsX4_poise (wsV RX4 45 RX4 yX4_no wsX4_no) := goodIn_app (goodIn_of _ (by decide +kernel)) ggX4_poise_X4_no
theorem dX4_poise_0 : decode cX4_poise 0 = .ok (.aload_n 0, 1) := by decide +kernel
theorem dX4_poise_1 : decode cX4_poise 1 = .ok (.iconst 0, 1) := by decide +kernel
theorem dX4_poise_2 : decode cX4_poise 2 = .ok (.putfield 34, 3) := by decide +kernel
theorem dX4_poise_5 : decode cX4_poise 5 = .ok (.iload_n 1, 1) := by decide +kernel
theorem dX4_poise_6 : decode cX4_poise 6 = .ok (.iconst 0, 1) := by decide +kernel
theorem dX4_poise_7 : decode cX4_poise 7 = .ok (.bipush 30, 2) := by decide +kernel
theorem dX4_poise_9 : decode cX4_poise 9 = .ok (.invokestatic 41, 3) := by decide +kernel
theorem dX4_poise_12 : decode cX4_poise 12 = .ok (.ifCond .ne 9, 3) := by decide +kernel
theorem dX4_poise_15 : decode cX4_poise 15 = .ok (.aload_n 0, 1) := by decide +kernel
theorem dX4_poise_16 : decode cX4_poise 16 = .ok (.iconst 1, 1) := by decide +kernel
theorem dX4_poise_17 : decode cX4_poise 17 = .ok (.invokevirtual 45, 3) := by decide +kernel
theorem dX4_poise_20 : decode cX4_poise 20 = .ok (.ireturn, 1) := by decide +kernel
theorem dX4_poise_21 : decode cX4_poise 21 = .ok (.aload_n 0, 1) := by decide +kernel
theorem dX4_poise_22 : decode cX4_poise 22 = .ok (.getfield 27, 3) := by decide +kernel
theorem dX4_poise_25 : decode cX4_poise 25 = .ok (.getfield 68, 3) := by decide +kernel
theorem dX4_poise_28 : decode cX4_poise 28 = .ok (.ifCond .eq 21, 3) := by decide +kernel
theorem dX4_poise_31 : decode cX4_poise 31 = .ok (.aload_n 0, 1) := by decide +kernel
theorem dX4_poise_32 : decode cX4_poise 32 = .ok (.getfield 27, 3) := by decide +kernel
theorem dX4_poise_35 : decode cX4_poise 35 = .ok (.getfield 68, 3) := by decide +kernel
theorem dX4_poise_38 : decode cX4_poise 38 = .ok (.bipush 60, 2) := by decide +kernel
theorem dX4_poise_40 : decode cX4_poise 40 = .ok (.if_icmp .eq 9, 3) := by decide +kernel
theorem dX4_poise_43 : decode cX4_poise 43 = .ok (.aload_n 0, 1) := by decide +kernel
theorem dX4_poise_44 : decode cX4_poise 44 = .ok (.iconst 2, 1) := by decide +kernel
theorem dX4_poise_45 : decode cX4_poise 45 = .ok (.invokevirtual 45, 3) := by decide +kernel
theorem dX4_poise_48 : decode cX4_poise 48 = .ok (.ireturn, 1) := by decide +kernel
theorem dX4_poise_49 : decode cX4_poise 49 = .ok (.aload_n 0, 1) := by decide +kernel
theorem dX4_poise_50 : decode cX4_poise 50 = .ok (.getfield 27, 3) := by decide +kernel
theorem dX4_poise_53 : decode cX4_poise 53 = .ok (.getfield 71, 3) := by decide +kernel
theorem dX4_poise_56 : decode cX4_poise 56 = .ok (.istore_n 2, 1) := by decide +kernel
theorem dX4_poise_57 : decode cX4_poise 57 = .ok (.aload_n 0, 1) := by decide +kernel
theorem dX4_poise_58 : decode cX4_poise 58 = .ok (.getfield 27, 3) := by decide +kernel
theorem dX4_poise_61 : decode cX4_poise 61 = .ok (.iload_n 1, 1) := by decide +kernel
theorem dX4_poise_62 : decode cX4_poise 62 = .ok (.putfield 71, 3) := by decide +kernel
theorem dX4_poise_65 : decode cX4_poise 65 = .ok (.iload_n 2, 1) := by decide +kernel
theorem dX4_poise_66 : decode cX4_poise 66 = .ok (.ireturn, 1) := by decide +kernel
set_option maxRecDepth 20000 in
theorem ggX4_setCold_X4_isIn : GoodIn wsX4_setCold wsX4_isIn := goodIn_r _ [6] (by decide +kernel) (by decide +kernel)
set_option maxRecDepth 20000 in
theorem gX4_setCold_X4_isIn : GoodIn wsX4_setCold (va_wsS RX4 41 yX4_isIn wsX4_isIn) := goodIn_app (goodIn_of _ (by decide +kernel)) ggX4_setCold_X4_isIn
set_option maxRecDepth 20000 in
theorem ggX4_setCold_X4_no : GoodIn wsX4_setCold wsX4_no := goodIn_r _ [10, 1, 11, 12, 13, 14, 15, 16, 17, 18] (by decide +kernel) (by decide +kernel)
set_option maxRecDepth 20000 in
theorem gX4_setCold_X4_no : GoodIn wsX4_setCold (wsV RX4 45 RX4 yX4_no wsX4_no) := goodIn_app (goodIn_of _ (by decide +kernel)) ggX4_setCold_X4_no
theorem dX4_setCold_0 : decode cX4_setCold 0 = .ok (.aload_n 0, 1) := by decide +kernel
theorem dX4_setCold_1 : decode cX4_setCold 1 = .ok (.iconst 0, 1) := by decide +kernel
theorem dX4_setCold_2 : decode cX4_setCold 2 = .ok (.putfield 34, 3) := by decide +kernel
theorem dX4_setCold_5 : decode cX4_setCold 5 = .ok (.iload_n 1, 1) := by decide +kernel
theorem dX4_setCold_6 : decode cX4_setCold 6 = .ok (.iconst 0, 1) := by decide +kernel
theorem dX4_setCold_7 : decode cX4_setCold 7 = .ok (.bipush 7, 2) := by decide +kernel
theorem dX4_setCold_9 : decode cX4_setCold 9 = .ok (.invokestatic 41, 3) := by decide +kernel
theorem dX4_setCold_12 : decode cX4_setCold 12 = .ok (.ifCond .ne 9, 3) := by decide +kernel
theorem dX4_setCold_15 : decode cX4_setCold 15 = .ok (.aload_n 0, 1) := by decide +kernel
theorem dX4_setCold_16 : decode cX4_setCold 16 = .ok (.iconst 1, 1) := by decide +kernel
theorem dX4_setCold_17 : decode cX4_setCold 17 = .ok (.invokevirtual 45, 3) := by decide +kernel
theorem dX4_setCold_20 : decode cX4_setCold 20 = .ok (.ireturn, 1) := by decide +kernel
theorem dX4_setCold_21 : decode cX4_setCold 21 = .ok (.iload_n 2, 1) := by decide +kernel
theorem dX4_setCold_22 : decode cX4_setCold 22 = .ok (.bipush (-3), 2) := by decide +kernel
theorem dX4_setCold_24 : decode cX4_setCold 24 = .ok (.iconst 3, 1) := by decide +kernel
theorem dX4_setCold_25 : decode cX4_setCold 25 = .ok (.invokestatic 41, 3) := by decide +kernel
theorem dX4_setCold_28 : decode cX4_setCold 28 = .ok (.ifCond .ne 9, 3) := by decide +kernel
theorem dX4_setCold_31 : decode cX4_setCold 31 = .ok (.aload_n 0, 1) := by decide +kernel
theorem dX4_setCold_32 : decode cX4_setCold 32 = .ok (.iconst 2, 1) := by decide +kernel
theorem dX4_setCold_33 : decode cX4_setCold 33 = .ok (.invokevirtual 45, 3) := by decide +kernel
theorem dX4_setCold_36 : decode cX4_setCold 36 = .ok (.ireturn, 1) := by decide +kernel
theorem dX4_setCold_37 : decode cX4_setCold 37 = .ok (.aload_n 0, 1) := by decide +kernel
theorem dX4_setCold_38 : decode cX4_setCold 38 = .ok (.getfield 19, 3) := by decide +kernel
theorem dX4_setCold_41 : decode cX4_setCold 41 = .ok (.iload_n 1, 1) := by decide +kernel
theorem dX4_setCold_42 : decode cX4_setCold 42 = .ok (.iaload, 1) := by decide +kernel
theorem dX4_setCold_43 : decode cX4_setCold 43 = .ok (.istore_n 3, 1) := by decide +kernel
theorem dX4_setCold_44 : decode cX4_setCold 44 = .ok (.aload_n 0, 1) := by decide +kernel
theorem dX4_setCold_45 : decode cX4_setCold 45 = .ok (.getfield 19, 3) := by decide +kernel
theorem dX4_setCold_48 : decode cX4_setCold 48 = .ok (.iload_n 1, 1) := by decide +kernel
theorem dX4_setCold_49 : decode cX4_setCold 49 = .ok (.iload_n 2, 1) := by decide +kernel
theorem dX4_setCold_50 : decode cX4_setCold 50 = .ok (.iastore, 1) := by decide +kernel
theorem dX4_setCold_51 : decode cX4_setCold 51 = .ok (.iload_n 3, 1) := by decide +kernel
theorem dX4_setCold_52 : decode cX4_setCold 52 = .ok (.ireturn, 1) := by decide +kernel
theorem dX4_crack_0 : decode cX4_crack 0 = .ok (.aload_n 0, 1) := by decide +kernel
theorem dX4_crack_1 : decode cX4_crack 1 = .ok (.iconst 0, 1) := by decide +kernel
theorem dX4_crack_2 : decode cX4_crack 2 = .ok (.putfield 34, 3) := by decide +kernel
theorem dX4_crack_5 : decode cX4_crack 5 = .ok (.aload_n 0, 1) := by decide +kernel
theorem dX4_crack_6 : decode cX4_crack 6 = .ok (.getfield 27, 3) := by decide +kernel
theorem dX4_crack_9 : decode cX4_crack 9 = .ok (.iconst 0, 1) := by decide +kernel
theorem dX4_crack_10 : decode cX4_crack 10 = .ok (.aload_n 0, 1) := by decide +kernel
theorem dX4_crack_11 : decode cX4_crack 11 = .ok (.getfield 27, 3) := by decide +kernel
theorem dX4_crack_14 : decode cX4_crack 14 = .ok (.getfield 74, 3) := by decide +kernel
theorem dX4_crack_17 : decode cX4_crack 17 = .ok (.iconst 3, 1) := by decide +kernel
theorem dX4_crack_18 : decode cX4_crack 18 = .ok (.isub, 1) := by decide +kernel
theorem dX4_crack_19 : decode cX4_crack 19 = .ok (.invokestatic 77, 3) := by decide +kernel
theorem dX4_crack_22 : decode cX4_crack 22 = .ok (.putfield 74, 3) := by decide +kernel
theorem dX4_crack_25 : decode cX4_crack 25 = .ok (.aload_n 0, 1) := by decide +kernel
theorem dX4_crack_26 : decode cX4_crack 26 = .ok (.getfield 27, 3) := by decide +kernel
theorem dX4_crack_29 : decode cX4_crack 29 = .ok (.getfield 74, 3) := by decide +kernel
theorem dX4_crack_32 : decode cX4_crack 32 = .ok (.ireturn, 1) := by decide +kernel
theorem dX4_told_0 : decode cX4_told 0 = .ok (.bipush 7, 2) := by decide +kernel
theorem dX4_told_2 : decode cX4_told 2 = .ok (.newarray .int, 2) := by decide +kernel
theorem dX4_told_4 : decode cX4_told 4 = .ok (.dup, 1) := by decide +kernel
theorem dX4_told_5 : decode cX4_told 5 = .ok (.iconst 0, 1) := by decide +kernel
theorem dX4_told_6 : decode cX4_told 6 = .ok (.aload_n 0, 1) := by decide +kernel
theorem dX4_told_7 : decode cX4_told 7 = .ok (.getfield 9, 3) := by decide +kernel
theorem dX4_told_10 : decode cX4_told 10 = .ok (.iload_n 1, 1) := by decide +kernel
theorem dX4_told_11 : decode cX4_told 11 = .ok (.iaload, 1) := by decide +kernel
theorem dX4_told_12 : decode cX4_told 12 = .ok (.iastore, 1) := by decide +kernel
theorem dX4_told_13 : decode cX4_told 13 = .ok (.dup, 1) := by decide +kernel
theorem dX4_told_14 : decode cX4_told 14 = .ok (.iconst 1, 1) := by decide +kernel
theorem dX4_told_15 : decode cX4_told 15 = .ok (.aload_n 0, 1) := by decide +kernel
theorem dX4_told_16 : decode cX4_told 16 = .ok (.getfield 13, 3) := by decide +kernel
theorem dX4_told_19 : decode cX4_told 19 = .ok (.iload_n 1, 1) := by decide +kernel
theorem dX4_told_20 : decode cX4_told 20 = .ok (.iaload, 1) := by decide +kernel
theorem dX4_told_21 : decode cX4_told 21 = .ok (.iastore, 1) := by decide +kernel
theorem dX4_told_22 : decode cX4_told 22 = .ok (.dup, 1) := by decide +kernel
theorem dX4_told_23 : decode cX4_told 23 = .ok (.iconst 2, 1) := by decide +kernel
theorem dX4_told_24 : decode cX4_told 24 = .ok (.aload_n 0, 1) := by decide +kernel
theorem dX4_told_25 : decode cX4_told 25 = .ok (.getfield 27, 3) := by decide +kernel
theorem dX4_told_28 : decode cX4_told 28 = .ok (.getfield 59, 3) := by decide +kernel
theorem dX4_told_31 : decode cX4_told 31 = .ok (.iload_n 1, 1) := by decide +kernel
theorem dX4_told_32 : decode cX4_told 32 = .ok (.iaload, 1) := by decide +kernel
theorem dX4_told_33 : decode cX4_told 33 = .ok (.iastore, 1) := by decide +kernel
theorem dX4_told_34 : decode cX4_told 34 = .ok (.dup, 1) := by decide +kernel
theorem dX4_told_35 : decode cX4_told 35 = .ok (.iconst 3, 1) := by decide +kernel
theorem dX4_told_36 : decode cX4_told 36 = .ok (.aload_n 0, 1) := by decide +kernel
theorem dX4_told_37 : decode cX4_told 37 = .ok (.getfield 16, 3) := by decide +kernel
theorem dX4_told_40 : decode cX4_told 40 = .ok (.iload_n 1, 1) := by decide +kernel
theorem dX4_told_41 : decode cX4_told 41 = .ok (.iaload, 1) := by decide +kernel
theorem dX4_told_42 : decode cX4_told 42 = .ok (.iastore, 1) := by decide +kernel
theorem dX4_told_43 : decode cX4_told 43 = .ok (.dup, 1) := by decide +kernel
theorem dX4_told_44 : decode cX4_told 44 = .ok (.iconst 4, 1) := by decide +kernel
theorem dX4_told_45 : decode cX4_told 45 = .ok (.aload_n 0, 1) := by decide +kernel
theorem dX4_told_46 : decode cX4_told 46 = .ok (.getfield 27, 3) := by decide +kernel
theorem dX4_told_49 : decode cX4_told 49 = .ok (.getfield 62, 3) := by decide +kernel
theorem dX4_told_52 : decode cX4_told 52 = .ok (.iload_n 1, 1) := by decide +kernel
theorem dX4_told_53 : decode cX4_told 53 = .ok (.iaload, 1) := by decide +kernel
theorem dX4_told_54 : decode cX4_told 54 = .ok (.iastore, 1) := by decide +kernel
theorem dX4_told_55 : decode cX4_told 55 = .ok (.dup, 1) := by decide +kernel
theorem dX4_told_56 : decode cX4_told 56 = .ok (.iconst 5, 1) := by decide +kernel
theorem dX4_told_57 : decode cX4_told 57 = .ok (.aload_n 0, 1) := by decide +kernel
theorem dX4_told_58 : decode cX4_told 58 = .ok (.getfield 27, 3) := by decide +kernel
theorem dX4_told_61 : decode cX4_told 61 = .ok (.getfield 83, 3) := by decide +kernel
theorem dX4_told_64 : decode cX4_told 64 = .ok (.iload_n 1, 1) := by decide +kernel
theorem dX4_told_65 : decode cX4_told 65 = .ok (.iaload, 1) := by decide +kernel
theorem dX4_told_66 : decode cX4_told 66 = .ok (.iastore, 1) := by decide +kernel
theorem dX4_told_67 : decode cX4_told 67 = .ok (.dup, 1) := by decide +kernel
theorem dX4_told_68 : decode cX4_told 68 = .ok (.bipush 6, 2) := by decide +kernel
theorem dX4_told_70 : decode cX4_told 70 = .ok (.aload_n 0, 1) := by decide +kernel
theorem dX4_told_71 : decode cX4_told 71 = .ok (.getfield 27, 3) := by decide +kernel
theorem dX4_told_74 : decode cX4_told 74 = .ok (.getfield 52, 3) := by decide +kernel
theorem dX4_told_77 : decode cX4_told 77 = .ok (.iload_n 1, 1) := by decide +kernel
theorem dX4_told_78 : decode cX4_told 78 = .ok (.iaload, 1) := by decide +kernel
theorem dX4_told_79 : decode cX4_told 79 = .ok (.iastore, 1) := by decide +kernel
theorem dX4_told_80 : decode cX4_told 80 = .ok (.astore_n 3, 1) := by decide +kernel
theorem dX4_told_81 : decode cX4_told 81 = .ok (.aload_n 3, 1) := by decide +kernel
theorem dX4_told_82 : decode cX4_told 82 = .ok (.iload_n 2, 1) := by decide +kernel
theorem dX4_told_83 : decode cX4_told 83 = .ok (.iaload, 1) := by decide +kernel
theorem dX4_told_84 : decode cX4_told 84 = .ok (.ireturn, 1) := by decide +kernel
set_option maxRecDepth 20000 in
theorem ggX4_traveller_X4_isTraveller : GoodIn wsX4_traveller wsX4_isTraveller := goodIn_r _ [6, 7, 8, 9, 5, 10, 24, 25, 26, 27, 28, 29, 30, 31] (by decide +kernel) (by decide +kernel)
set_option maxRecDepth 20000 in
theorem gX4_traveller_X4_isTraveller : GoodIn wsX4_traveller (wsV RX4 55 RX4 yX4_isTraveller wsX4_isTraveller) := goodIn_app (goodIn_of _ (by decide +kernel)) ggX4_traveller_X4_isTraveller
set_option maxRecDepth 20000 in
theorem ggX4_traveller_X4_isIn : GoodIn wsX4_traveller wsX4_isIn := goodIn_r _ [10] (by decide +kernel) (by decide +kernel)
set_option maxRecDepth 20000 in
theorem gX4_traveller_X4_isIn : GoodIn wsX4_traveller (va_wsS RX4 41 yX4_isIn wsX4_isIn) := goodIn_app (goodIn_of _ (by decide +kernel)) ggX4_traveller_X4_isIn
set_option maxRecDepth 20000 in
theorem ggX4_traveller_X4_told : GoodIn wsX4_traveller wsX4_told := goodIn_r _ [14, 15, 16, 17, 18, 19, 24, 25, 26, 27, 28, 29, 30, 31, 32, 33, 34, 35, 36, 37, 38, 39, 40, 41, 42, 43] (by decide +kernel) (by decide +kernel)
set_option maxRecDepth 20000 in
theorem gX4_traveller_X4_told : GoodIn wsX4_traveller (wsV RX4 86 RX4 yX4_told wsX4_told) := goodIn_app (goodIn_of _ (by decide +kernel)) ggX4_traveller_X4_told
set_option maxRecDepth 20000 in
theorem ggX4_traveller_X4_no : GoodIn wsX4_traveller wsX4_no := goodIn_r _ [23, 1, 24, 25, 26, 27, 28, 29, 30, 31] (by decide +kernel) (by decide +kernel)
set_option maxRecDepth 20000 in
theorem gX4_traveller_X4_no : GoodIn wsX4_traveller (wsV RX4 45 RX4 yX4_no wsX4_no) := goodIn_app (goodIn_of _ (by decide +kernel)) ggX4_traveller_X4_no
theorem dX4_traveller_0 : decode cX4_traveller 0 = .ok (.aload_n 0, 1) := by decide +kernel
theorem dX4_traveller_1 : decode cX4_traveller 1 = .ok (.iconst 0, 1) := by decide +kernel
theorem dX4_traveller_2 : decode cX4_traveller 2 = .ok (.putfield 34, 3) := by decide +kernel
theorem dX4_traveller_5 : decode cX4_traveller 5 = .ok (.aload_n 0, 1) := by decide +kernel
theorem dX4_traveller_6 : decode cX4_traveller 6 = .ok (.iload_n 1, 1) := by decide +kernel
theorem dX4_traveller_7 : decode cX4_traveller 7 = .ok (.invokevirtual 55, 3) := by decide +kernel
theorem dX4_traveller_10 : decode cX4_traveller 10 = .ok (.ifCond .eq 22, 3) := by decide +kernel
theorem dX4_traveller_13 : decode cX4_traveller 13 = .ok (.iload_n 2, 1) := by decide +kernel
theorem dX4_traveller_14 : decode cX4_traveller 14 = .ok (.iconst 0, 1) := by decide +kernel
theorem dX4_traveller_15 : decode cX4_traveller 15 = .ok (.bipush 6, 2) := by decide +kernel
theorem dX4_traveller_17 : decode cX4_traveller 17 = .ok (.invokestatic 41, 3) := by decide +kernel
theorem dX4_traveller_20 : decode cX4_traveller 20 = .ok (.ifCond .eq 12, 3) := by decide +kernel
theorem dX4_traveller_23 : decode cX4_traveller 23 = .ok (.aload_n 0, 1) := by decide +kernel
theorem dX4_traveller_24 : decode cX4_traveller 24 = .ok (.iload_n 1, 1) := by decide +kernel
theorem dX4_traveller_25 : decode cX4_traveller 25 = .ok (.iload_n 2, 1) := by decide +kernel
theorem dX4_traveller_26 : decode cX4_traveller 26 = .ok (.invokevirtual 86, 3) := by decide +kernel
theorem dX4_traveller_29 : decode cX4_traveller 29 = .ok (.goto 8, 3) := by decide +kernel
theorem dX4_traveller_32 : decode cX4_traveller 32 = .ok (.aload_n 0, 1) := by decide +kernel
theorem dX4_traveller_33 : decode cX4_traveller 33 = .ok (.iconst 1, 1) := by decide +kernel
theorem dX4_traveller_34 : decode cX4_traveller 34 = .ok (.invokevirtual 45, 3) := by decide +kernel
theorem dX4_traveller_37 : decode cX4_traveller 37 = .ok (.ireturn, 1) := by decide +kernel
set_option maxRecDepth 20000 in
theorem ggX4_count_X4_isIn : GoodIn wsX4_count wsX4_isIn := goodIn_r _ [6] (by decide +kernel) (by decide +kernel)
set_option maxRecDepth 20000 in
theorem gX4_count_X4_isIn : GoodIn wsX4_count (va_wsS RX4 41 yX4_isIn wsX4_isIn) := goodIn_app (goodIn_of _ (by decide +kernel)) ggX4_count_X4_isIn
set_option maxRecDepth 20000 in
theorem ggX4_count_X3_counted : GoodIn wsX4_count wsX3_counted := goodIn_r _ [11, 12, 13, 14, 15, 16, 17, 18, 19, 20, 21, 10, 22, 23, 24, 25, 26, 27, 28, 29, 30, 31, 32, 33, 34, 35, 36, 37, 50, 51, 52, 53, 54, 55, 56, 57, 58, 59, 60, 61, 42, 43, 44, 45, 46, 47, 48, 49] (by decide +kernel) (by decide +kernel)
set_option maxRecDepth 20000 in
theorem gX4_count_X3_counted : GoodIn wsX4_count (wsV RX4 89 RX3 yX3_counted wsX3_counted) := goodIn_app (goodIn_of _ (by decide +kernel)) ggX4_count_X3_counted
set_option maxRecDepth 20000 in
theorem ggX4_count_X4_no : GoodIn wsX4_count wsX4_no := goodIn_r _ [41, 1, 42, 43, 44, 45, 46, 47, 48, 49] (by decide +kernel) (by decide +kernel)
set_option maxRecDepth 20000 in
theorem gX4_count_X4_no : GoodIn wsX4_count (wsV RX4 45 RX4 yX4_no wsX4_no) := goodIn_app (goodIn_of _ (by decide +kernel)) ggX4_count_X4_no
theorem dX4_count_0 : decode cX4_count 0 = .ok (.aload_n 0, 1) := by decide +kernel
theorem dX4_count_1 : decode cX4_count 1 = .ok (.iconst 0, 1) := by decide +kernel
theorem dX4_count_2 : decode cX4_count 2 = .ok (.putfield 34, 3) := by decide +kernel
theorem dX4_count_5 : decode cX4_count 5 = .ok (.iload_n 1, 1) := by decide +kernel
theorem dX4_count_6 : decode cX4_count 6 = .ok (.iconst 0, 1) := by decide +kernel
theorem dX4_count_7 : decode cX4_count 7 = .ok (.bipush 11, 2) := by decide +kernel
theorem dX4_count_9 : decode cX4_count 9 = .ok (.invokestatic 41, 3) := by decide +kernel
theorem dX4_count_12 : decode cX4_count 12 = .ok (.ifCond .eq 14, 3) := by decide +kernel
theorem dX4_count_15 : decode cX4_count 15 = .ok (.aload_n 0, 1) := by decide +kernel
theorem dX4_count_16 : decode cX4_count 16 = .ok (.getfield 27, 3) := by decide +kernel
theorem dX4_count_19 : decode cX4_count 19 = .ok (.iload_n 1, 1) := by decide +kernel
theorem dX4_count_20 : decode cX4_count 20 = .ok (.invokevirtual 89, 3) := by decide +kernel
theorem dX4_count_23 : decode cX4_count 23 = .ok (.goto 8, 3) := by decide +kernel
theorem dX4_count_26 : decode cX4_count 26 = .ok (.aload_n 0, 1) := by decide +kernel
theorem dX4_count_27 : decode cX4_count 27 = .ok (.iconst 1, 1) := by decide +kernel
theorem dX4_count_28 : decode cX4_count 28 = .ok (.invokevirtual 45, 3) := by decide +kernel
theorem dX4_count_31 : decode cX4_count 31 = .ok (.ireturn, 1) := by decide +kernel
set_option maxRecDepth 20000 in
theorem ggX4_speed_X3_speed : GoodIn wsX4_speed wsX3_speed := goodIn_r _ [7, 8, 9, 10, 11, 12, 13, 22, 23, 24, 25, 26, 27, 28, 29, 30, 31, 32, 33] (by decide +kernel) (by decide +kernel)
set_option maxRecDepth 20000 in
theorem gX4_speed_X3_speed : GoodIn wsX4_speed (wsV RX4 92 RX3 yX3_speed wsX3_speed) := goodIn_app (goodIn_of _ (by decide +kernel)) ggX4_speed_X3_speed
theorem dX4_speed_0 : decode cX4_speed 0 = .ok (.aload_n 0, 1) := by decide +kernel
theorem dX4_speed_1 : decode cX4_speed 1 = .ok (.iconst 0, 1) := by decide +kernel
theorem dX4_speed_2 : decode cX4_speed 2 = .ok (.putfield 34, 3) := by decide +kernel
theorem dX4_speed_5 : decode cX4_speed 5 = .ok (.aload_n 0, 1) := by decide +kernel
theorem dX4_speed_6 : decode cX4_speed 6 = .ok (.getfield 27, 3) := by decide +kernel
theorem dX4_speed_9 : decode cX4_speed 9 = .ok (.iload_n 1, 1) := by decide +kernel
theorem dX4_speed_10 : decode cX4_speed 10 = .ok (.invokevirtual 92, 3) := by decide +kernel
theorem dX4_speed_13 : decode cX4_speed 13 = .ok (.ireturn, 1) := by decide +kernel
set_option maxRecDepth 20000 in
theorem ggX4_pass_X4_isIn : GoodIn wsX4_pass wsX4_isIn := goodIn_r _ [6] (by decide +kernel) (by decide +kernel)
set_option maxRecDepth 20000 in
theorem gX4_pass_X4_isIn : GoodIn wsX4_pass (va_wsS RX4 41 yX4_isIn wsX4_isIn) := goodIn_app (goodIn_of _ (by decide +kernel)) ggX4_pass_X4_isIn
set_option maxRecDepth 20000 in
theorem ggX4_pass_X4_no : GoodIn wsX4_pass wsX4_no := goodIn_r _ [10, 1, 59, 60, 61, 62, 63, 64, 65, 66] (by decide +kernel) (by decide +kernel)
set_option maxRecDepth 20000 in
theorem gX4_pass_X4_no : GoodIn wsX4_pass (wsV RX4 45 RX4 yX4_no wsX4_no) := goodIn_app (goodIn_of _ (by decide +kernel)) ggX4_pass_X4_no
set_option maxRecDepth 20000 in
theorem ggX4_pass_X3_are : GoodIn wsX4_pass wsX3_are := goodIn_r _ [15, 16, 17, 67, 68, 69, 70, 71, 72, 73, 74, 75, 76, 77, 78, 59, 60, 61, 62, 63, 64, 65, 66] (by decide +kernel) (by decide +kernel)
set_option maxRecDepth 20000 in
theorem gX4_pass_X3_are : GoodIn wsX4_pass (wsV RX4 96 RX3 yX3_are wsX3_are) := goodIn_app (goodIn_of _ (by decide +kernel)) ggX4_pass_X3_are
set_option maxRecDepth 20000 in
theorem ggX4_pass_X3_pass_ : GoodIn wsX4_pass wsX3_pass_ := goodIn_r _ [21, 22, 23, 24, 14, 25, 26, 27, 17, 28, 29, 16, 30, 31, 32, 33, 34, 35, 36, 37, 38, 39, 40, 41, 42, 43, 44, 45, 46, 47, 48, 49, 50, 51, 52, 53, 54, 55, 56, 57, 58, 67, 68, 69, 70, 71, 72, 73, 74, 75, 76, 77, 78, 59, 60, 61, 62, 63, 64, 65, 66] (by decide +kernel) (by decide +kernel)
set_option maxRecDepth 20000 in
theorem gX4_pass_X3_pass_ : GoodIn wsX4_pass (wsV RX4 99 RX3 yX3_pass_ wsX3_pass_) := goodIn_app (goodIn_of _ (by decide +kernel)) ggX4_pass_X3_pass_
theorem dX4_pass_0 : decode cX4_pass 0 = .ok (.aload_n 0, 1) := by decide +kernel
theorem dX4_pass_1 : decode cX4_pass 1 = .ok (.iconst 0, 1) := by decide +kernel
theorem dX4_pass_2 : decode cX4_pass 2 = .ok (.putfield 34, 3) := by decide +kernel
theorem dX4_pass_5 : decode cX4_pass 5 = .ok (.iload_n 1, 1) := by decide +kernel
theorem dX4_pass_6 : decode cX4_pass 6 = .ok (.iconst 1, 1) := by decide +kernel
theorem dX4_pass_7 : decode cX4_pass 7 = .ok (.sipush 240, 3) := by decide +kernel
theorem dX4_pass_10 : decode cX4_pass 10 = .ok (.invokestatic 41, 3) := by decide +kernel
theorem dX4_pass_13 : decode cX4_pass 13 = .ok (.ifCond .ne 9, 3) := by decide +kernel
theorem dX4_pass_16 : decode cX4_pass 16 = .ok (.aload_n 0, 1) := by decide +kernel
theorem dX4_pass_17 : decode cX4_pass 17 = .ok (.iconst 1, 1) := by decide +kernel
theorem dX4_pass_18 : decode cX4_pass 18 = .ok (.invokevirtual 45, 3) := by decide +kernel
theorem dX4_pass_21 : decode cX4_pass 21 = .ok (.ireturn, 1) := by decide +kernel
theorem dX4_pass_22 : decode cX4_pass 22 = .ok (.aload_n 0, 1) := by decide +kernel
theorem dX4_pass_23 : decode cX4_pass 23 = .ok (.getfield 27, 3) := by decide +kernel
theorem dX4_pass_26 : decode cX4_pass 26 = .ok (.iconst 2, 1) := by decide +kernel
theorem dX4_pass_27 : decode cX4_pass 27 = .ok (.iconst 2, 1) := by decide +kernel
theorem dX4_pass_28 : decode cX4_pass 28 = .ok (.invokevirtual 96, 3) := by decide +kernel
theorem dX4_pass_31 : decode cX4_pass 31 = .ok (.istore_n 2, 1) := by decide +kernel
theorem dX4_pass_32 : decode cX4_pass 32 = .ok (.aload_n 0, 1) := by decide +kernel
theorem dX4_pass_33 : decode cX4_pass 33 = .ok (.getfield 27, 3) := by decide +kernel
theorem dX4_pass_36 : decode cX4_pass 36 = .ok (.iload_n 1, 1) := by decide +kernel
theorem dX4_pass_37 : decode cX4_pass 37 = .ok (.invokevirtual 99, 3) := by decide +kernel
theorem dX4_pass_40 : decode cX4_pass 40 = .ok (.aload_n 0, 1) := by decide +kernel
theorem dX4_pass_41 : decode cX4_pass 41 = .ok (.getfield 27, 3) := by decide +kernel
theorem dX4_pass_44 : decode cX4_pass 44 = .ok (.iconst 2, 1) := by decide +kernel
theorem dX4_pass_45 : decode cX4_pass 45 = .ok (.iconst 2, 1) := by decide +kernel
theorem dX4_pass_46 : decode cX4_pass 46 = .ok (.invokevirtual 96, 3) := by decide +kernel
theorem dX4_pass_49 : decode cX4_pass 49 = .ok (.iload_n 2, 1) := by decide +kernel
theorem dX4_pass_50 : decode cX4_pass 50 = .ok (.isub, 1) := by decide +kernel
theorem dX4_pass_51 : decode cX4_pass 51 = .ok (.ireturn, 1) := by decide +kernel
set_option maxRecDepth 20000 in
theorem ggX4_when_X4_isTraveller : GoodIn wsX4_when wsX4_isTraveller := goodIn_r _ [8, 9, 10, 11, 7, 12, 69, 70, 71, 72, 73, 74, 75, 76] (by decide +kernel) (by decide +kernel)
set_option maxRecDepth 20000 in
theorem gX4_when_X4_isTraveller : GoodIn wsX4_when (wsV RX4 55 RX4 yX4_isTraveller wsX4_isTraveller) := goodIn_app (goodIn_of _ (by decide +kernel)) ggX4_when_X4_isTraveller
set_option maxRecDepth 20000 in
theorem ggX4_when_X4_no : GoodIn wsX4_when wsX4_no := goodIn_r _ [16, 1, 69, 70, 71, 72, 73, 74, 75, 76] (by decide +kernel) (by decide +kernel)
set_option maxRecDepth 20000 in
theorem gX4_when_X4_no : GoodIn wsX4_when (wsV RX4 45 RX4 yX4_no wsX4_no) := goodIn_app (goodIn_of _ (by decide +kernel)) ggX4_when_X4_no
set_option maxRecDepth 20000 in
theorem ggX4_when_X3_become : GoodIn wsX4_when wsX3_become := goodIn_r _ [21, 22, 23, 24, 25, 26, 27, 28, 29, 30, 31, 32, 33, 34, 35, 20, 36, 37, 38, 39, 40, 77, 78, 79, 80, 81, 82, 83, 84, 85, 86, 87, 88] (by decide +kernel) (by decide +kernel)
set_option maxRecDepth 20000 in
theorem gX4_when_X3_become : GoodIn wsX4_when (wsV RX4 103 RX3 yX3_become wsX3_become) := goodIn_app (goodIn_of _ (by decide +kernel)) ggX4_when_X3_become
set_option maxRecDepth 20000 in
theorem ggX4_when_X3_pass : GoodIn wsX4_when wsX3_pass := goodIn_r _ [44, 27, 31, 29, 32, 22, 45, 30, 25, 46, 47, 48, 49, 50, 51, 52, 53, 54, 55, 20, 56, 26, 28, 57, 58, 59, 60, 61, 62, 63, 64, 23, 65, 66, 67, 68, 24, 77, 78, 79, 80, 81, 82, 83, 84, 85, 86, 87, 88, 69, 70, 71, 72, 73, 74, 75, 76] (by decide +kernel) (by decide +kernel)
set_option maxRecDepth 20000 in
theorem gX4_when_X3_pass : GoodIn wsX4_when (wsV RX4 107 RX3 yX3_pass wsX3_pass) := goodIn_app (goodIn_of _ (by decide +kernel)) ggX4_when_X3_pass
theorem dX4_when_0 : decode cX4_when 0 = .ok (.aload_n 0, 1) := by decide +kernel
theorem dX4_when_1 : decode cX4_when 1 = .ok (.iconst 0, 1) := by decide +kernel
theorem dX4_when_2 : decode cX4_when 2 = .ok (.putfield 34, 3) := by decide +kernel
theorem dX4_when_5 : decode cX4_when 5 = .ok (.aload_n 0, 1) := by decide +kernel
theorem dX4_when_6 : decode cX4_when 6 = .ok (.iload_n 1, 1) := by decide +kernel
theorem dX4_when_7 : decode cX4_when 7 = .ok (.invokevirtual 55, 3) := by decide +kernel
theorem dX4_when_10 : decode cX4_when 10 = .ok (.ifCond .ne 9, 3) := by decide +kernel
theorem dX4_when_13 : decode cX4_when 13 = .ok (.aload_n 0, 1) := by decide +kernel
theorem dX4_when_14 : decode cX4_when 14 = .ok (.iconst 1, 1) := by decide +kernel
theorem dX4_when_15 : decode cX4_when 15 = .ok (.invokevirtual 45, 3) := by decide +kernel
theorem dX4_when_18 : decode cX4_when 18 = .ok (.ireturn, 1) := by decide +kernel
theorem dX4_when_19 : decode cX4_when 19 = .ok (.aload_n 0, 1) := by decide +kernel
theorem dX4_when_20 : decode cX4_when 20 = .ok (.getfield 31, 3) := by decide +kernel
theorem dX4_when_23 : decode cX4_when 23 = .ok (.aload_n 0, 1) := by decide +kernel
theorem dX4_when_24 : decode cX4_when 24 = .ok (.getfield 27, 3) := by decide +kernel
theorem dX4_when_27 : decode cX4_when 27 = .ok (.invokevirtual 103, 3) := by decide +kernel
theorem dX4_when_30 : decode cX4_when 30 = .ok (.iconst 0, 1) := by decide +kernel
theorem dX4_when_31 : decode cX4_when 31 = .ok (.istore_n 2, 1) := by decide +kernel
theorem dX4_when_32 : decode cX4_when 32 = .ok (.iload_n 2, 1) := by decide +kernel
theorem dX4_when_33 : decode cX4_when 33 = .ok (.sipush 400, 3) := by decide +kernel
theorem dX4_when_36 : decode cX4_when 36 = .ok (.if_icmp .gt 31, 3) := by decide +kernel
theorem dX4_when_39 : decode cX4_when 39 = .ok (.aload_n 0, 1) := by decide +kernel
theorem dX4_when_40 : decode cX4_when 40 = .ok (.getfield 31, 3) := by decide +kernel
theorem dX4_when_43 : decode cX4_when 43 = .ok (.getfield 59, 3) := by decide +kernel
theorem dX4_when_46 : decode cX4_when 46 = .ok (.iload_n 1, 1) := by decide +kernel
theorem dX4_when_47 : decode cX4_when 47 = .ok (.iaload, 1) := by decide +kernel
theorem dX4_when_48 : decode cX4_when 48 = .ok (.iconst 2, 1) := by decide +kernel
theorem dX4_when_49 : decode cX4_when 49 = .ok (.if_icmp .ne 5, 3) := by decide +kernel
theorem dX4_when_52 : decode cX4_when 52 = .ok (.iload_n 2, 1) := by decide +kernel
theorem dX4_when_53 : decode cX4_when 53 = .ok (.ireturn, 1) := by decide +kernel
theorem dX4_when_54 : decode cX4_when 54 = .ok (.aload_n 0, 1) := by decide +kernel
theorem dX4_when_55 : decode cX4_when 55 = .ok (.getfield 31, 3) := by decide +kernel
theorem dX4_when_58 : decode cX4_when 58 = .ok (.invokevirtual 107, 3) := by decide +kernel
theorem dX4_when_61 : decode cX4_when 61 = .ok (.iinc 2 1, 3) := by decide +kernel
theorem dX4_when_64 : decode cX4_when 64 = .ok (.goto (-32), 3) := by decide +kernel
theorem dX4_when_67 : decode cX4_when 67 = .ok (.iconst (-1), 1) := by decide +kernel
theorem dX4_when_68 : decode cX4_when 68 = .ok (.ireturn, 1) := by decide +kernel
set_option maxRecDepth 20000 in
theorem ggX4_foresee_X4_isIn : GoodIn wsX4_foresee wsX4_isIn := goodIn_r _ [7] (by decide +kernel) (by decide +kernel)
set_option maxRecDepth 20000 in
theorem gX4_foresee_X4_isIn : GoodIn wsX4_foresee (va_wsS RX4 41 yX4_isIn wsX4_isIn) := goodIn_app (goodIn_of _ (by decide +kernel)) ggX4_foresee_X4_isIn
set_option maxRecDepth 20000 in
theorem ggX4_foresee_X4_no : GoodIn wsX4_foresee wsX4_no := goodIn_r _ [11, 1, 76, 77, 78, 79, 80, 81, 82, 83] (by decide +kernel) (by decide +kernel)
set_option maxRecDepth 20000 in
theorem gX4_foresee_X4_no : GoodIn wsX4_foresee (wsV RX4 45 RX4 yX4_no wsX4_no) := goodIn_app (goodIn_of _ (by decide +kernel)) ggX4_foresee_X4_no
set_option maxRecDepth 20000 in
theorem ggX4_foresee_X3_become : GoodIn wsX4_foresee wsX3_become := goodIn_r _ [16, 17, 18, 19, 20, 21, 22, 23, 24, 25, 26, 27, 28, 29, 30, 15, 31, 32, 33, 34, 35, 84, 85, 86, 87, 88, 89, 90, 91, 92, 93, 94, 95] (by decide +kernel) (by decide +kernel)
set_option maxRecDepth 20000 in
theorem gX4_foresee_X3_become : GoodIn wsX4_foresee (wsV RX4 103 RX3 yX3_become wsX3_become) := goodIn_app (goodIn_of _ (by decide +kernel)) ggX4_foresee_X3_become
set_option maxRecDepth 20000 in
theorem ggX4_foresee_X3_pass_ : GoodIn wsX4_foresee wsX3_pass_ := goodIn_r _ [39, 40, 41, 42, 15, 43, 22, 26, 24, 27, 17, 44, 25, 20, 45, 46, 47, 48, 49, 50, 51, 52, 53, 54, 55, 21, 23, 56, 57, 58, 59, 60, 61, 62, 63, 18, 64, 65, 66, 67, 19, 84, 85, 86, 87, 88, 89, 90, 91, 92, 93, 94, 95, 76, 77, 78, 79, 80, 81, 82, 83] (by decide +kernel) (by decide +kernel)
set_option maxRecDepth 20000 in
theorem gX4_foresee_X3_pass_ : GoodIn wsX4_foresee (wsV RX4 99 RX3 yX3_pass_ wsX3_pass_) := goodIn_app (goodIn_of _ (by decide +kernel)) ggX4_foresee_X3_pass_
set_option maxRecDepth 20000 in
theorem ggX4_foresee_X3_are : GoodIn wsX4_foresee wsX3_are := goodIn_r _ [71, 44, 24, 84, 85, 86, 87, 88, 89, 90, 91, 92, 93, 94, 95, 76, 77, 78, 79, 80, 81, 82, 83] (by decide +kernel) (by decide +kernel)
set_option maxRecDepth 20000 in
theorem gX4_foresee_X3_are : GoodIn wsX4_foresee (wsV RX4 96 RX3 yX3_are wsX3_are) := goodIn_app (goodIn_of _ (by decide +kernel)) ggX4_foresee_X3_are
set_option maxRecDepth 20000 in
theorem ggX4_foresee_X3_sumWaited : GoodIn wsX4_foresee wsX3_sumWaited := goodIn_r _ [75, 44, 25, 84, 85, 86, 87, 88, 89, 90, 91, 92, 93, 94, 95, 76, 77, 78, 79, 80, 81, 82, 83] (by decide +kernel) (by decide +kernel)
set_option maxRecDepth 20000 in
theorem gX4_foresee_X3_sumWaited : GoodIn wsX4_foresee (wsV RX4 109 RX3 yX3_sumWaited wsX3_sumWaited) := goodIn_app (goodIn_of _ (by decide +kernel)) ggX4_foresee_X3_sumWaited
theorem dX4_foresee_0 : decode cX4_foresee 0 = .ok (.aload_n 0, 1) := by decide +kernel
theorem dX4_foresee_1 : decode cX4_foresee 1 = .ok (.iconst 0, 1) := by decide +kernel
theorem dX4_foresee_2 : decode cX4_foresee 2 = .ok (.putfield 34, 3) := by decide +kernel
theorem dX4_foresee_5 : decode cX4_foresee 5 = .ok (.iload_n 1, 1) := by decide +kernel
theorem dX4_foresee_6 : decode cX4_foresee 6 = .ok (.iconst 1, 1) := by decide +kernel
theorem dX4_foresee_7 : decode cX4_foresee 7 = .ok (.sipush 240, 3) := by decide +kernel
theorem dX4_foresee_10 : decode cX4_foresee 10 = .ok (.invokestatic 41, 3) := by decide +kernel
theorem dX4_foresee_13 : decode cX4_foresee 13 = .ok (.ifCond .ne 9, 3) := by decide +kernel
theorem dX4_foresee_16 : decode cX4_foresee 16 = .ok (.aload_n 0, 1) := by decide +kernel
theorem dX4_foresee_17 : decode cX4_foresee 17 = .ok (.iconst 1, 1) := by decide +kernel
theorem dX4_foresee_18 : decode cX4_foresee 18 = .ok (.invokevirtual 45, 3) := by decide +kernel
theorem dX4_foresee_21 : decode cX4_foresee 21 = .ok (.ireturn, 1) := by decide +kernel
theorem dX4_foresee_22 : decode cX4_foresee 22 = .ok (.iload_n 2, 1) := by decide +kernel
theorem dX4_foresee_23 : decode cX4_foresee 23 = .ok (.iconst 0, 1) := by decide +kernel
theorem dX4_foresee_24 : decode cX4_foresee 24 = .ok (.iconst 3, 1) := by decide +kernel
theorem dX4_foresee_25 : decode cX4_foresee 25 = .ok (.invokestatic 41, 3) := by decide +kernel
theorem dX4_foresee_28 : decode cX4_foresee 28 = .ok (.ifCond .ne 9, 3) := by decide +kernel
theorem dX4_foresee_31 : decode cX4_foresee 31 = .ok (.aload_n 0, 1) := by decide +kernel
theorem dX4_foresee_32 : decode cX4_foresee 32 = .ok (.iconst 2, 1) := by decide +kernel
theorem dX4_foresee_33 : decode cX4_foresee 33 = .ok (.invokevirtual 45, 3) := by decide +kernel
theorem dX4_foresee_36 : decode cX4_foresee 36 = .ok (.ireturn, 1) := by decide +kernel
theorem dX4_foresee_37 : decode cX4_foresee 37 = .ok (.aload_n 0, 1) := by decide +kernel
theorem dX4_foresee_38 : decode cX4_foresee 38 = .ok (.getfield 31, 3) := by decide +kernel
theorem dX4_foresee_41 : decode cX4_foresee 41 = .ok (.aload_n 0, 1) := by decide +kernel
theorem dX4_foresee_42 : decode cX4_foresee 42 = .ok (.getfield 27, 3) := by decide +kernel
theorem dX4_foresee_45 : decode cX4_foresee 45 = .ok (.invokevirtual 103, 3) := by decide +kernel
theorem dX4_foresee_48 : decode cX4_foresee 48 = .ok (.aload_n 0, 1) := by decide +kernel
theorem dX4_foresee_49 : decode cX4_foresee 49 = .ok (.getfield 31, 3) := by decide +kernel
theorem dX4_foresee_52 : decode cX4_foresee 52 = .ok (.iload_n 1, 1) := by decide +kernel
theorem dX4_foresee_53 : decode cX4_foresee 53 = .ok (.invokevirtual 99, 3) := by decide +kernel
theorem dX4_foresee_56 : decode cX4_foresee 56 = .ok (.iload_n 2, 1) := by decide +kernel
theorem dX4_foresee_57 : decode cX4_foresee 57 = .ok (.ifCond .ne 23, 3) := by decide +kernel
theorem dX4_foresee_60 : decode cX4_foresee 60 = .ok (.aload_n 0, 1) := by decide +kernel
theorem dX4_foresee_61 : decode cX4_foresee 61 = .ok (.getfield 31, 3) := by decide +kernel
theorem dX4_foresee_64 : decode cX4_foresee 64 = .ok (.iconst 2, 1) := by decide +kernel
theorem dX4_foresee_65 : decode cX4_foresee 65 = .ok (.iconst 2, 1) := by decide +kernel
theorem dX4_foresee_66 : decode cX4_foresee 66 = .ok (.invokevirtual 96, 3) := by decide +kernel
theorem dX4_foresee_69 : decode cX4_foresee 69 = .ok (.aload_n 0, 1) := by decide +kernel
theorem dX4_foresee_70 : decode cX4_foresee 70 = .ok (.getfield 27, 3) := by decide +kernel
theorem dX4_foresee_73 : decode cX4_foresee 73 = .ok (.iconst 2, 1) := by decide +kernel
theorem dX4_foresee_74 : decode cX4_foresee 74 = .ok (.iconst 2, 1) := by decide +kernel
theorem dX4_foresee_75 : decode cX4_foresee 75 = .ok (.invokevirtual 96, 3) := by decide +kernel
theorem dX4_foresee_78 : decode cX4_foresee 78 = .ok (.isub, 1) := by decide +kernel
theorem dX4_foresee_79 : decode cX4_foresee 79 = .ok (.ireturn, 1) := by decide +kernel
theorem dX4_foresee_80 : decode cX4_foresee 80 = .ok (.iload_n 2, 1) := by decide +kernel
theorem dX4_foresee_81 : decode cX4_foresee 81 = .ok (.iconst 1, 1) := by decide +kernel
theorem dX4_foresee_82 : decode cX4_foresee 82 = .ok (.if_icmp .ne 21, 3) := by decide +kernel
theorem dX4_foresee_85 : decode cX4_foresee 85 = .ok (.aload_n 0, 1) := by decide +kernel
theorem dX4_foresee_86 : decode cX4_foresee 86 = .ok (.getfield 31, 3) := by decide +kernel
theorem dX4_foresee_89 : decode cX4_foresee 89 = .ok (.invokevirtual 109, 3) := by decide +kernel
theorem dX4_foresee_92 : decode cX4_foresee 92 = .ok (.aload_n 0, 1) := by decide +kernel
theorem dX4_foresee_93 : decode cX4_foresee 93 = .ok (.getfield 27, 3) := by decide +kernel
theorem dX4_foresee_96 : decode cX4_foresee 96 = .ok (.invokevirtual 109, 3) := by decide +kernel
theorem dX4_foresee_99 : decode cX4_foresee 99 = .ok (.isub, 1) := by decide +kernel
theorem dX4_foresee_100 : decode cX4_foresee 100 = .ok (.goto 25, 3) := by decide +kernel
theorem dX4_foresee_103 : decode cX4_foresee 103 = .ok (.iload_n 2, 1) := by decide +kernel
theorem dX4_foresee_104 : decode cX4_foresee 104 = .ok (.iconst 2, 1) := by decide +kernel
theorem dX4_foresee_105 : decode cX4_foresee 105 = .ok (.if_icmp .ne 13, 3) := by decide +kernel
theorem dX4_foresee_108 : decode cX4_foresee 108 = .ok (.aload_n 0, 1) := by decide +kernel
theorem dX4_foresee_109 : decode cX4_foresee 109 = .ok (.getfield 31, 3) := by decide +kernel
theorem dX4_foresee_112 : decode cX4_foresee 112 = .ok (.getfield 68, 3) := by decide +kernel
theorem dX4_foresee_115 : decode cX4_foresee 115 = .ok (.goto 10, 3) := by decide +kernel
theorem dX4_foresee_118 : decode cX4_foresee 118 = .ok (.aload_n 0, 1) := by decide +kernel
theorem dX4_foresee_119 : decode cX4_foresee 119 = .ok (.getfield 31, 3) := by decide +kernel
theorem dX4_foresee_122 : decode cX4_foresee 122 = .ok (.getfield 74, 3) := by decide +kernel
theorem dX4_foresee_125 : decode cX4_foresee 125 = .ok (.ireturn, 1) := by decide +kernel
set_option maxRecDepth 20000 in
theorem ggX4_best_X3_become : GoodIn wsX4_best wsX3_become := goodIn_r _ [7, 8, 9, 10, 11, 12, 13, 14, 15, 16, 17, 18, 19, 20, 21, 6, 22, 23, 24, 25, 26, 71, 72, 73, 74, 75, 76, 77, 78, 79, 80, 81, 82] (by decide +kernel) (by decide +kernel)
set_option maxRecDepth 20000 in
theorem gX4_best_X3_become : GoodIn wsX4_best (wsV RX4 103 RX3 yX3_become wsX3_become) := goodIn_app (goodIn_of _ (by decide +kernel)) ggX4_best_X3_become
set_option maxRecDepth 20000 in
theorem ggX4_best_X3_pass_ : GoodIn wsX4_best wsX3_pass_ := goodIn_r _ [30, 31, 32, 33, 6, 34, 13, 17, 15, 18, 8, 35, 16, 11, 36, 37, 38, 39, 40, 41, 42, 43, 44, 45, 46, 12, 14, 47, 48, 49, 50, 51, 52, 53, 54, 9, 55, 56, 57, 58, 10, 71, 72, 73, 74, 75, 76, 77, 78, 79, 80, 81, 82, 63, 64, 65, 66, 67, 68, 69, 70] (by decide +kernel) (by decide +kernel)
set_option maxRecDepth 20000 in
theorem gX4_best_X3_pass_ : GoodIn wsX4_best (wsV RX4 99 RX3 yX3_pass_ wsX3_pass_) := goodIn_app (goodIn_of _ (by decide +kernel)) ggX4_best_X3_pass_
set_option maxRecDepth 20000 in
theorem ggX4_best_X3_sumWaited : GoodIn wsX4_best wsX3_sumWaited := goodIn_r _ [62, 35, 16, 71, 72, 73, 74, 75, 76, 77, 78, 79, 80, 81, 82, 63, 64, 65, 66, 67, 68, 69, 70] (by decide +kernel) (by decide +kernel)
set_option maxRecDepth 20000 in
theorem gX4_best_X3_sumWaited : GoodIn wsX4_best (wsV RX4 109 RX3 yX3_sumWaited wsX3_sumWaited) := goodIn_app (goodIn_of _ (by decide +kernel)) ggX4_best_X3_sumWaited
theorem dX4_best_0 : decode cX4_best 0 = .ok (.iconst (-1), 1) := by decide +kernel
theorem dX4_best_1 : decode cX4_best 1 = .ok (.istore 4, 2) := by decide +kernel
theorem dX4_best_3 : decode cX4_best 3 = .ok (.iconst 0, 1) := by decide +kernel
theorem dX4_best_4 : decode cX4_best 4 = .ok (.istore 5, 2) := by decide +kernel
theorem dX4_best_6 : decode cX4_best 6 = .ok (.iconst 0, 1) := by decide +kernel
theorem dX4_best_7 : decode cX4_best 7 = .ok (.istore 6, 2) := by decide +kernel
theorem dX4_best_9 : decode cX4_best 9 = .ok (.iload 6, 2) := by decide +kernel
theorem dX4_best_11 : decode cX4_best 11 = .ok (.iload_n 3, 1) := by decide +kernel
theorem dX4_best_12 : decode cX4_best 12 = .ok (.if_icmp .ge 86, 3) := by decide +kernel
theorem dX4_best_15 : decode cX4_best 15 = .ok (.aload_n 0, 1) := by decide +kernel
theorem dX4_best_16 : decode cX4_best 16 = .ok (.getfield 31, 3) := by decide +kernel
theorem dX4_best_19 : decode cX4_best 19 = .ok (.aload_n 0, 1) := by decide +kernel
theorem dX4_best_20 : decode cX4_best 20 = .ok (.getfield 27, 3) := by decide +kernel
theorem dX4_best_23 : decode cX4_best 23 = .ok (.invokevirtual 103, 3) := by decide +kernel
theorem dX4_best_26 : decode cX4_best 26 = .ok (.iload_n 2, 1) := by decide +kernel
theorem dX4_best_27 : decode cX4_best 27 = .ok (.ifCond .eq 15, 3) := by decide +kernel
theorem dX4_best_30 : decode cX4_best 30 = .ok (.aload_n 0, 1) := by decide +kernel
theorem dX4_best_31 : decode cX4_best 31 = .ok (.getfield 31, 3) := by decide +kernel
theorem dX4_best_34 : decode cX4_best 34 = .ok (.iload 6, 2) := by decide +kernel
theorem dX4_best_36 : decode cX4_best 36 = .ok (.putfield 65, 3) := by decide +kernel
theorem dX4_best_39 : decode cX4_best 39 = .ok (.goto 12, 3) := by decide +kernel
theorem dX4_best_42 : decode cX4_best 42 = .ok (.aload_n 0, 1) := by decide +kernel
theorem dX4_best_43 : decode cX4_best 43 = .ok (.getfield 31, 3) := by decide +kernel
theorem dX4_best_46 : decode cX4_best 46 = .ok (.iload 6, 2) := by decide +kernel
theorem dX4_best_48 : decode cX4_best 48 = .ok (.putfield 71, 3) := by decide +kernel
theorem dX4_best_51 : decode cX4_best 51 = .ok (.aload_n 0, 1) := by decide +kernel
theorem dX4_best_52 : decode cX4_best 52 = .ok (.getfield 31, 3) := by decide +kernel
theorem dX4_best_55 : decode cX4_best 55 = .ok (.iload_n 1, 1) := by decide +kernel
theorem dX4_best_56 : decode cX4_best 56 = .ok (.invokevirtual 99, 3) := by decide +kernel
theorem dX4_best_59 : decode cX4_best 59 = .ok (.aload_n 0, 1) := by decide +kernel
theorem dX4_best_60 : decode cX4_best 60 = .ok (.getfield 31, 3) := by decide +kernel
theorem dX4_best_63 : decode cX4_best 63 = .ok (.invokevirtual 109, 3) := by decide +kernel
theorem dX4_best_66 : decode cX4_best 66 = .ok (.istore 7, 2) := by decide +kernel
theorem dX4_best_68 : decode cX4_best 68 = .ok (.iload 4, 2) := by decide +kernel
theorem dX4_best_70 : decode cX4_best 70 = .ok (.iconst (-1), 1) := by decide +kernel
theorem dX4_best_71 : decode cX4_best 71 = .ok (.if_icmp .eq 13, 3) := by decide +kernel
theorem dX4_best_74 : decode cX4_best 74 = .ok (.iload 7, 2) := by decide +kernel
theorem dX4_best_76 : decode cX4_best 76 = .ok (.iload 5, 2) := by decide +kernel
theorem dX4_best_78 : decode cX4_best 78 = .ok (.if_icmp .lt 6, 3) := by decide +kernel
theorem dX4_best_81 : decode cX4_best 81 = .ok (.goto 11, 3) := by decide +kernel
theorem dX4_best_84 : decode cX4_best 84 = .ok (.iload 6, 2) := by decide +kernel
theorem dX4_best_86 : decode cX4_best 86 = .ok (.istore 4, 2) := by decide +kernel
theorem dX4_best_88 : decode cX4_best 88 = .ok (.iload 7, 2) := by decide +kernel
theorem dX4_best_90 : decode cX4_best 90 = .ok (.istore 5, 2) := by decide +kernel
theorem dX4_best_92 : decode cX4_best 92 = .ok (.iinc 6 1, 3) := by decide +kernel
theorem dX4_best_95 : decode cX4_best 95 = .ok (.goto (-86), 3) := by decide +kernel
theorem dX4_best_98 : decode cX4_best 98 = .ok (.iload 4, 2) := by decide +kernel
theorem dX4_best_100 : decode cX4_best 100 = .ok (.ireturn, 1) := by decide +kernel
set_option maxRecDepth 20000 in
theorem ggX4_bestCode_X4_isIn : GoodIn wsX4_bestCode wsX4_isIn := goodIn_r _ [5] (by decide +kernel) (by decide +kernel)
set_option maxRecDepth 20000 in
theorem gX4_bestCode_X4_isIn : GoodIn wsX4_bestCode (va_wsS RX4 41 yX4_isIn wsX4_isIn) := goodIn_app (goodIn_of _ (by decide +kernel)) ggX4_bestCode_X4_isIn
set_option maxRecDepth 20000 in
theorem ggX4_bestCode_X4_best : GoodIn wsX4_bestCode wsX4_best := goodIn_r _ [9, 10, 11, 12, 13, 14, 15, 16, 17, 18, 19, 20, 21, 22, 23, 24, 25, 26, 27, 28, 29, 30, 31, 32, 33, 34, 35, 36, 37, 38, 39, 40, 41, 42, 43, 44, 45, 46, 47, 48, 49, 50, 51, 52, 53, 54, 55, 56, 57, 58, 59, 60, 61, 62, 63, 64, 65, 66, 67, 68, 69, 70, 71, 76, 77, 78, 79, 80, 81, 82, 83, 84, 85, 86, 87, 88, 89, 90, 91, 92, 93, 94, 95] (by decide +kernel) (by decide +kernel)
set_option maxRecDepth 20000 in
theorem gX4_bestCode_X4_best : GoodIn wsX4_bestCode (wsV RX4 113 RX4 yX4_best wsX4_best) := goodIn_app (goodIn_of _ (by decide +kernel)) ggX4_bestCode_X4_best
set_option maxRecDepth 20000 in
theorem ggX4_bestCode_X4_no : GoodIn wsX4_bestCode wsX4_no := goodIn_r _ [75, 1, 76, 77, 78, 79, 80, 81, 82, 83] (by decide +kernel) (by decide +kernel)
set_option maxRecDepth 20000 in
theorem gX4_bestCode_X4_no : GoodIn wsX4_bestCode (wsV RX4 45 RX4 yX4_no wsX4_no) := goodIn_app (goodIn_of _ (by decide +kernel)) ggX4_bestCode_X4_no
theorem dX4_bestCode_0 : decode cX4_bestCode 0 = .ok (.aload_n 0, 1) := by decide +kernel
theorem dX4_bestCode_1 : decode cX4_bestCode 1 = .ok (.iconst 0, 1) := by decide +kernel
theorem dX4_bestCode_2 : decode cX4_bestCode 2 = .ok (.putfield 34, 3) := by decide +kernel
theorem dX4_bestCode_5 : decode cX4_bestCode 5 = .ok (.iload_n 1, 1) := by decide +kernel
theorem dX4_bestCode_6 : decode cX4_bestCode 6 = .ok (.iconst 1, 1) := by decide +kernel
theorem dX4_bestCode_7 : decode cX4_bestCode 7 = .ok (.sipush 240, 3) := by decide +kernel
theorem dX4_bestCode_10 : decode cX4_bestCode 10 = .ok (.invokestatic 41, 3) := by decide +kernel
theorem dX4_bestCode_13 : decode cX4_bestCode 13 = .ok (.ifCond .eq 13, 3) := by decide +kernel
theorem dX4_bestCode_16 : decode cX4_bestCode 16 = .ok (.aload_n 0, 1) := by decide +kernel
theorem dX4_bestCode_17 : decode cX4_bestCode 17 = .ok (.iload_n 1, 1) := by decide +kernel
theorem dX4_bestCode_18 : decode cX4_bestCode 18 = .ok (.iconst 1, 1) := by decide +kernel
theorem dX4_bestCode_19 : decode cX4_bestCode 19 = .ok (.iconst 4, 1) := by decide +kernel
theorem dX4_bestCode_20 : decode cX4_bestCode 20 = .ok (.invokevirtual 113, 3) := by decide +kernel
theorem dX4_bestCode_23 : decode cX4_bestCode 23 = .ok (.goto 8, 3) := by decide +kernel
theorem dX4_bestCode_26 : decode cX4_bestCode 26 = .ok (.aload_n 0, 1) := by decide +kernel
theorem dX4_bestCode_27 : decode cX4_bestCode 27 = .ok (.iconst 1, 1) := by decide +kernel
theorem dX4_bestCode_28 : decode cX4_bestCode 28 = .ok (.invokevirtual 45, 3) := by decide +kernel
theorem dX4_bestCode_31 : decode cX4_bestCode 31 = .ok (.ireturn, 1) := by decide +kernel
set_option maxRecDepth 20000 in
theorem ggX4_bestPoise_X4_isIn : GoodIn wsX4_bestPoise wsX4_isIn := goodIn_r _ [5] (by decide +kernel) (by decide +kernel)
set_option maxRecDepth 20000 in
theorem gX4_bestPoise_X4_isIn : GoodIn wsX4_bestPoise (va_wsS RX4 41 yX4_isIn wsX4_isIn) := goodIn_app (goodIn_of _ (by decide +kernel)) ggX4_bestPoise_X4_isIn
set_option maxRecDepth 20000 in
theorem ggX4_bestPoise_X4_best : GoodIn wsX4_bestPoise wsX4_best := goodIn_r _ [9, 10, 11, 12, 13, 14, 15, 16, 17, 18, 19, 20, 21, 22, 23, 24, 25, 26, 27, 28, 29, 30, 31, 32, 33, 34, 35, 36, 37, 38, 39, 40, 41, 42, 43, 44, 45, 46, 47, 48, 49, 50, 51, 52, 53, 54, 55, 56, 57, 58, 59, 60, 61, 62, 63, 64, 65, 66, 67, 68, 69, 70, 71, 76, 77, 78, 79, 80, 81, 82, 83, 84, 85, 86, 87, 88, 89, 90, 91, 92, 93, 94, 95] (by decide +kernel) (by decide +kernel)
set_option maxRecDepth 20000 in
theorem gX4_bestPoise_X4_best : GoodIn wsX4_bestPoise (wsV RX4 113 RX4 yX4_best wsX4_best) := goodIn_app (goodIn_of _ (by decide +kernel)) ggX4_bestPoise_X4_best
set_option maxRecDepth 20000 in
theorem ggX4_bestPoise_X4_no : GoodIn wsX4_bestPoise wsX4_no := goodIn_r _ [75, 1, 76, 77, 78, 79, 80, 81, 82, 83] (by decide +kernel) (by decide +kernel)
set_option maxRecDepth 20000 in
theorem gX4_bestPoise_X4_no : GoodIn wsX4_bestPoise (wsV RX4 45 RX4 yX4_no wsX4_no) := goodIn_app (goodIn_of _ (by decide +kernel)) ggX4_bestPoise_X4_no
theorem dX4_bestPoise_0 : decode cX4_bestPoise 0 = .ok (.aload_n 0, 1) := by decide +kernel
theorem dX4_bestPoise_1 : decode cX4_bestPoise 1 = .ok (.iconst 0, 1) := by decide +kernel
theorem dX4_bestPoise_2 : decode cX4_bestPoise 2 = .ok (.putfield 34, 3) := by decide +kernel
theorem dX4_bestPoise_5 : decode cX4_bestPoise 5 = .ok (.iload_n 1, 1) := by decide +kernel
theorem dX4_bestPoise_6 : decode cX4_bestPoise 6 = .ok (.iconst 1, 1) := by decide +kernel
theorem dX4_bestPoise_7 : decode cX4_bestPoise 7 = .ok (.sipush 240, 3) := by decide +kernel
theorem dX4_bestPoise_10 : decode cX4_bestPoise 10 = .ok (.invokestatic 41, 3) := by decide +kernel
theorem dX4_bestPoise_13 : decode cX4_bestPoise 13 = .ok (.ifCond .eq 14, 3) := by decide +kernel
theorem dX4_bestPoise_16 : decode cX4_bestPoise 16 = .ok (.aload_n 0, 1) := by decide +kernel
theorem dX4_bestPoise_17 : decode cX4_bestPoise 17 = .ok (.iload_n 1, 1) := by decide +kernel
theorem dX4_bestPoise_18 : decode cX4_bestPoise 18 = .ok (.iconst 0, 1) := by decide +kernel
theorem dX4_bestPoise_19 : decode cX4_bestPoise 19 = .ok (.bipush 31, 2) := by decide +kernel
theorem dX4_bestPoise_21 : decode cX4_bestPoise 21 = .ok (.invokevirtual 113, 3) := by decide +kernel
theorem dX4_bestPoise_24 : decode cX4_bestPoise 24 = .ok (.goto 8, 3) := by decide +kernel
theorem dX4_bestPoise_27 : decode cX4_bestPoise 27 = .ok (.aload_n 0, 1) := by decide +kernel
theorem dX4_bestPoise_28 : decode cX4_bestPoise 28 = .ok (.iconst 1, 1) := by decide +kernel
theorem dX4_bestPoise_29 : decode cX4_bestPoise 29 = .ok (.invokevirtual 45, 3) := by decide +kernel
theorem dX4_bestPoise_32 : decode cX4_bestPoise 32 = .ok (.ireturn, 1) := by decide +kernel
set_option maxRecDepth 20000 in
theorem ggX4_mean_X3_sumWaited : GoodIn wsX4_mean wsX3_sumWaited := goodIn_r _ [8, 9, 10, 19, 20, 21, 22, 23, 24, 25, 26, 27, 28, 29, 30, 11, 12, 13, 14, 15, 16, 17, 18] (by decide +kernel) (by decide +kernel)
set_option maxRecDepth 20000 in
theorem gX4_mean_X3_sumWaited : GoodIn wsX4_mean (wsV RX4 109 RX3 yX3_sumWaited wsX3_sumWaited) := goodIn_app (goodIn_of _ (by decide +kernel)) ggX4_mean_X3_sumWaited
theorem dX4_mean_0 : decode cX4_mean 0 = .ok (.aload_n 0, 1) := by decide +kernel
theorem dX4_mean_1 : decode cX4_mean 1 = .ok (.iconst 0, 1) := by decide +kernel
theorem dX4_mean_2 : decode cX4_mean 2 = .ok (.putfield 34, 3) := by decide +kernel
theorem dX4_mean_5 : decode cX4_mean 5 = .ok (.aload_n 0, 1) := by decide +kernel
theorem dX4_mean_6 : decode cX4_mean 6 = .ok (.getfield 38, 3) := by decide +kernel
theorem dX4_mean_9 : decode cX4_mean 9 = .ok (.ifCond .ne 7, 3) := by decide +kernel
theorem dX4_mean_12 : decode cX4_mean 12 = .ok (.dconst 0, 1) := by decide +kernel
theorem dX4_mean_13 : decode cX4_mean 13 = .ok (.goto 17, 3) := by decide +kernel
theorem dX4_mean_16 : decode cX4_mean 16 = .ok (.aload_n 0, 1) := by decide +kernel
theorem dX4_mean_17 : decode cX4_mean 17 = .ok (.getfield 27, 3) := by decide +kernel
theorem dX4_mean_20 : decode cX4_mean 20 = .ok (.invokevirtual 109, 3) := by decide +kernel
theorem dX4_mean_23 : decode cX4_mean 23 = .ok (.i2d, 1) := by decide +kernel
theorem dX4_mean_24 : decode cX4_mean 24 = .ok (.aload_n 0, 1) := by decide +kernel
theorem dX4_mean_25 : decode cX4_mean 25 = .ok (.getfield 38, 3) := by decide +kernel
theorem dX4_mean_28 : decode cX4_mean 28 = .ok (.i2d, 1) := by decide +kernel
theorem dX4_mean_29 : decode cX4_mean 29 = .ok (.ddiv, 1) := by decide +kernel
theorem dX4_mean_30 : decode cX4_mean 30 = .ok (.dreturn, 1) := by decide +kernel
set_option maxRecDepth 20000 in
theorem ggX4_digest_X3_counted : GoodIn wsX4_digest wsX3_counted := goodIn_r _ [11, 12, 13, 14, 15, 16, 17, 18, 19, 20, 21, 10, 22, 23, 24, 25, 26, 27, 28, 29, 30, 31, 32, 33, 34, 35, 36, 37, 55, 56, 57, 58, 59, 60, 61, 62, 63, 64, 65, 66, 47, 48, 49, 50, 51, 52, 53, 54] (by decide +kernel) (by decide +kernel)
set_option maxRecDepth 20000 in
theorem gX4_digest_X3_counted : GoodIn wsX4_digest (wsV RX4 89 RX3 yX3_counted wsX3_counted) := goodIn_app (goodIn_of _ (by decide +kernel)) ggX4_digest_X3_counted
set_option maxRecDepth 20000 in
theorem ggX4_digest_X4_told : GoodIn wsX4_digest wsX4_told := goodIn_r _ [42, 43, 44, 45, 4, 46, 47, 48, 49, 50, 51, 52, 53, 54, 55, 56, 57, 58, 59, 60, 61, 62, 63, 64, 65, 66] (by decide +kernel) (by decide +kernel)
set_option maxRecDepth 20000 in
theorem gX4_digest_X4_told : GoodIn wsX4_digest (wsV RX4 86 RX4 yX4_told wsX4_told) := goodIn_app (goodIn_of _ (by decide +kernel)) ggX4_digest_X4_told
theorem dX4_digest_0 : decode cX4_digest 0 = .ok (.aload_n 0, 1) := by decide +kernel
theorem dX4_digest_1 : decode cX4_digest 1 = .ok (.iconst 0, 1) := by decide +kernel
theorem dX4_digest_2 : decode cX4_digest 2 = .ok (.putfield 34, 3) := by decide +kernel
theorem dX4_digest_5 : decode cX4_digest 5 = .ok (.ldc2_w 117, 3) := by decide +kernel
theorem dX4_digest_8 : decode cX4_digest 8 = .ok (.lstore_n 1, 1) := by decide +kernel
theorem dX4_digest_9 : decode cX4_digest 9 = .ok (.iconst 0, 1) := by decide +kernel
theorem dX4_digest_10 : decode cX4_digest 10 = .ok (.istore_n 3, 1) := by decide +kernel
theorem dX4_digest_11 : decode cX4_digest 11 = .ok (.iload_n 3, 1) := by decide +kernel
theorem dX4_digest_12 : decode cX4_digest 12 = .ok (.bipush 11, 2) := by decide +kernel
theorem dX4_digest_14 : decode cX4_digest 14 = .ok (.if_icmp .gt 25, 3) := by decide +kernel
theorem dX4_digest_17 : decode cX4_digest 17 = .ok (.lload_n 1, 1) := by decide +kernel
theorem dX4_digest_18 : decode cX4_digest 18 = .ok (.ldc2_w 119, 3) := by decide +kernel
theorem dX4_digest_21 : decode cX4_digest 21 = .ok (.lmul, 1) := by decide +kernel
theorem dX4_digest_22 : decode cX4_digest 22 = .ok (.aload_n 0, 1) := by decide +kernel
theorem dX4_digest_23 : decode cX4_digest 23 = .ok (.getfield 27, 3) := by decide +kernel
theorem dX4_digest_26 : decode cX4_digest 26 = .ok (.iload_n 3, 1) := by decide +kernel
theorem dX4_digest_27 : decode cX4_digest 27 = .ok (.invokevirtual 89, 3) := by decide +kernel
theorem dX4_digest_30 : decode cX4_digest 30 = .ok (.i2l, 1) := by decide +kernel
theorem dX4_digest_31 : decode cX4_digest 31 = .ok (.ladd, 1) := by decide +kernel
theorem dX4_digest_32 : decode cX4_digest 32 = .ok (.lstore_n 1, 1) := by decide +kernel
theorem dX4_digest_33 : decode cX4_digest 33 = .ok (.iinc 3 1, 3) := by decide +kernel
theorem dX4_digest_36 : decode cX4_digest 36 = .ok (.goto (-25), 3) := by decide +kernel
theorem dX4_digest_39 : decode cX4_digest 39 = .ok (.iconst 0, 1) := by decide +kernel
theorem dX4_digest_40 : decode cX4_digest 40 = .ok (.istore_n 3, 1) := by decide +kernel
theorem dX4_digest_41 : decode cX4_digest 41 = .ok (.iload_n 3, 1) := by decide +kernel
theorem dX4_digest_42 : decode cX4_digest 42 = .ok (.bipush 8, 2) := by decide +kernel
theorem dX4_digest_44 : decode cX4_digest 44 = .ok (.if_icmp .ge 23, 3) := by decide +kernel
theorem dX4_digest_47 : decode cX4_digest 47 = .ok (.lload_n 1, 1) := by decide +kernel
theorem dX4_digest_48 : decode cX4_digest 48 = .ok (.ldc2_w 119, 3) := by decide +kernel
theorem dX4_digest_51 : decode cX4_digest 51 = .ok (.lmul, 1) := by decide +kernel
theorem dX4_digest_52 : decode cX4_digest 52 = .ok (.aload_n 0, 1) := by decide +kernel
theorem dX4_digest_53 : decode cX4_digest 53 = .ok (.getfield 19, 3) := by decide +kernel
theorem dX4_digest_56 : decode cX4_digest 56 = .ok (.iload_n 3, 1) := by decide +kernel
theorem dX4_digest_57 : decode cX4_digest 57 = .ok (.iaload, 1) := by decide +kernel
theorem dX4_digest_58 : decode cX4_digest 58 = .ok (.i2l, 1) := by decide +kernel
theorem dX4_digest_59 : decode cX4_digest 59 = .ok (.ladd, 1) := by decide +kernel
theorem dX4_digest_60 : decode cX4_digest 60 = .ok (.lstore_n 1, 1) := by decide +kernel
theorem dX4_digest_61 : decode cX4_digest 61 = .ok (.iinc 3 1, 3) := by decide +kernel
theorem dX4_digest_64 : decode cX4_digest 64 = .ok (.goto (-23), 3) := by decide +kernel
theorem dX4_digest_67 : decode cX4_digest 67 = .ok (.iconst 0, 1) := by decide +kernel
theorem dX4_digest_68 : decode cX4_digest 68 = .ok (.istore_n 3, 1) := by decide +kernel
theorem dX4_digest_69 : decode cX4_digest 69 = .ok (.iload_n 3, 1) := by decide +kernel
theorem dX4_digest_70 : decode cX4_digest 70 = .ok (.aload_n 0, 1) := by decide +kernel
theorem dX4_digest_71 : decode cX4_digest 71 = .ok (.getfield 38, 3) := by decide +kernel
theorem dX4_digest_74 : decode cX4_digest 74 = .ok (.if_icmp .ge 40, 3) := by decide +kernel
theorem dX4_digest_77 : decode cX4_digest 77 = .ok (.iconst 0, 1) := by decide +kernel
theorem dX4_digest_78 : decode cX4_digest 78 = .ok (.istore 4, 2) := by decide +kernel
theorem dX4_digest_80 : decode cX4_digest 80 = .ok (.iload 4, 2) := by decide +kernel
theorem dX4_digest_82 : decode cX4_digest 82 = .ok (.bipush 6, 2) := by decide +kernel
theorem dX4_digest_84 : decode cX4_digest 84 = .ok (.if_icmp .gt 24, 3) := by decide +kernel
theorem dX4_digest_87 : decode cX4_digest 87 = .ok (.lload_n 1, 1) := by decide +kernel
theorem dX4_digest_88 : decode cX4_digest 88 = .ok (.ldc2_w 119, 3) := by decide +kernel
theorem dX4_digest_91 : decode cX4_digest 91 = .ok (.lmul, 1) := by decide +kernel
theorem dX4_digest_92 : decode cX4_digest 92 = .ok (.aload_n 0, 1) := by decide +kernel
theorem dX4_digest_93 : decode cX4_digest 93 = .ok (.iload_n 3, 1) := by decide +kernel
theorem dX4_digest_94 : decode cX4_digest 94 = .ok (.iload 4, 2) := by decide +kernel
theorem dX4_digest_96 : decode cX4_digest 96 = .ok (.invokevirtual 86, 3) := by decide +kernel
theorem dX4_digest_99 : decode cX4_digest 99 = .ok (.i2l, 1) := by decide +kernel
theorem dX4_digest_100 : decode cX4_digest 100 = .ok (.ladd, 1) := by decide +kernel
theorem dX4_digest_101 : decode cX4_digest 101 = .ok (.lstore_n 1, 1) := by decide +kernel
theorem dX4_digest_102 : decode cX4_digest 102 = .ok (.iinc 4 1, 3) := by decide +kernel
theorem dX4_digest_105 : decode cX4_digest 105 = .ok (.goto (-25), 3) := by decide +kernel
theorem dX4_digest_108 : decode cX4_digest 108 = .ok (.iinc 3 1, 3) := by decide +kernel
theorem dX4_digest_111 : decode cX4_digest 111 = .ok (.goto (-42), 3) := by decide +kernel
theorem dX4_digest_114 : decode cX4_digest 114 = .ok (.lload_n 1, 1) := by decide +kernel
theorem dX4_digest_115 : decode cX4_digest 115 = .ok (.lreturn, 1) := by decide +kernel
theorem dJ9_floorMod_7cf53_0 : decode cJ9_floorMod_7cf53 0 = .ok (.iload_n 0, 1) := by decide +kernel
theorem dJ9_floorMod_7cf53_1 : decode cJ9_floorMod_7cf53 1 = .ok (.iload_n 1, 1) := by decide +kernel
theorem dJ9_floorMod_7cf53_2 : decode cJ9_floorMod_7cf53 2 = .ok (.irem, 1) := by decide +kernel
theorem dJ9_floorMod_7cf53_3 : decode cJ9_floorMod_7cf53 3 = .ok (.istore_n 2, 1) := by decide +kernel
theorem dJ9_floorMod_7cf53_4 : decode cJ9_floorMod_7cf53 4 = .ok (.iload_n 0, 1) := by decide +kernel
theorem dJ9_floorMod_7cf53_5 : decode cJ9_floorMod_7cf53 5 = .ok (.iload_n 1, 1) := by decide +kernel
theorem dJ9_floorMod_7cf53_6 : decode cJ9_floorMod_7cf53 6 = .ok (.ixor, 1) := by decide +kernel
theorem dJ9_floorMod_7cf53_7 : decode cJ9_floorMod_7cf53 7 = .ok (.ifCond .ge 11, 3) := by decide +kernel
theorem dJ9_floorMod_7cf53_10 : decode cJ9_floorMod_7cf53 10 = .ok (.iload_n 2, 1) := by decide +kernel
theorem dJ9_floorMod_7cf53_11 : decode cJ9_floorMod_7cf53 11 = .ok (.ifCond .eq 7, 3) := by decide +kernel
theorem dJ9_floorMod_7cf53_14 : decode cJ9_floorMod_7cf53 14 = .ok (.iload_n 2, 1) := by decide +kernel
theorem dJ9_floorMod_7cf53_15 : decode cJ9_floorMod_7cf53 15 = .ok (.iload_n 1, 1) := by decide +kernel
theorem dJ9_floorMod_7cf53_16 : decode cJ9_floorMod_7cf53 16 = .ok (.iadd, 1) := by decide +kernel
theorem dJ9_floorMod_7cf53_17 : decode cJ9_floorMod_7cf53 17 = .ok (.ireturn, 1) := by decide +kernel
theorem dJ9_floorMod_7cf53_18 : decode cJ9_floorMod_7cf53 18 = .ok (.iload_n 2, 1) := by decide +kernel
theorem dJ9_floorMod_7cf53_19 : decode cJ9_floorMod_7cf53 19 = .ok (.ireturn, 1) := by decide +kernel
theorem dJ9_max_7cf53_0 : decode cJ9_max_7cf53 0 = .ok (.iload_n 0, 1) := by decide +kernel
theorem dJ9_max_7cf53_1 : decode cJ9_max_7cf53 1 = .ok (.iload_n 1, 1) := by decide +kernel
theorem dJ9_max_7cf53_2 : decode cJ9_max_7cf53 2 = .ok (.if_icmp .lt 7, 3) := by decide +kernel
theorem dJ9_max_7cf53_5 : decode cJ9_max_7cf53 5 = .ok (.iload_n 0, 1) := by decide +kernel
theorem dJ9_max_7cf53_6 : decode cJ9_max_7cf53 6 = .ok (.goto 4, 3) := by decide +kernel
theorem dJ9_max_7cf53_9 : decode cJ9_max_7cf53 9 = .ok (.iload_n 1, 1) := by decide +kernel
theorem dJ9_max_7cf53_10 : decode cJ9_max_7cf53 10 = .ok (.ireturn, 1) := by decide +kernel
theorem dJ9_min_7cf53_0 : decode cJ9_min_7cf53 0 = .ok (.iload_n 0, 1) := by decide +kernel
theorem dJ9_min_7cf53_1 : decode cJ9_min_7cf53 1 = .ok (.iload_n 1, 1) := by decide +kernel
theorem dJ9_min_7cf53_2 : decode cJ9_min_7cf53 2 = .ok (.if_icmp .gt 7, 3) := by decide +kernel
theorem dJ9_min_7cf53_5 : decode cJ9_min_7cf53 5 = .ok (.iload_n 0, 1) := by decide +kernel
theorem dJ9_min_7cf53_6 : decode cJ9_min_7cf53 6 = .ok (.goto 4, 3) := by decide +kernel
theorem dJ9_min_7cf53_9 : decode cJ9_min_7cf53 9 = .ok (.iload_n 1, 1) := by decide +kernel
theorem dJ9_min_7cf53_10 : decode cJ9_min_7cf53 10 = .ok (.ireturn, 1) := by decide +kernel
set_option maxRecDepth 20000 in
theorem ggL_come_X2_come : GoodIn wsL_come wsX2_come := goodIn_ca (goodIn_ca (goodIn_r _ [7, 8, 9, 10, 11, 12, 13, 14, 15, 16, 17, 18, 19, 20, 21, 22, 23, 24, 25, 26, 27, 28, 29, 30, 31, 32, 33, 34, 35, 36, 37, 38, 39, 40, 41, 42, 43, 44, 45, 46, 47, 48, 49, 50, 51, 52, 53, 54, 55, 56, 57, 58, 59] (by decide +kernel) (by decide +kernel)) (goodIn_sub (fun _ h => List.mem_cons_of_mem _ (List.mem_append_left _ (List.mem_append_right _ h))) (by decide +kernel))) (goodIn_sub (fun _ h => List.mem_cons_of_mem _ (List.mem_append_right _ h)) (by decide +kernel))
set_option maxRecDepth 20000 in
theorem gL_come_X2_come : GoodIn wsL_come (wsV RL 7 RX2 yX2_come wsX2_come) := goodIn_app (goodIn_of _ (by decide +kernel)) ggL_come_X2_come
theorem dL_come_0 : decode cL_come 0 = .ok (.aload_n 3, 1) := by decide +kernel
theorem dL_come_1 : decode cL_come 1 = .ok (.iconst 0, 1) := by decide +kernel
theorem dL_come_2 : decode cL_come 2 = .ok (.aload_n 0, 1) := by decide +kernel
theorem dL_come_3 : decode cL_come 3 = .ok (.iload_n 1, 1) := by decide +kernel
theorem dL_come_4 : decode cL_come 4 = .ok (.iload_n 2, 1) := by decide +kernel
theorem dL_come_5 : decode cL_come 5 = .ok (.invokevirtual 7, 3) := by decide +kernel
theorem dL_come_8 : decode cL_come 8 = .ok (.i2l, 1) := by decide +kernel
theorem dL_come_9 : decode cL_come 9 = .ok (.lastore, 1) := by decide +kernel
theorem dL_come_10 : decode cL_come 10 = .ok (.goto 11, 3) := by decide +kernel
theorem dL_come_13 : decode cL_come 13 = .ok (.astore 4, 2) := by decide +kernel
theorem dL_come_15 : decode cL_come 15 = .ok (.iconst 1, 1) := by decide +kernel
theorem dL_come_16 : decode cL_come 16 = .ok (.ireturn, 1) := by decide +kernel
theorem dL_come_17 : decode cL_come 17 = .ok (.astore 4, 2) := by decide +kernel
theorem dL_come_19 : decode cL_come 19 = .ok (.iconst 2, 1) := by decide +kernel
theorem dL_come_20 : decode cL_come 20 = .ok (.ireturn, 1) := by decide +kernel
theorem dL_come_21 : decode cL_come 21 = .ok (.iconst 0, 1) := by decide +kernel
theorem dL_come_22 : decode cL_come 22 = .ok (.ireturn, 1) := by decide +kernel
set_option maxRecDepth 20000 in
theorem ggL_leave_X2_leave : GoodIn wsL_leave wsX2_leave := goodIn_ca (goodIn_ca (goodIn_r _ [7, 8, 9, 10, 11, 12, 13, 14, 15, 16, 17, 18, 19, 20, 21, 22, 23, 24, 25, 26, 27, 28, 29, 30, 31, 32, 33, 34, 35, 36, 37, 38, 39, 40, 41, 42, 43, 44, 45, 46, 47, 48, 49, 50, 51, 52, 53, 54, 55, 56, 57, 58, 59, 60, 61, 62, 63, 64, 65, 66] (by decide +kernel) (by decide +kernel)) (goodIn_sub (fun _ h => List.mem_cons_of_mem _ (List.mem_append_left _ (List.mem_append_right _ h))) (by decide +kernel))) (goodIn_sub (fun _ h => List.mem_cons_of_mem _ (List.mem_append_right _ h)) (by decide +kernel))
set_option maxRecDepth 20000 in
theorem gL_leave_X2_leave : GoodIn wsL_leave (wsV RL 17 RX2 yX2_leave wsX2_leave) := goodIn_app (goodIn_of _ (by decide +kernel)) ggL_leave_X2_leave
theorem dL_leave_0 : decode cL_leave 0 = .ok (.aload_n 2, 1) := by decide +kernel
theorem dL_leave_1 : decode cL_leave 1 = .ok (.iconst 0, 1) := by decide +kernel
theorem dL_leave_2 : decode cL_leave 2 = .ok (.aload_n 0, 1) := by decide +kernel
theorem dL_leave_3 : decode cL_leave 3 = .ok (.iload_n 1, 1) := by decide +kernel
theorem dL_leave_4 : decode cL_leave 4 = .ok (.invokevirtual 17, 3) := by decide +kernel
theorem dL_leave_7 : decode cL_leave 7 = .ok (.i2l, 1) := by decide +kernel
theorem dL_leave_8 : decode cL_leave 8 = .ok (.lastore, 1) := by decide +kernel
theorem dL_leave_9 : decode cL_leave 9 = .ok (.goto 9, 3) := by decide +kernel
theorem dL_leave_12 : decode cL_leave 12 = .ok (.astore_n 3, 1) := by decide +kernel
theorem dL_leave_13 : decode cL_leave 13 = .ok (.iconst 1, 1) := by decide +kernel
theorem dL_leave_14 : decode cL_leave 14 = .ok (.ireturn, 1) := by decide +kernel
theorem dL_leave_15 : decode cL_leave 15 = .ok (.astore_n 3, 1) := by decide +kernel
theorem dL_leave_16 : decode cL_leave 16 = .ok (.iconst 2, 1) := by decide +kernel
theorem dL_leave_17 : decode cL_leave 17 = .ok (.ireturn, 1) := by decide +kernel
theorem dL_leave_18 : decode cL_leave 18 = .ok (.iconst 0, 1) := by decide +kernel
theorem dL_leave_19 : decode cL_leave 19 = .ok (.ireturn, 1) := by decide +kernel
set_option maxRecDepth 20000 in
theorem ggL_ring_X2_ring : GoodIn wsL_ring wsX2_ring := goodIn_ca (goodIn_r _ [6, 7, 8, 9, 10, 11, 12, 13, 14, 15, 16, 17, 18, 19, 20, 21, 22, 23] (by decide +kernel) (by decide +kernel)) (goodIn_sub (fun _ h => List.mem_cons_of_mem _ (List.mem_append_right _ h)) (by decide +kernel))
set_option maxRecDepth 20000 in
theorem gL_ring_X2_ring : GoodIn wsL_ring (wsV RL 23 RX2 yX2_ring wsX2_ring) := goodIn_app (goodIn_of _ (by decide +kernel)) ggL_ring_X2_ring
theorem dL_ring_0 : decode cL_ring 0 = .ok (.aload_n 2, 1) := by decide +kernel
theorem dL_ring_1 : decode cL_ring 1 = .ok (.iconst 0, 1) := by decide +kernel
theorem dL_ring_2 : decode cL_ring 2 = .ok (.aload_n 0, 1) := by decide +kernel
theorem dL_ring_3 : decode cL_ring 3 = .ok (.iload_n 1, 1) := by decide +kernel
theorem dL_ring_4 : decode cL_ring 4 = .ok (.invokevirtual 23, 3) := by decide +kernel
theorem dL_ring_7 : decode cL_ring 7 = .ok (.i2l, 1) := by decide +kernel
theorem dL_ring_8 : decode cL_ring 8 = .ok (.lastore, 1) := by decide +kernel
theorem dL_ring_9 : decode cL_ring 9 = .ok (.goto 6, 3) := by decide +kernel
theorem dL_ring_12 : decode cL_ring 12 = .ok (.astore_n 3, 1) := by decide +kernel
theorem dL_ring_13 : decode cL_ring 13 = .ok (.iconst 1, 1) := by decide +kernel
theorem dL_ring_14 : decode cL_ring 14 = .ok (.ireturn, 1) := by decide +kernel
theorem dL_ring_15 : decode cL_ring 15 = .ok (.iconst 0, 1) := by decide +kernel
theorem dL_ring_16 : decode cL_ring 16 = .ok (.ireturn, 1) := by decide +kernel
set_option maxRecDepth 20000 in
theorem ggL_poise_X2_poise : GoodIn wsL_poise wsX2_poise := goodIn_ca (goodIn_ca (goodIn_r _ [7, 8, 9, 10, 11, 12, 13, 14, 15, 16, 17, 18, 19, 20, 21, 22, 23, 24, 25, 26, 27] (by decide +kernel) (by decide +kernel)) (goodIn_sub (fun _ h => List.mem_cons_of_mem _ (List.mem_append_left _ (List.mem_append_right _ h))) (by decide +kernel))) (goodIn_sub (fun _ h => List.mem_cons_of_mem _ (List.mem_append_right _ h)) (by decide +kernel))
set_option maxRecDepth 20000 in
theorem gL_poise_X2_poise : GoodIn wsL_poise (wsV RL 26 RX2 yX2_poise wsX2_poise) := goodIn_app (goodIn_of _ (by decide +kernel)) ggL_poise_X2_poise
theorem dL_poise_0 : decode cL_poise 0 = .ok (.aload_n 2, 1) := by decide +kernel
theorem dL_poise_1 : decode cL_poise 1 = .ok (.iconst 0, 1) := by decide +kernel
theorem dL_poise_2 : decode cL_poise 2 = .ok (.aload_n 0, 1) := by decide +kernel
theorem dL_poise_3 : decode cL_poise 3 = .ok (.iload_n 1, 1) := by decide +kernel
theorem dL_poise_4 : decode cL_poise 4 = .ok (.invokevirtual 26, 3) := by decide +kernel
theorem dL_poise_7 : decode cL_poise 7 = .ok (.i2l, 1) := by decide +kernel
theorem dL_poise_8 : decode cL_poise 8 = .ok (.lastore, 1) := by decide +kernel
theorem dL_poise_9 : decode cL_poise 9 = .ok (.goto 9, 3) := by decide +kernel
theorem dL_poise_12 : decode cL_poise 12 = .ok (.astore_n 3, 1) := by decide +kernel
theorem dL_poise_13 : decode cL_poise 13 = .ok (.iconst 1, 1) := by decide +kernel
theorem dL_poise_14 : decode cL_poise 14 = .ok (.ireturn, 1) := by decide +kernel
theorem dL_poise_15 : decode cL_poise 15 = .ok (.astore_n 3, 1) := by decide +kernel
theorem dL_poise_16 : decode cL_poise 16 = .ok (.iconst 2, 1) := by decide +kernel
theorem dL_poise_17 : decode cL_poise 17 = .ok (.ireturn, 1) := by decide +kernel
theorem dL_poise_18 : decode cL_poise 18 = .ok (.iconst 0, 1) := by decide +kernel
theorem dL_poise_19 : decode cL_poise 19 = .ok (.ireturn, 1) := by decide +kernel
set_option maxRecDepth 20000 in
theorem ggL_setCold_X2_setCold : GoodIn wsL_setCold wsX2_setCold := goodIn_ca (goodIn_ca (goodIn_r _ [7, 8, 9, 10, 11, 12, 13, 14, 15, 16, 17, 18, 19, 20, 21, 22, 23, 24, 25, 26] (by decide +kernel) (by decide +kernel)) (goodIn_sub (fun _ h => List.mem_cons_of_mem _ (List.mem_append_left _ (List.mem_append_right _ h))) (by decide +kernel))) (goodIn_sub (fun _ h => List.mem_cons_of_mem _ (List.mem_append_right _ h)) (by decide +kernel))
set_option maxRecDepth 20000 in
theorem gL_setCold_X2_setCold : GoodIn wsL_setCold (wsV RL 29 RX2 yX2_setCold wsX2_setCold) := goodIn_app (goodIn_of _ (by decide +kernel)) ggL_setCold_X2_setCold
theorem dL_setCold_0 : decode cL_setCold 0 = .ok (.aload_n 3, 1) := by decide +kernel
theorem dL_setCold_1 : decode cL_setCold 1 = .ok (.iconst 0, 1) := by decide +kernel
theorem dL_setCold_2 : decode cL_setCold 2 = .ok (.aload_n 0, 1) := by decide +kernel
theorem dL_setCold_3 : decode cL_setCold 3 = .ok (.iload_n 1, 1) := by decide +kernel
theorem dL_setCold_4 : decode cL_setCold 4 = .ok (.iload_n 2, 1) := by decide +kernel
theorem dL_setCold_5 : decode cL_setCold 5 = .ok (.invokevirtual 29, 3) := by decide +kernel
theorem dL_setCold_8 : decode cL_setCold 8 = .ok (.i2l, 1) := by decide +kernel
theorem dL_setCold_9 : decode cL_setCold 9 = .ok (.lastore, 1) := by decide +kernel
theorem dL_setCold_10 : decode cL_setCold 10 = .ok (.goto 11, 3) := by decide +kernel
theorem dL_setCold_13 : decode cL_setCold 13 = .ok (.astore 4, 2) := by decide +kernel
theorem dL_setCold_15 : decode cL_setCold 15 = .ok (.iconst 1, 1) := by decide +kernel
theorem dL_setCold_16 : decode cL_setCold 16 = .ok (.ireturn, 1) := by decide +kernel
theorem dL_setCold_17 : decode cL_setCold 17 = .ok (.astore 4, 2) := by decide +kernel
theorem dL_setCold_19 : decode cL_setCold 19 = .ok (.iconst 2, 1) := by decide +kernel
theorem dL_setCold_20 : decode cL_setCold 20 = .ok (.ireturn, 1) := by decide +kernel
theorem dL_setCold_21 : decode cL_setCold 21 = .ok (.iconst 0, 1) := by decide +kernel
theorem dL_setCold_22 : decode cL_setCold 22 = .ok (.ireturn, 1) := by decide +kernel
set_option maxRecDepth 20000 in
theorem ggL_traveller_X2_traveller : GoodIn wsL_traveller wsX2_traveller := goodIn_ca (goodIn_r _ [6, 7, 8, 9, 10, 11, 12, 13, 14, 15, 16, 17, 18, 19, 20, 21, 22, 23, 24, 25, 26, 27, 28, 29, 30, 31, 32, 33, 34, 35, 36, 37, 38, 39, 40, 41, 42, 43, 44, 45, 46, 47, 48, 49, 50, 51, 52, 53, 54, 55, 56, 57, 58, 59, 60, 61, 62] (by decide +kernel) (by decide +kernel)) (goodIn_sub (fun _ h => List.mem_cons_of_mem _ (List.mem_append_right _ h)) (by decide +kernel))
set_option maxRecDepth 20000 in
theorem gL_traveller_X2_traveller : GoodIn wsL_traveller (wsV RL 33 RX2 yX2_traveller wsX2_traveller) := goodIn_app (goodIn_of _ (by decide +kernel)) ggL_traveller_X2_traveller
theorem dL_traveller_0 : decode cL_traveller 0 = .ok (.aload_n 3, 1) := by decide +kernel
theorem dL_traveller_1 : decode cL_traveller 1 = .ok (.iconst 0, 1) := by decide +kernel
theorem dL_traveller_2 : decode cL_traveller 2 = .ok (.aload_n 0, 1) := by decide +kernel
theorem dL_traveller_3 : decode cL_traveller 3 = .ok (.iload_n 1, 1) := by decide +kernel
theorem dL_traveller_4 : decode cL_traveller 4 = .ok (.iload_n 2, 1) := by decide +kernel
theorem dL_traveller_5 : decode cL_traveller 5 = .ok (.invokevirtual 33, 3) := by decide +kernel
theorem dL_traveller_8 : decode cL_traveller 8 = .ok (.i2l, 1) := by decide +kernel
theorem dL_traveller_9 : decode cL_traveller 9 = .ok (.lastore, 1) := by decide +kernel
theorem dL_traveller_10 : decode cL_traveller 10 = .ok (.goto 7, 3) := by decide +kernel
theorem dL_traveller_13 : decode cL_traveller 13 = .ok (.astore 4, 2) := by decide +kernel
theorem dL_traveller_15 : decode cL_traveller 15 = .ok (.iconst 1, 1) := by decide +kernel
theorem dL_traveller_16 : decode cL_traveller 16 = .ok (.ireturn, 1) := by decide +kernel
theorem dL_traveller_17 : decode cL_traveller 17 = .ok (.iconst 0, 1) := by decide +kernel
theorem dL_traveller_18 : decode cL_traveller 18 = .ok (.ireturn, 1) := by decide +kernel
set_option maxRecDepth 20000 in
theorem ggL_count_X2_count : GoodIn wsL_count wsX2_count := goodIn_ca (goodIn_r _ [6, 7, 8, 9, 10, 11, 12, 13, 14, 15, 16, 17, 18, 19, 20, 21, 22, 23, 24, 25, 26, 27, 28, 29, 30, 31, 32, 33, 34, 35, 36, 37, 38, 39, 40, 41, 42, 43, 44, 45, 46, 47, 48, 49, 50, 51, 52, 53, 54, 55, 56, 57, 58, 59, 60, 61, 62, 63, 64, 65, 66, 67, 68, 69, 70, 71, 72, 73, 74, 75] (by decide +kernel) (by decide +kernel)) (goodIn_sub (fun _ h => List.mem_cons_of_mem _ (List.mem_append_right _ h)) (by decide +kernel))
set_option maxRecDepth 20000 in
theorem gL_count_X2_count : GoodIn wsL_count (wsV RL 36 RX2 yX2_count wsX2_count) := goodIn_app (goodIn_of _ (by decide +kernel)) ggL_count_X2_count
theorem dL_count_0 : decode cL_count 0 = .ok (.aload_n 2, 1) := by decide +kernel
theorem dL_count_1 : decode cL_count 1 = .ok (.iconst 0, 1) := by decide +kernel
theorem dL_count_2 : decode cL_count 2 = .ok (.aload_n 0, 1) := by decide +kernel
theorem dL_count_3 : decode cL_count 3 = .ok (.iload_n 1, 1) := by decide +kernel
theorem dL_count_4 : decode cL_count 4 = .ok (.invokevirtual 36, 3) := by decide +kernel
theorem dL_count_7 : decode cL_count 7 = .ok (.i2l, 1) := by decide +kernel
theorem dL_count_8 : decode cL_count 8 = .ok (.lastore, 1) := by decide +kernel
theorem dL_count_9 : decode cL_count 9 = .ok (.goto 6, 3) := by decide +kernel
theorem dL_count_12 : decode cL_count 12 = .ok (.astore_n 3, 1) := by decide +kernel
theorem dL_count_13 : decode cL_count 13 = .ok (.iconst 1, 1) := by decide +kernel
theorem dL_count_14 : decode cL_count 14 = .ok (.ireturn, 1) := by decide +kernel
theorem dL_count_15 : decode cL_count 15 = .ok (.iconst 0, 1) := by decide +kernel
theorem dL_count_16 : decode cL_count 16 = .ok (.ireturn, 1) := by decide +kernel
set_option maxRecDepth 20000 in
theorem ggL_pass_X2_pass : GoodIn wsL_pass wsX2_pass := goodIn_ca (goodIn_r _ [6, 7, 8, 9, 10, 11, 12, 13, 5, 14, 15, 16, 17, 18, 19, 20, 21, 22, 23, 24, 25, 26, 27, 28, 29, 30, 31, 32, 33, 34, 35, 36, 37, 38, 39, 40, 41, 42, 43, 44, 45, 46, 47, 48, 49, 50, 51, 52, 53, 54, 55, 56, 57, 58, 59, 60, 61, 62, 63, 64, 65, 66, 67, 68, 69, 70, 71, 72, 73, 74, 75, 76, 77, 78, 79, 80, 81, 82, 83, 84, 85, 86, 87, 88, 89, 90, 91, 92, 93, 94, 95, 96, 97, 98, 99, 100, 101, 102, 103, 104, 105, 106, 107, 108, 109, 110, 111, 112, 113, 114, 115, 116, 117, 118, 119, 120, 121, 122, 123, 124, 125, 126, 127, 128, 129, 130, 131, 132, 133, 134] (by decide +kernel) (by decide +kernel)) (goodIn_sub (fun _ h => List.mem_cons_of_mem _ (List.mem_append_right _ h)) (by decide +kernel))
set_option maxRecDepth 20000 in
theorem gL_pass_X2_pass : GoodIn wsL_pass (wsV RL 39 RX2 yX2_pass wsX2_pass) := goodIn_app (goodIn_of _ (by decide +kernel)) ggL_pass_X2_pass
theorem dL_pass_0 : decode cL_pass 0 = .ok (.aload_n 2, 1) := by decide +kernel
theorem dL_pass_1 : decode cL_pass 1 = .ok (.iconst 0, 1) := by decide +kernel
theorem dL_pass_2 : decode cL_pass 2 = .ok (.aload_n 0, 1) := by decide +kernel
theorem dL_pass_3 : decode cL_pass 3 = .ok (.iload_n 1, 1) := by decide +kernel
theorem dL_pass_4 : decode cL_pass 4 = .ok (.invokevirtual 39, 3) := by decide +kernel
theorem dL_pass_7 : decode cL_pass 7 = .ok (.i2l, 1) := by decide +kernel
theorem dL_pass_8 : decode cL_pass 8 = .ok (.lastore, 1) := by decide +kernel
theorem dL_pass_9 : decode cL_pass 9 = .ok (.goto 6, 3) := by decide +kernel
theorem dL_pass_12 : decode cL_pass 12 = .ok (.astore_n 3, 1) := by decide +kernel
theorem dL_pass_13 : decode cL_pass 13 = .ok (.iconst 1, 1) := by decide +kernel
theorem dL_pass_14 : decode cL_pass 14 = .ok (.ireturn, 1) := by decide +kernel
theorem dL_pass_15 : decode cL_pass 15 = .ok (.iconst 0, 1) := by decide +kernel
theorem dL_pass_16 : decode cL_pass 16 = .ok (.ireturn, 1) := by decide +kernel
set_option maxRecDepth 20000 in
theorem ggL_when_X2_when : GoodIn wsL_when wsX2_when := goodIn_ca (goodIn_r _ [6, 7, 8, 9, 10, 11, 12, 13, 14, 15, 16, 17, 18, 19, 20, 21, 22, 23, 24, 25, 26, 27, 28, 29, 30, 31, 32, 33, 34, 35, 36, 37, 38, 39, 40, 41, 42, 43, 44, 45, 46, 47, 48, 49, 50, 51, 52, 53, 54, 55, 56, 57, 58, 59, 60, 61, 62, 63, 64, 65, 66, 67, 68, 69, 70, 71, 72, 73, 74, 75, 76, 77, 78, 79, 80, 81, 82, 83, 84, 85, 86, 87, 88, 89, 90, 91, 92, 93, 94, 95, 96, 97, 98, 99, 100, 101, 102, 103, 104, 105, 106, 107, 108, 109, 110, 111, 112, 113, 114, 115, 116, 117, 118, 119, 120, 121, 122, 123, 124, 125, 126, 127, 128, 129, 130, 131, 132, 133, 134, 135, 136, 137, 138, 139, 140, 141, 142, 143, 144] (by decide +kernel) (by decide +kernel)) (goodIn_sub (fun _ h => List.mem_cons_of_mem _ (List.mem_append_right _ h)) (by decide +kernel))
set_option maxRecDepth 20000 in
theorem gL_when_X2_when : GoodIn wsL_when (wsV RL 42 RX2 yX2_when wsX2_when) := goodIn_app (goodIn_of _ (by decide +kernel)) ggL_when_X2_when
theorem dL_when_0 : decode cL_when 0 = .ok (.aload_n 2, 1) := by decide +kernel
theorem dL_when_1 : decode cL_when 1 = .ok (.iconst 0, 1) := by decide +kernel
theorem dL_when_2 : decode cL_when 2 = .ok (.aload_n 0, 1) := by decide +kernel
theorem dL_when_3 : decode cL_when 3 = .ok (.iload_n 1, 1) := by decide +kernel
theorem dL_when_4 : decode cL_when 4 = .ok (.invokevirtual 42, 3) := by decide +kernel
theorem dL_when_7 : decode cL_when 7 = .ok (.i2l, 1) := by decide +kernel
theorem dL_when_8 : decode cL_when 8 = .ok (.lastore, 1) := by decide +kernel
theorem dL_when_9 : decode cL_when 9 = .ok (.goto 6, 3) := by decide +kernel
theorem dL_when_12 : decode cL_when 12 = .ok (.astore_n 3, 1) := by decide +kernel
theorem dL_when_13 : decode cL_when 13 = .ok (.iconst 1, 1) := by decide +kernel
theorem dL_when_14 : decode cL_when 14 = .ok (.ireturn, 1) := by decide +kernel
theorem dL_when_15 : decode cL_when 15 = .ok (.iconst 0, 1) := by decide +kernel
theorem dL_when_16 : decode cL_when 16 = .ok (.ireturn, 1) := by decide +kernel
set_option maxRecDepth 20000 in
theorem ggL_foresee_X2_foresee : GoodIn wsL_foresee wsX2_foresee := goodIn_ca (goodIn_ca (goodIn_r _ [7, 8, 9, 10, 11, 12, 13, 14, 15, 16, 17, 18, 19, 20, 6, 21, 22, 23, 24, 25, 26, 27, 28, 29, 30, 31, 32, 33, 34, 35, 36, 37, 38, 39, 40, 41, 42, 43, 44, 45, 46, 47, 48, 49, 50, 51, 52, 53, 54, 55, 56, 57, 58, 59, 60, 61, 62, 63, 64, 65, 66, 67, 68, 69, 70, 71, 72, 73, 74, 75, 76, 77, 78, 79, 80, 81, 82, 83, 84, 85, 86, 87, 88, 89, 90, 91, 92, 93, 94, 95, 96, 97, 98, 99, 100, 101, 102, 103, 104, 105, 106, 107, 108, 109, 110, 111, 112, 113, 114, 115, 116, 117, 118, 119, 120, 121, 122, 123, 124, 125, 126, 127, 128, 129, 130, 131, 132, 133, 134, 135, 136, 137, 138, 139, 140, 141, 142, 143, 144, 145, 146, 147, 148, 149, 150, 151, 152, 153, 154, 155, 156] (by decide +kernel) (by decide +kernel)) (goodIn_sub (fun _ h => List.mem_cons_of_mem _ (List.mem_append_left _ (List.mem_append_right _ h))) (by decide +kernel))) (goodIn_sub (fun _ h => List.mem_cons_of_mem _ (List.mem_append_right _ h)) (by decide +kernel))
set_option maxRecDepth 20000 in
theorem gL_foresee_X2_foresee : GoodIn wsL_foresee (wsV RL 45 RX2 yX2_foresee wsX2_foresee) := goodIn_app (goodIn_of _ (by decide +kernel)) ggL_foresee_X2_foresee
theorem dL_foresee_0 : decode cL_foresee 0 = .ok (.aload_n 3, 1) := by decide +kernel
theorem dL_foresee_1 : decode cL_foresee 1 = .ok (.iconst 0, 1) := by decide +kernel
theorem dL_foresee_2 : decode cL_foresee 2 = .ok (.aload_n 0, 1) := by decide +kernel
theorem dL_foresee_3 : decode cL_foresee 3 = .ok (.iload_n 1, 1) := by decide +kernel
theorem dL_foresee_4 : decode cL_foresee 4 = .ok (.iload_n 2, 1) := by decide +kernel
theorem dL_foresee_5 : decode cL_foresee 5 = .ok (.invokevirtual 45, 3) := by decide +kernel
theorem dL_foresee_8 : decode cL_foresee 8 = .ok (.i2l, 1) := by decide +kernel
theorem dL_foresee_9 : decode cL_foresee 9 = .ok (.lastore, 1) := by decide +kernel
theorem dL_foresee_10 : decode cL_foresee 10 = .ok (.goto 11, 3) := by decide +kernel
theorem dL_foresee_13 : decode cL_foresee 13 = .ok (.astore 4, 2) := by decide +kernel
theorem dL_foresee_15 : decode cL_foresee 15 = .ok (.iconst 1, 1) := by decide +kernel
theorem dL_foresee_16 : decode cL_foresee 16 = .ok (.ireturn, 1) := by decide +kernel
theorem dL_foresee_17 : decode cL_foresee 17 = .ok (.astore 4, 2) := by decide +kernel
theorem dL_foresee_19 : decode cL_foresee 19 = .ok (.iconst 2, 1) := by decide +kernel
theorem dL_foresee_20 : decode cL_foresee 20 = .ok (.ireturn, 1) := by decide +kernel
theorem dL_foresee_21 : decode cL_foresee 21 = .ok (.iconst 0, 1) := by decide +kernel
theorem dL_foresee_22 : decode cL_foresee 22 = .ok (.ireturn, 1) := by decide +kernel
set_option maxRecDepth 20000 in
theorem ggL_bestCode_X2_bestCode : GoodIn wsL_bestCode wsX2_bestCode := goodIn_ca (goodIn_r _ [6, 7, 8, 9, 10, 11, 12, 5, 13, 14, 15, 16, 17, 18, 19, 20, 21, 22, 23, 24, 25, 26, 27, 28, 29, 30, 31, 32, 33, 34, 35, 36, 37, 38, 39, 40, 41, 42, 43, 44, 45, 46, 47, 48, 49, 50, 51, 52, 53, 54, 55, 56, 57, 58, 59, 60, 61, 62, 63, 64, 65, 66, 67, 68, 69, 70, 71, 72, 73, 74, 75, 76, 77, 78, 79, 80, 81, 82, 83, 84, 85, 86, 87, 88, 89, 90, 91, 92, 93, 94, 95, 96, 97, 98, 99, 100, 101, 102, 103, 104, 105, 106, 107, 108, 109, 110, 111, 112, 113, 114, 115, 116, 117, 118, 119, 120, 121, 122, 123, 124, 125, 126, 127, 128, 129, 130, 131, 132, 133, 134, 135, 136, 137, 138, 139, 140, 141, 142, 143, 144, 145, 146, 147, 148, 149, 150, 151, 152, 153, 154, 155] (by decide +kernel) (by decide +kernel)) (goodIn_sub (fun _ h => List.mem_cons_of_mem _ (List.mem_append_right _ h)) (by decide +kernel))
set_option maxRecDepth 20000 in
theorem gL_bestCode_X2_bestCode : GoodIn wsL_bestCode (wsV RL 48 RX2 yX2_bestCode wsX2_bestCode) := goodIn_app (goodIn_of _ (by decide +kernel)) ggL_bestCode_X2_bestCode
theorem dL_bestCode_0 : decode cL_bestCode 0 = .ok (.aload_n 2, 1) := by decide +kernel
theorem dL_bestCode_1 : decode cL_bestCode 1 = .ok (.iconst 0, 1) := by decide +kernel
theorem dL_bestCode_2 : decode cL_bestCode 2 = .ok (.aload_n 0, 1) := by decide +kernel
theorem dL_bestCode_3 : decode cL_bestCode 3 = .ok (.iload_n 1, 1) := by decide +kernel
theorem dL_bestCode_4 : decode cL_bestCode 4 = .ok (.invokevirtual 48, 3) := by decide +kernel
theorem dL_bestCode_7 : decode cL_bestCode 7 = .ok (.i2l, 1) := by decide +kernel
theorem dL_bestCode_8 : decode cL_bestCode 8 = .ok (.lastore, 1) := by decide +kernel
theorem dL_bestCode_9 : decode cL_bestCode 9 = .ok (.goto 6, 3) := by decide +kernel
theorem dL_bestCode_12 : decode cL_bestCode 12 = .ok (.astore_n 3, 1) := by decide +kernel
theorem dL_bestCode_13 : decode cL_bestCode 13 = .ok (.iconst 1, 1) := by decide +kernel
theorem dL_bestCode_14 : decode cL_bestCode 14 = .ok (.ireturn, 1) := by decide +kernel
theorem dL_bestCode_15 : decode cL_bestCode 15 = .ok (.iconst 0, 1) := by decide +kernel
theorem dL_bestCode_16 : decode cL_bestCode 16 = .ok (.ireturn, 1) := by decide +kernel
set_option maxRecDepth 20000 in
theorem ggL_bestPoise_X2_bestPoise : GoodIn wsL_bestPoise wsX2_bestPoise := goodIn_ca (goodIn_r _ [6, 7, 8, 9, 10, 11, 12, 5, 13, 14, 15, 16, 17, 18, 19, 20, 21, 22, 23, 24, 25, 26, 27, 28, 29, 30, 31, 32, 33, 34, 35, 36, 37, 38, 39, 40, 41, 42, 43, 44, 45, 46, 47, 48, 49, 50, 51, 52, 53, 54, 55, 56, 57, 58, 59, 60, 61, 62, 63, 64, 65, 66, 67, 68, 69, 70, 71, 72, 73, 74, 75, 76, 77, 78, 79, 80, 81, 82, 83, 84, 85, 86, 87, 88, 89, 90, 91, 92, 93, 94, 95, 96, 97, 98, 99, 100, 101, 102, 103, 104, 105, 106, 107, 108, 109, 110, 111, 112, 113, 114, 115, 116, 117, 118, 119, 120, 121, 122, 123, 124, 125, 126, 127, 128, 129, 130, 131, 132, 133, 134, 135, 136, 137, 138, 139, 140, 141, 142, 143, 144, 145, 146, 147, 148, 149, 150, 151, 152, 153, 154, 155] (by decide +kernel) (by decide +kernel)) (goodIn_sub (fun _ h => List.mem_cons_of_mem _ (List.mem_append_right _ h)) (by decide +kernel))
set_option maxRecDepth 20000 in
theorem gL_bestPoise_X2_bestPoise : GoodIn wsL_bestPoise (wsV RL 51 RX2 yX2_bestPoise wsX2_bestPoise) := goodIn_app (goodIn_of _ (by decide +kernel)) ggL_bestPoise_X2_bestPoise
theorem dL_bestPoise_0 : decode cL_bestPoise 0 = .ok (.aload_n 2, 1) := by decide +kernel
theorem dL_bestPoise_1 : decode cL_bestPoise 1 = .ok (.iconst 0, 1) := by decide +kernel
theorem dL_bestPoise_2 : decode cL_bestPoise 2 = .ok (.aload_n 0, 1) := by decide +kernel
theorem dL_bestPoise_3 : decode cL_bestPoise 3 = .ok (.iload_n 1, 1) := by decide +kernel
theorem dL_bestPoise_4 : decode cL_bestPoise 4 = .ok (.invokevirtual 51, 3) := by decide +kernel
theorem dL_bestPoise_7 : decode cL_bestPoise 7 = .ok (.i2l, 1) := by decide +kernel
theorem dL_bestPoise_8 : decode cL_bestPoise 8 = .ok (.lastore, 1) := by decide +kernel
theorem dL_bestPoise_9 : decode cL_bestPoise 9 = .ok (.goto 6, 3) := by decide +kernel
theorem dL_bestPoise_12 : decode cL_bestPoise 12 = .ok (.astore_n 3, 1) := by decide +kernel
theorem dL_bestPoise_13 : decode cL_bestPoise 13 = .ok (.iconst 1, 1) := by decide +kernel
theorem dL_bestPoise_14 : decode cL_bestPoise 14 = .ok (.ireturn, 1) := by decide +kernel
theorem dL_bestPoise_15 : decode cL_bestPoise 15 = .ok (.iconst 0, 1) := by decide +kernel
theorem dL_bestPoise_16 : decode cL_bestPoise 16 = .ok (.ireturn, 1) := by decide +kernel
set_option maxRecDepth 20000 in
theorem ggL_law_X2_init : GoodIn wsL_law wsX2_init := goodIn_r _ [9, 10, 11, 12, 13, 14, 15, 16, 17, 18, 19, 20, 21, 22, 23, 24, 25, 26, 27, 28, 29, 30, 31, 32, 33, 34, 35, 36, 37, 38, 39, 40, 41, 42, 43, 44, 45, 46, 47, 48, 49, 50, 474, 475, 476, 477, 478, 479, 480, 481, 482, 483, 484, 464, 465, 485, 486, 487, 488, 489, 490, 491, 492, 493, 494, 495, 496] (by decide +kernel) (by decide +kernel)
set_option maxRecDepth 20000 in
theorem gL_law_X2_init : GoodIn wsL_law (wsX2_init) := ggL_law_X2_init
set_option maxRecDepth 20000 in
theorem ggL_law_X4_init : GoodIn wsL_law wsX4_init := goodIn_r _ [53, 54, 11, 12, 27, 55, 56, 57, 58, 59, 60, 61, 62, 63, 64, 65, 66, 67, 68, 69, 70, 71, 72, 73, 466, 467, 468, 469, 470, 471, 472, 473, 497, 498, 499, 500, 501, 502, 503, 504, 505, 506, 507, 508] (by decide +kernel) (by decide +kernel)
set_option maxRecDepth 20000 in
theorem gL_law_X4_init : GoodIn wsL_law (wsX4_init) := ggL_law_X4_init
set_option maxRecDepth 20000 in
theorem ggL_law_L_come : GoodIn wsL_law wsL_come := goodIn_ca (goodIn_ca (goodIn_r _ [77, 78, 79, 80, 81, 82, 2, 83, 84, 85, 86, 87, 16, 88, 89, 90, 91, 92, 93, 31, 94, 39, 43, 44, 45, 46, 47, 95, 96, 97, 98, 41, 42, 49, 50, 464, 465, 474, 475, 476, 477, 478, 479, 480, 481, 482, 483, 484, 485, 486, 487, 488, 489, 490, 491, 492, 493, 494, 495, 496] (by decide +kernel) (by decide +kernel)) (goodIn_sub (fun _ h => List.mem_append_left _ (List.mem_append_left _ (List.mem_append_right _ h))) (by decide +kernel))) (goodIn_sub (fun _ h => List.mem_append_left _ (List.mem_append_right _ h)) (by decide +kernel))
set_option maxRecDepth 20000 in
theorem gL_law_L_come : GoodIn wsL_law (va_wsS RL 58 yL_come wsL_come) := goodIn_app (goodIn_of _ (by decide +kernel)) ggL_law_L_come
set_option maxRecDepth 20000 in
theorem ggL_law_X4_come : GoodIn wsL_law wsX4_come := goodIn_r _ [102, 103, 104, 55, 56, 57, 62, 105, 106, 5, 107, 108, 109, 110, 111, 466, 467, 468, 469, 470, 471, 472, 473, 497, 498, 499, 500, 501, 502, 503, 504, 505, 506, 507, 508] (by decide +kernel) (by decide +kernel)
set_option maxRecDepth 20000 in
theorem gL_law_X4_come : GoodIn wsL_law (wsV RL 63 RX4 yX4_come wsX4_come) := goodIn_app (goodIn_of _ (by decide +kernel)) ggL_law_X4_come
set_option maxRecDepth 20000 in
theorem ggL_law_X4_thrown : GoodIn wsL_law wsX4_thrown := goodIn_r _ [115, 103, 466, 467, 468, 469, 470, 471, 472, 473] (by decide +kernel) (by decide +kernel)
set_option maxRecDepth 20000 in
theorem gL_law_X4_thrown : GoodIn wsL_law (wsV RL 64 RX4 yX4_thrown wsX4_thrown) := goodIn_app (goodIn_of _ (by decide +kernel)) ggL_law_X4_thrown
set_option maxRecDepth 20000 in
theorem ggL_law_L_leave : GoodIn wsL_law wsL_leave := goodIn_ca (goodIn_ca (goodIn_r _ [118, 119, 79, 120, 121, 122, 2, 123, 124, 125, 86, 87, 16, 88, 126, 90, 127, 128, 129, 31, 130, 39, 131, 132, 133, 134, 45, 48, 95, 96, 97, 98, 41, 42, 49, 50, 43, 135, 136, 137, 138, 46, 464, 465, 474, 475, 476, 477, 478, 479, 480, 481, 482, 483, 484, 485, 486, 487, 488, 489, 490, 491, 492, 493, 494, 495, 496] (by decide +kernel) (by decide +kernel)) (goodIn_sub (fun _ h => List.mem_append_right _ h) (by decide +kernel))) (goodIn_sub (fun _ h => List.mem_append_left _ (List.mem_append_right _ h)) (by decide +kernel))
set_option maxRecDepth 20000 in
theorem gL_law_L_leave : GoodIn wsL_law (va_wsS RL 68 yL_leave wsL_leave) := goodIn_app (goodIn_of _ (by decide +kernel)) ggL_law_L_leave
set_option maxRecDepth 20000 in
theorem ggL_law_X4_leave : GoodIn wsL_law wsX4_leave := goodIn_r _ [142, 103, 62, 143, 144, 145, 5, 146, 104, 105, 106, 107, 108, 109, 110, 111, 466, 467, 468, 469, 470, 471, 472, 473, 497, 498, 499, 500, 501, 502, 503, 504, 505, 506, 507, 508] (by decide +kernel) (by decide +kernel)
set_option maxRecDepth 20000 in
theorem gL_law_X4_leave : GoodIn wsL_law (wsV RL 71 RX4 yX4_leave wsX4_leave) := goodIn_app (goodIn_of _ (by decide +kernel)) ggL_law_X4_leave
set_option maxRecDepth 20000 in
theorem ggL_law_L_ring : GoodIn wsL_law wsL_ring := goodIn_ca (goodIn_r _ [149, 78, 150, 151, 152, 2, 153, 84, 85, 16, 154, 464, 465, 474, 475, 476, 477, 478, 479, 480, 481, 482, 483, 484] (by decide +kernel) (by decide +kernel)) (goodIn_sub (fun _ h => List.mem_append_left _ (List.mem_append_left _ (List.mem_append_right _ h))) (by decide +kernel))
set_option maxRecDepth 20000 in
theorem gL_law_L_ring : GoodIn wsL_law (va_wsS RL 72 yL_ring wsL_ring) := goodIn_app (goodIn_of _ (by decide +kernel)) ggL_law_L_ring
set_option maxRecDepth 20000 in
theorem ggL_law_X4_ring : GoodIn wsL_law wsX4_ring := goodIn_r _ [158, 103, 62, 105, 106, 5, 107, 108, 109, 110, 111, 466, 467, 468, 469, 470, 471, 472, 473, 497, 498, 499, 500, 501, 502, 503, 504, 505, 506, 507, 508] (by decide +kernel) (by decide +kernel)
set_option maxRecDepth 20000 in
theorem gL_law_X4_ring : GoodIn wsL_law (wsV RL 74 RX4 yX4_ring wsX4_ring) := goodIn_app (goodIn_of _ (by decide +kernel)) ggL_law_X4_ring
set_option maxRecDepth 20000 in
theorem ggL_law_L_poise : GoodIn wsL_law wsL_poise := goodIn_ca (goodIn_ca (goodIn_r _ [161, 78, 79, 162, 163, 164, 2, 165, 84, 85, 86, 87, 16, 166, 167, 464, 465, 474, 475, 476, 477, 478, 479, 480, 481, 482, 483, 484] (by decide +kernel) (by decide +kernel)) (goodIn_sub (fun _ h => List.mem_append_left _ (List.mem_append_left _ (List.mem_append_right _ h))) (by decide +kernel))) (goodIn_sub (fun _ h => List.mem_append_left _ (List.mem_append_right _ h)) (by decide +kernel))
set_option maxRecDepth 20000 in
theorem gL_law_L_poise : GoodIn wsL_law (va_wsS RL 75 yL_poise wsL_poise) := goodIn_app (goodIn_of _ (by decide +kernel)) ggL_law_L_poise
set_option maxRecDepth 20000 in
theorem ggL_law_X4_poise : GoodIn wsL_law wsX4_poise := goodIn_r _ [171, 103, 62, 105, 106, 5, 107, 108, 109, 110, 111, 466, 467, 468, 469, 470, 471, 472, 473, 497, 498, 499, 500, 501, 502, 503, 504, 505, 506, 507, 508] (by decide +kernel) (by decide +kernel)
set_option maxRecDepth 20000 in
theorem gL_law_X4_poise : GoodIn wsL_law (wsV RL 77 RX4 yX4_poise wsX4_poise) := goodIn_app (goodIn_of _ (by decide +kernel)) ggL_law_X4_poise
set_option maxRecDepth 20000 in
theorem ggL_law_L_setCold : GoodIn wsL_law wsL_setCold := goodIn_ca (goodIn_ca (goodIn_r _ [174, 119, 78, 175, 176, 177, 2, 178, 124, 125, 84, 85, 16, 179, 464, 465, 474, 475, 476, 477, 478, 479, 480, 481, 482, 483, 484] (by decide +kernel) (by decide +kernel)) (goodIn_sub (fun _ h => List.mem_append_right _ h) (by decide +kernel))) (goodIn_sub (fun _ h => List.mem_append_left _ (List.mem_append_left _ (List.mem_append_right _ h))) (by decide +kernel))
set_option maxRecDepth 20000 in
theorem gL_law_L_setCold : GoodIn wsL_law (va_wsS RL 78 yL_setCold wsL_setCold) := goodIn_app (goodIn_of _ (by decide +kernel)) ggL_law_L_setCold
set_option maxRecDepth 20000 in
theorem ggL_law_X4_setCold : GoodIn wsL_law wsX4_setCold := goodIn_r _ [183, 103, 58, 105, 106, 5, 107, 108, 109, 110, 111, 466, 467, 468, 469, 470, 471, 472, 473] (by decide +kernel) (by decide +kernel)
set_option maxRecDepth 20000 in
theorem gL_law_X4_setCold : GoodIn wsL_law (wsV RL 81 RX4 yX4_setCold wsX4_setCold) := goodIn_app (goodIn_of _ (by decide +kernel)) ggL_law_X4_setCold
set_option maxRecDepth 20000 in
theorem ggL_law_X2_crack : GoodIn wsL_law wsX2_crack := goodIn_r _ [187, 16, 188, 189, 190, 191, 192, 464, 465, 474, 475, 476, 477, 478, 479, 480, 481, 482, 483, 484] (by decide +kernel) (by decide +kernel)
set_option maxRecDepth 20000 in
theorem gL_law_X2_crack : GoodIn wsL_law (wsV RL 82 RX2 yX2_crack wsX2_crack) := goodIn_app (goodIn_of _ (by decide +kernel)) ggL_law_X2_crack
set_option maxRecDepth 20000 in
theorem ggL_law_X4_crack : GoodIn wsL_law wsX4_crack := goodIn_r _ [196, 103, 62, 197, 190, 191, 192, 466, 467, 468, 469, 470, 471, 472, 473, 497, 498, 499, 500, 501, 502, 503, 504, 505, 506, 507, 508] (by decide +kernel) (by decide +kernel)
set_option maxRecDepth 20000 in
theorem gL_law_X4_crack : GoodIn wsL_law (wsV RL 85 RX4 yX4_crack wsX4_crack) := goodIn_app (goodIn_of _ (by decide +kernel)) ggL_law_X4_crack
set_option maxRecDepth 20000 in
theorem ggL_law_L_traveller : GoodIn wsL_law wsL_traveller := goodIn_ca (goodIn_r _ [200, 119, 201, 202, 203, 2, 204, 124, 125, 16, 88, 127, 128, 129, 31, 130, 39, 205, 206, 207, 15, 208, 32, 209, 210, 211, 212, 21, 33, 34, 213, 214, 136, 137, 138, 45, 48, 46, 464, 465, 474, 475, 476, 477, 478, 479, 480, 481, 482, 483, 484, 485, 486, 487, 488, 489, 490, 491, 492, 493, 494, 495, 496] (by decide +kernel) (by decide +kernel)) (goodIn_sub (fun _ h => List.mem_append_right _ h) (by decide +kernel))
set_option maxRecDepth 20000 in
theorem gL_law_L_traveller : GoodIn wsL_law (va_wsS RL 86 yL_traveller wsL_traveller) := goodIn_app (goodIn_of _ (by decide +kernel)) ggL_law_L_traveller
set_option maxRecDepth 20000 in
theorem ggL_law_X4_traveller : GoodIn wsL_law wsX4_traveller := goodIn_r _ [218, 103, 143, 144, 145, 5, 146, 104, 105, 106, 107, 219, 220, 221, 222, 27, 55, 56, 62, 57, 108, 109, 110, 111, 466, 467, 468, 469, 470, 471, 472, 473, 497, 498, 499, 500, 501, 502, 503, 504, 505, 506, 507, 508] (by decide +kernel) (by decide +kernel)
set_option maxRecDepth 20000 in
theorem gL_law_X4_traveller : GoodIn wsL_law (wsV RL 88 RX4 yX4_traveller wsX4_traveller) := goodIn_app (goodIn_of _ (by decide +kernel)) ggL_law_X4_traveller
set_option maxRecDepth 20000 in
theorem ggL_law_L_count : GoodIn wsL_law wsL_count := goodIn_ca (goodIn_r _ [225, 119, 226, 227, 228, 2, 229, 124, 125, 16, 230, 231, 232, 15, 233, 21, 22, 23, 24, 25, 32, 234, 235, 236, 237, 26, 33, 238, 239, 240, 241, 35, 242, 243, 244, 31, 245, 49, 50, 246, 247, 191, 248, 249, 250, 251, 252, 253, 254, 255, 256, 464, 465, 474, 475, 476, 477, 478, 479, 480, 481, 482, 483, 484, 485, 486, 487, 488, 489, 490, 491, 492, 493, 494, 495, 496] (by decide +kernel) (by decide +kernel)) (goodIn_sub (fun _ h => List.mem_append_right _ h) (by decide +kernel))
set_option maxRecDepth 20000 in
theorem gL_law_L_count : GoodIn wsL_law (va_wsS RL 89 yL_count wsL_count) := goodIn_app (goodIn_of _ (by decide +kernel)) ggL_law_L_count
set_option maxRecDepth 20000 in
theorem ggL_law_X4_count : GoodIn wsL_law wsX4_count := goodIn_r _ [260, 103, 62, 105, 106, 5, 107, 261, 262, 263, 61, 264, 265, 266, 68, 267, 268, 66, 69, 269, 270, 271, 272, 70, 273, 274, 275, 276, 71, 277, 278, 279, 280, 281, 282, 283, 284, 285, 108, 109, 110, 111, 466, 467, 468, 469, 470, 471, 472, 473, 497, 498, 499, 500, 501, 502, 503, 504, 505, 506, 507, 508] (by decide +kernel) (by decide +kernel)
set_option maxRecDepth 20000 in
theorem gL_law_X4_count : GoodIn wsL_law (wsV RL 91 RX4 yX4_count wsX4_count) := goodIn_app (goodIn_of _ (by decide +kernel)) ggL_law_X4_count
set_option maxRecDepth 20000 in
theorem ggL_law_X2_speed : GoodIn wsL_law wsX2_speed := goodIn_r _ [289, 16, 290, 291, 292, 15, 293, 23, 24, 294, 190, 191, 192, 464, 465, 474, 475, 476, 477, 478, 479, 480, 481, 482, 483, 484] (by decide +kernel) (by decide +kernel)
set_option maxRecDepth 20000 in
theorem gL_law_X2_speed : GoodIn wsL_law (wsV RL 92 RX2 yX2_speed wsX2_speed) := goodIn_app (goodIn_of _ (by decide +kernel)) ggL_law_X2_speed
set_option maxRecDepth 20000 in
theorem ggL_law_X4_speed : GoodIn wsL_law wsX4_speed := goodIn_r _ [298, 103, 62, 299, 300, 301, 61, 302, 68, 267, 303, 190, 191, 192, 466, 467, 468, 469, 470, 471, 472, 473, 497, 498, 499, 500, 501, 502, 503, 504, 505, 506, 507, 508] (by decide +kernel) (by decide +kernel)
set_option maxRecDepth 20000 in
theorem gL_law_X4_speed : GoodIn wsL_law (wsV RL 96 RX4 yX4_speed wsX4_speed) := goodIn_app (goodIn_of _ (by decide +kernel)) ggL_law_X4_speed
set_option maxRecDepth 20000 in
theorem ggL_law_L_pass : GoodIn wsL_law wsL_pass := goodIn_ca (goodIn_r _ [306, 78, 307, 308, 309, 2, 310, 84, 85, 16, 88, 311, 312, 313, 314, 315, 316, 317, 15, 318, 319, 320, 321, 322, 26, 32, 235, 236, 21, 238, 239, 240, 241, 33, 25, 35, 242, 243, 244, 31, 245, 49, 50, 246, 247, 191, 248, 249, 250, 251, 252, 253, 254, 255, 256, 323, 324, 325, 326, 209, 22, 210, 34, 327, 294, 190, 192, 328, 128, 129, 130, 39, 329, 132, 133, 134, 45, 48, 95, 96, 97, 98, 41, 42, 43, 330, 291, 292, 293, 23, 24, 331, 332, 333, 334, 335, 336, 337, 338, 47, 40, 339, 340, 341, 342, 28, 343, 344, 345, 346, 464, 465, 474, 475, 476, 477, 478, 479, 480, 481, 482, 483, 484, 485, 486, 487, 488, 489, 490, 491, 492, 493, 494, 495, 496] (by decide +kernel) (by decide +kernel)) (goodIn_sub (fun _ h => List.mem_append_left _ (List.mem_append_left _ (List.mem_append_right _ h))) (by decide +kernel))
set_option maxRecDepth 20000 in
theorem gL_law_L_pass : GoodIn wsL_law (va_wsS RL 97 yL_pass wsL_pass) := goodIn_app (goodIn_of _ (by decide +kernel)) ggL_law_L_pass
set_option maxRecDepth 20000 in
theorem ggL_law_X4_pass : GoodIn wsL_law wsX4_pass := goodIn_r _ [350, 103, 62, 105, 106, 5, 107, 108, 109, 110, 111, 351, 270, 271, 61, 272, 66, 70, 352, 353, 354, 355, 356, 357, 358, 359, 69, 72, 73, 265, 71, 267, 360, 247, 191, 248, 303, 190, 192, 277, 278, 279, 280, 268, 281, 282, 283, 284, 285, 361, 362, 363, 364, 266, 365, 300, 301, 302, 68, 466, 467, 468, 469, 470, 471, 472, 473, 497, 498, 499, 500, 501, 502, 503, 504, 505, 506, 507, 508] (by decide +kernel) (by decide +kernel)
set_option maxRecDepth 20000 in
theorem gL_law_X4_pass : GoodIn wsL_law (wsV RL 99 RX4 yX4_pass wsX4_pass) := goodIn_app (goodIn_of _ (by decide +kernel)) ggL_law_X4_pass
set_option maxRecDepth 20000 in
theorem ggL_law_L_when : GoodIn wsL_law wsL_when := goodIn_ca (goodIn_r _ [368, 119, 369, 370, 371, 2, 372, 124, 125, 16, 88, 17, 126, 127, 128, 129, 31, 130, 39, 373, 374, 375, 15, 376, 21, 22, 23, 24, 25, 26, 28, 377, 378, 379, 380, 32, 33, 34, 35, 381, 382, 383, 384, 40, 41, 42, 43, 385, 44, 45, 46, 47, 48, 49, 50, 386, 320, 321, 322, 235, 236, 238, 239, 240, 241, 242, 243, 244, 245, 246, 247, 191, 248, 249, 250, 251, 252, 253, 254, 255, 256, 323, 324, 325, 326, 209, 210, 327, 294, 190, 192, 328, 329, 132, 133, 134, 95, 96, 97, 98, 330, 291, 292, 293, 331, 332, 333, 334, 335, 336, 337, 338, 339, 340, 341, 342, 343, 344, 345, 346, 464, 465, 474, 475, 476, 477, 478, 479, 480, 481, 482, 483, 484, 485, 486, 487, 488, 489, 490, 491, 492, 493, 494, 495, 496] (by decide +kernel) (by decide +kernel)) (goodIn_sub (fun _ h => List.mem_append_right _ h) (by decide +kernel))
set_option maxRecDepth 20000 in
theorem gL_law_L_when : GoodIn wsL_law (va_wsS RL 100 yL_when wsL_when) := goodIn_app (goodIn_of _ (by decide +kernel)) ggL_law_L_when
set_option maxRecDepth 20000 in
theorem ggL_law_X4_when : GoodIn wsL_law wsX4_when := goodIn_r _ [390, 103, 63, 62, 143, 144, 145, 5, 146, 104, 105, 106, 107, 108, 109, 110, 111, 391, 392, 393, 61, 394, 265, 266, 68, 267, 268, 69, 281, 70, 71, 72, 73, 395, 396, 397, 398, 399, 378, 379, 380, 400, 357, 358, 359, 66, 360, 247, 191, 248, 303, 190, 192, 277, 278, 279, 280, 282, 283, 284, 285, 361, 362, 363, 364, 365, 300, 301, 302, 466, 467, 468, 469, 470, 471, 472, 473, 497, 498, 499, 500, 501, 502, 503, 504, 505, 506, 507, 508] (by decide +kernel) (by decide +kernel)
set_option maxRecDepth 20000 in
theorem gL_law_X4_when : GoodIn wsL_law (wsV RL 102 RX4 yX4_when wsX4_when) := goodIn_app (goodIn_of _ (by decide +kernel)) ggL_law_X4_when
set_option maxRecDepth 20000 in
theorem ggL_law_L_foresee : GoodIn wsL_law wsL_foresee := goodIn_ca (goodIn_ca (goodIn_r _ [403, 78, 119, 404, 405, 406, 2, 407, 84, 85, 124, 125, 17, 16, 88, 311, 408, 166, 188, 312, 313, 314, 373, 374, 375, 15, 376, 21, 22, 23, 24, 25, 26, 28, 377, 378, 379, 380, 32, 33, 34, 35, 381, 382, 383, 31, 384, 39, 40, 41, 42, 43, 385, 44, 45, 46, 47, 48, 49, 50, 315, 316, 317, 318, 319, 320, 321, 322, 235, 236, 238, 239, 240, 241, 242, 243, 244, 245, 246, 247, 191, 248, 249, 250, 251, 252, 253, 254, 255, 256, 323, 324, 325, 326, 209, 210, 327, 294, 190, 192, 328, 128, 129, 130, 329, 132, 133, 134, 95, 96, 97, 98, 330, 291, 292, 293, 331, 332, 333, 334, 335, 336, 337, 338, 339, 340, 341, 342, 343, 344, 345, 346, 464, 465, 474, 475, 476, 477, 478, 479, 480, 481, 482, 483, 484, 485, 486, 487, 488, 489, 490, 491, 492, 493, 494, 495, 496] (by decide +kernel) (by decide +kernel)) (goodIn_sub (fun _ h => List.mem_append_left _ (List.mem_append_left _ (List.mem_append_right _ h))) (by decide +kernel))) (goodIn_sub (fun _ h => List.mem_append_right _ h) (by decide +kernel))
set_option maxRecDepth 20000 in
theorem gL_law_L_foresee : GoodIn wsL_law (va_wsS RL 103 yL_foresee wsL_foresee) := goodIn_app (goodIn_of _ (by decide +kernel)) ggL_law_L_foresee
set_option maxRecDepth 20000 in
theorem ggL_law_X4_foresee : GoodIn wsL_law wsX4_foresee := goodIn_r _ [412, 103, 63, 62, 105, 106, 5, 107, 108, 109, 110, 111, 391, 392, 393, 61, 394, 265, 266, 68, 267, 268, 69, 281, 70, 71, 72, 73, 395, 396, 397, 398, 399, 378, 379, 380, 352, 353, 354, 355, 356, 357, 358, 359, 66, 360, 247, 191, 248, 303, 190, 192, 277, 278, 279, 280, 282, 283, 284, 285, 361, 362, 363, 364, 365, 300, 301, 302, 351, 270, 271, 272, 413, 274, 275, 276, 466, 467, 468, 469, 470, 471, 472, 473, 497, 498, 499, 500, 501, 502, 503, 504, 505, 506, 507, 508] (by decide +kernel) (by decide +kernel)
set_option maxRecDepth 20000 in
theorem gL_law_X4_foresee : GoodIn wsL_law (wsV RL 105 RX4 yX4_foresee wsX4_foresee) := goodIn_app (goodIn_of _ (by decide +kernel)) ggL_law_X4_foresee
set_option maxRecDepth 20000 in
theorem ggL_law_L_bestCode : GoodIn wsL_law wsL_bestCode := goodIn_ca (goodIn_r _ [416, 78, 417, 418, 419, 2, 420, 84, 85, 16, 167, 312, 313, 314, 421, 422, 423, 424, 17, 154, 408, 373, 374, 375, 15, 376, 21, 22, 23, 24, 25, 26, 28, 377, 378, 379, 380, 32, 33, 34, 35, 381, 382, 383, 31, 384, 39, 40, 41, 42, 43, 385, 44, 45, 46, 47, 48, 49, 50, 315, 316, 317, 318, 319, 320, 321, 322, 235, 236, 238, 239, 240, 241, 242, 243, 244, 245, 246, 247, 191, 248, 249, 250, 251, 252, 253, 254, 255, 256, 323, 324, 325, 326, 209, 210, 327, 294, 190, 192, 328, 128, 129, 130, 329, 132, 133, 134, 95, 96, 97, 98, 330, 291, 292, 293, 331, 332, 333, 334, 335, 336, 337, 338, 339, 340, 341, 342, 343, 344, 345, 346, 464, 465, 474, 475, 476, 477, 478, 479, 480, 481, 482, 483, 484, 485, 486, 487, 488, 489, 490, 491, 492, 493, 494, 495, 496] (by decide +kernel) (by decide +kernel)) (goodIn_sub (fun _ h => List.mem_append_left _ (List.mem_append_left _ (List.mem_append_right _ h))) (by decide +kernel))
set_option maxRecDepth 20000 in
theorem gL_law_L_bestCode : GoodIn wsL_law (va_wsS RL 106 yL_bestCode wsL_bestCode) := goodIn_app (goodIn_of _ (by decide +kernel)) ggL_law_L_bestCode
set_option maxRecDepth 20000 in
theorem ggL_law_X4_bestCode : GoodIn wsL_law wsX4_bestCode := goodIn_r _ [428, 103, 105, 106, 5, 107, 429, 430, 431, 432, 63, 62, 391, 392, 393, 61, 394, 265, 266, 68, 267, 268, 69, 281, 70, 71, 72, 73, 395, 396, 397, 398, 399, 378, 379, 380, 352, 353, 354, 355, 356, 357, 358, 359, 66, 360, 247, 191, 248, 303, 190, 192, 277, 278, 279, 280, 282, 283, 284, 285, 361, 362, 363, 364, 365, 300, 301, 302, 413, 274, 275, 276, 108, 109, 110, 111, 466, 467, 468, 469, 470, 471, 472, 473, 497, 498, 499, 500, 501, 502, 503, 504, 505, 506, 507, 508] (by decide +kernel) (by decide +kernel)
set_option maxRecDepth 20000 in
theorem gL_law_X4_bestCode : GoodIn wsL_law (wsV RL 108 RX4 yX4_bestCode wsX4_bestCode) := goodIn_app (goodIn_of _ (by decide +kernel)) ggL_law_X4_bestCode
set_option maxRecDepth 20000 in
theorem ggL_law_L_bestPoise : GoodIn wsL_law wsL_bestPoise := goodIn_ca (goodIn_r _ [435, 78, 436, 437, 438, 2, 439, 84, 85, 16, 154, 312, 313, 314, 421, 422, 423, 424, 17, 167, 408, 373, 374, 375, 15, 376, 21, 22, 23, 24, 25, 26, 28, 377, 378, 379, 380, 32, 33, 34, 35, 381, 382, 383, 31, 384, 39, 40, 41, 42, 43, 385, 44, 45, 46, 47, 48, 49, 50, 315, 316, 317, 318, 319, 320, 321, 322, 235, 236, 238, 239, 240, 241, 242, 243, 244, 245, 246, 247, 191, 248, 249, 250, 251, 252, 253, 254, 255, 256, 323, 324, 325, 326, 209, 210, 327, 294, 190, 192, 328, 128, 129, 130, 329, 132, 133, 134, 95, 96, 97, 98, 330, 291, 292, 293, 331, 332, 333, 334, 335, 336, 337, 338, 339, 340, 341, 342, 343, 344, 345, 346, 464, 465, 474, 475, 476, 477, 478, 479, 480, 481, 482, 483, 484, 485, 486, 487, 488, 489, 490, 491, 492, 493, 494, 495, 496] (by decide +kernel) (by decide +kernel)) (goodIn_sub (fun _ h => List.mem_append_left _ (List.mem_append_left _ (List.mem_append_right _ h))) (by decide +kernel))
set_option maxRecDepth 20000 in
theorem gL_law_L_bestPoise : GoodIn wsL_law (va_wsS RL 109 yL_bestPoise wsL_bestPoise) := goodIn_app (goodIn_of _ (by decide +kernel)) ggL_law_L_bestPoise
set_option maxRecDepth 20000 in
theorem ggL_law_X4_bestPoise : GoodIn wsL_law wsX4_bestPoise := goodIn_r _ [443, 103, 105, 106, 5, 107, 429, 430, 431, 432, 63, 62, 391, 392, 393, 61, 394, 265, 266, 68, 267, 268, 69, 281, 70, 71, 72, 73, 395, 396, 397, 398, 399, 378, 379, 380, 352, 353, 354, 355, 356, 357, 358, 359, 66, 360, 247, 191, 248, 303, 190, 192, 277, 278, 279, 280, 282, 283, 284, 285, 361, 362, 363, 364, 365, 300, 301, 302, 413, 274, 275, 276, 108, 109, 110, 111, 466, 467, 468, 469, 470, 471, 472, 473, 497, 498, 499, 500, 501, 502, 503, 504, 505, 506, 507, 508] (by decide +kernel) (by decide +kernel)
set_option maxRecDepth 20000 in
theorem gL_law_X4_bestPoise : GoodIn wsL_law (wsV RL 111 RX4 yX4_bestPoise wsX4_bestPoise) := goodIn_app (goodIn_of _ (by decide +kernel)) ggL_law_X4_bestPoise
set_option maxRecDepth 20000 in
theorem ggL_law_X2_mean : GoodIn wsL_law wsX2_mean := goodIn_r _ [447, 16, 88, 89, 408, 464, 465, 474, 475, 476, 477, 478, 479, 480, 481, 482, 483, 484, 485, 486, 487, 488, 489, 490, 491, 492, 493, 494, 495, 496] (by decide +kernel) (by decide +kernel)
set_option maxRecDepth 20000 in
theorem gL_law_X2_mean : GoodIn wsL_law (wsV RL 112 RX2 yX2_mean wsX2_mean) := goodIn_app (goodIn_of _ (by decide +kernel)) ggL_law_X2_mean
set_option maxRecDepth 20000 in
theorem ggL_law_X4_mean : GoodIn wsL_law wsX4_mean := goodIn_r _ [451, 103, 104, 62, 413, 274, 275, 61, 276, 66, 71, 466, 467, 468, 469, 470, 471, 472, 473, 497, 498, 499, 500, 501, 502, 503, 504, 505, 506, 507, 508] (by decide +kernel) (by decide +kernel)
set_option maxRecDepth 20000 in
theorem gL_law_X4_mean : GoodIn wsL_law (wsV RL 116 RX4 yX4_mean wsX4_mean) := goodIn_app (goodIn_of _ (by decide +kernel)) ggL_law_X4_mean
set_option maxRecDepth 20000 in
theorem ggL_law_X2_digest : GoodIn wsL_law wsX2_digest := goodIn_r _ [455, 456, 457, 16, 179, 88, 89, 230, 231, 232, 15, 233, 21, 22, 23, 24, 25, 32, 234, 235, 236, 237, 26, 33, 238, 239, 240, 241, 35, 242, 243, 244, 31, 245, 49, 50, 246, 247, 191, 248, 249, 250, 251, 252, 253, 254, 255, 256, 205, 206, 207, 208, 209, 210, 211, 212, 34, 213, 214, 136, 137, 138, 45, 48, 46, 464, 465, 474, 475, 476, 477, 478, 479, 480, 481, 482, 483, 484, 485, 486, 487, 488, 489, 490, 491, 492, 493, 494, 495, 496] (by decide +kernel) (by decide +kernel)
set_option maxRecDepth 20000 in
theorem gL_law_X2_digest : GoodIn wsL_law (wsV RL 117 RX2 yX2_digest wsX2_digest) := goodIn_app (goodIn_of _ (by decide +kernel)) ggL_law_X2_digest
set_option maxRecDepth 20000 in
theorem ggL_law_X4_digest : GoodIn wsL_law wsX4_digest := goodIn_r _ [461, 103, 462, 463, 62, 58, 104, 261, 262, 263, 61, 264, 265, 266, 68, 267, 268, 66, 69, 269, 270, 271, 272, 70, 273, 274, 275, 276, 71, 277, 278, 279, 280, 281, 282, 283, 284, 285, 219, 220, 221, 5, 222, 27, 55, 56, 57, 466, 467, 468, 469, 470, 471, 472, 473, 497, 498, 499, 500, 501, 502, 503, 504, 505, 506, 507, 508] (by decide +kernel) (by decide +kernel)
set_option maxRecDepth 20000 in
theorem gL_law_X4_digest : GoodIn wsL_law (wsV RL 121 RX4 yX4_digest wsX4_digest) := goodIn_app (goodIn_of _ (by decide +kernel)) ggL_law_X4_digest
theorem dL_law_0 : decode cL_law 0 = .ok (.new 8, 3) := by decide +kernel
theorem dL_law_3 : decode cL_law 3 = .ok (.dup, 1) := by decide +kernel
theorem dL_law_4 : decode cL_law 4 = .ok (.invokespecial 54, 3) := by decide +kernel
theorem dL_law_7 : decode cL_law 7 = .ok (.astore_n 1, 1) := by decide +kernel
theorem dL_law_8 : decode cL_law 8 = .ok (.new 55, 3) := by decide +kernel
theorem dL_law_11 : decode cL_law 11 = .ok (.dup, 1) := by decide +kernel
theorem dL_law_12 : decode cL_law 12 = .ok (.invokespecial 57, 3) := by decide +kernel
theorem dL_law_15 : decode cL_law 15 = .ok (.astore_n 2, 1) := by decide +kernel
theorem dL_law_16 : decode cL_law 16 = .ok (.iconst 1, 1) := by decide +kernel
theorem dL_law_17 : decode cL_law 17 = .ok (.newarray .long, 2) := by decide +kernel
theorem dL_law_19 : decode cL_law 19 = .ok (.astore_n 3, 1) := by decide +kernel
theorem dL_law_20 : decode cL_law 20 = .ok (.iconst 0, 1) := by decide +kernel
theorem dL_law_21 : decode cL_law 21 = .ok (.istore 4, 2) := by decide +kernel
theorem dL_law_23 : decode cL_law 23 = .ok (.iload 4, 2) := by decide +kernel
theorem dL_law_25 : decode cL_law 25 = .ok (.aload_n 0, 1) := by decide +kernel
theorem dL_law_26 : decode cL_law 26 = .ok (.arraylength, 1) := by decide +kernel
theorem dL_law_27 : decode cL_law 27 = .ok (.iconst 3, 1) := by decide +kernel
theorem dL_law_28 : decode cL_law 28 = .ok (.isub, 1) := by decide +kernel
theorem dL_law_29 : decode cL_law 29 = .ok (.if_icmp .gt 938, 3) := by decide +kernel
theorem dL_law_32 : decode cL_law 32 = .ok (.aload_n 0, 1) := by decide +kernel
theorem dL_law_33 : decode cL_law 33 = .ok (.iload 4, 2) := by decide +kernel
theorem dL_law_35 : decode cL_law 35 = .ok (.iaload, 1) := by decide +kernel
theorem dL_law_36 : decode cL_law 36 = .ok (.bipush 15, 2) := by decide +kernel
theorem dL_law_38 : decode cL_law 38 = .ok (.iand, 1) := by decide +kernel
theorem dL_law_39 : decode cL_law 39 = .ok (.tableswitch 922 0 15 #[77, 161, 217, 273, 329, 397, 410, 478, 534, 575, 631, 687, 755, 811, 867, 908], 77) := by decide +kernel
theorem dL_law_116 : decode cL_law 116 = .ok (.aload_n 1, 1) := by decide +kernel
theorem dL_law_117 : decode cL_law 117 = .ok (.aload_n 0, 1) := by decide +kernel
theorem dL_law_118 : decode cL_law 118 = .ok (.iload 4, 2) := by decide +kernel
theorem dL_law_120 : decode cL_law 120 = .ok (.iconst 1, 1) := by decide +kernel
theorem dL_law_121 : decode cL_law 121 = .ok (.iadd, 1) := by decide +kernel
theorem dL_law_122 : decode cL_law 122 = .ok (.iaload, 1) := by decide +kernel
theorem dL_law_123 : decode cL_law 123 = .ok (.ifCond .eq 7, 3) := by decide +kernel
theorem dL_law_126 : decode cL_law 126 = .ok (.iconst 1, 1) := by decide +kernel
theorem dL_law_127 : decode cL_law 127 = .ok (.goto 4, 3) := by decide +kernel
theorem dL_law_130 : decode cL_law 130 = .ok (.iconst 0, 1) := by decide +kernel
theorem dL_law_131 : decode cL_law 131 = .ok (.aload_n 0, 1) := by decide +kernel
theorem dL_law_132 : decode cL_law 132 = .ok (.iload 4, 2) := by decide +kernel
theorem dL_law_134 : decode cL_law 134 = .ok (.iconst 2, 1) := by decide +kernel
theorem dL_law_135 : decode cL_law 135 = .ok (.iadd, 1) := by decide +kernel
theorem dL_law_136 : decode cL_law 136 = .ok (.iaload, 1) := by decide +kernel
theorem dL_law_137 : decode cL_law 137 = .ok (.aload_n 3, 1) := by decide +kernel
theorem dL_law_138 : decode cL_law 138 = .ok (.invokestatic 58, 3) := by decide +kernel
theorem dL_law_141 : decode cL_law 141 = .ok (.istore 5, 2) := by decide +kernel
theorem dL_law_143 : decode cL_law 143 = .ok (.aload_n 2, 1) := by decide +kernel
theorem dL_law_144 : decode cL_law 144 = .ok (.aload_n 0, 1) := by decide +kernel
theorem dL_law_145 : decode cL_law 145 = .ok (.iload 4, 2) := by decide +kernel
theorem dL_law_147 : decode cL_law 147 = .ok (.iconst 1, 1) := by decide +kernel
theorem dL_law_148 : decode cL_law 148 = .ok (.iadd, 1) := by decide +kernel
theorem dL_law_149 : decode cL_law 149 = .ok (.iaload, 1) := by decide +kernel
theorem dL_law_150 : decode cL_law 150 = .ok (.ifCond .eq 7, 3) := by decide +kernel
theorem dL_law_153 : decode cL_law 153 = .ok (.iconst 1, 1) := by decide +kernel
theorem dL_law_154 : decode cL_law 154 = .ok (.goto 4, 3) := by decide +kernel
theorem dL_law_157 : decode cL_law 157 = .ok (.iconst 0, 1) := by decide +kernel
theorem dL_law_158 : decode cL_law 158 = .ok (.aload_n 0, 1) := by decide +kernel
theorem dL_law_159 : decode cL_law 159 = .ok (.iload 4, 2) := by decide +kernel
theorem dL_law_161 : decode cL_law 161 = .ok (.iconst 2, 1) := by decide +kernel
theorem dL_law_162 : decode cL_law 162 = .ok (.iadd, 1) := by decide +kernel
theorem dL_law_163 : decode cL_law 163 = .ok (.iaload, 1) := by decide +kernel
theorem dL_law_164 : decode cL_law 164 = .ok (.invokevirtual 63, 3) := by decide +kernel
theorem dL_law_167 : decode cL_law 167 = .ok (.istore 6, 2) := by decide +kernel
theorem dL_law_169 : decode cL_law 169 = .ok (.aload_n 2, 1) := by decide +kernel
theorem dL_law_170 : decode cL_law 170 = .ok (.invokevirtual 64, 3) := by decide +kernel
theorem dL_law_173 : decode cL_law 173 = .ok (.iload 5, 2) := by decide +kernel
theorem dL_law_175 : decode cL_law 175 = .ok (.if_icmp .eq 5, 3) := by decide +kernel
theorem dL_law_178 : decode cL_law 178 = .ok (.iconst 0, 1) := by decide +kernel
theorem dL_law_179 : decode cL_law 179 = .ok (.ireturn, 1) := by decide +kernel
theorem dL_law_180 : decode cL_law 180 = .ok (.iload 5, 2) := by decide +kernel
theorem dL_law_182 : decode cL_law 182 = .ok (.ifCond .ne 15, 3) := by decide +kernel
theorem dL_law_185 : decode cL_law 185 = .ok (.aload_n 3, 1) := by decide +kernel
theorem dL_law_186 : decode cL_law 186 = .ok (.iconst 0, 1) := by decide +kernel
theorem dL_law_187 : decode cL_law 187 = .ok (.laload, 1) := by decide +kernel
theorem dL_law_188 : decode cL_law 188 = .ok (.iload 6, 2) := by decide +kernel
theorem dL_law_190 : decode cL_law 190 = .ok (.i2l, 1) := by decide +kernel
theorem dL_law_191 : decode cL_law 191 = .ok (.lcmp, 1) := by decide +kernel
theorem dL_law_192 : decode cL_law 192 = .ok (.ifCond .eq 5, 3) := by decide +kernel
theorem dL_law_195 : decode cL_law 195 = .ok (.iconst 0, 1) := by decide +kernel
theorem dL_law_196 : decode cL_law 196 = .ok (.ireturn, 1) := by decide +kernel
theorem dL_law_197 : decode cL_law 197 = .ok (.goto 764, 3) := by decide +kernel
theorem dL_law_200 : decode cL_law 200 = .ok (.aload_n 1, 1) := by decide +kernel
theorem dL_law_201 : decode cL_law 201 = .ok (.aload_n 0, 1) := by decide +kernel
theorem dL_law_202 : decode cL_law 202 = .ok (.iload 4, 2) := by decide +kernel
theorem dL_law_204 : decode cL_law 204 = .ok (.iconst 1, 1) := by decide +kernel
theorem dL_law_205 : decode cL_law 205 = .ok (.iadd, 1) := by decide +kernel
theorem dL_law_206 : decode cL_law 206 = .ok (.iaload, 1) := by decide +kernel
theorem dL_law_207 : decode cL_law 207 = .ok (.aload_n 3, 1) := by decide +kernel
theorem dL_law_208 : decode cL_law 208 = .ok (.invokestatic 68, 3) := by decide +kernel
theorem dL_law_211 : decode cL_law 211 = .ok (.istore 5, 2) := by decide +kernel
theorem dL_law_213 : decode cL_law 213 = .ok (.aload_n 2, 1) := by decide +kernel
theorem dL_law_214 : decode cL_law 214 = .ok (.aload_n 0, 1) := by decide +kernel
theorem dL_law_215 : decode cL_law 215 = .ok (.iload 4, 2) := by decide +kernel
theorem dL_law_217 : decode cL_law 217 = .ok (.iconst 1, 1) := by decide +kernel
theorem dL_law_218 : decode cL_law 218 = .ok (.iadd, 1) := by decide +kernel
theorem dL_law_219 : decode cL_law 219 = .ok (.iaload, 1) := by decide +kernel
theorem dL_law_220 : decode cL_law 220 = .ok (.invokevirtual 71, 3) := by decide +kernel
theorem dL_law_223 : decode cL_law 223 = .ok (.istore 6, 2) := by decide +kernel
theorem dL_law_225 : decode cL_law 225 = .ok (.aload_n 2, 1) := by decide +kernel
theorem dL_law_226 : decode cL_law 226 = .ok (.invokevirtual 64, 3) := by decide +kernel
theorem dL_law_229 : decode cL_law 229 = .ok (.iload 5, 2) := by decide +kernel
theorem dL_law_231 : decode cL_law 231 = .ok (.if_icmp .eq 5, 3) := by decide +kernel
theorem dL_law_234 : decode cL_law 234 = .ok (.iconst 0, 1) := by decide +kernel
theorem dL_law_235 : decode cL_law 235 = .ok (.ireturn, 1) := by decide +kernel
theorem dL_law_236 : decode cL_law 236 = .ok (.iload 5, 2) := by decide +kernel
theorem dL_law_238 : decode cL_law 238 = .ok (.ifCond .ne 15, 3) := by decide +kernel
theorem dL_law_241 : decode cL_law 241 = .ok (.aload_n 3, 1) := by decide +kernel
theorem dL_law_242 : decode cL_law 242 = .ok (.iconst 0, 1) := by decide +kernel
theorem dL_law_243 : decode cL_law 243 = .ok (.laload, 1) := by decide +kernel
theorem dL_law_244 : decode cL_law 244 = .ok (.iload 6, 2) := by decide +kernel
theorem dL_law_246 : decode cL_law 246 = .ok (.i2l, 1) := by decide +kernel
theorem dL_law_247 : decode cL_law 247 = .ok (.lcmp, 1) := by decide +kernel
theorem dL_law_248 : decode cL_law 248 = .ok (.ifCond .eq 5, 3) := by decide +kernel
theorem dL_law_251 : decode cL_law 251 = .ok (.iconst 0, 1) := by decide +kernel
theorem dL_law_252 : decode cL_law 252 = .ok (.ireturn, 1) := by decide +kernel
theorem dL_law_253 : decode cL_law 253 = .ok (.goto 708, 3) := by decide +kernel
theorem dL_law_256 : decode cL_law 256 = .ok (.aload_n 1, 1) := by decide +kernel
theorem dL_law_257 : decode cL_law 257 = .ok (.aload_n 0, 1) := by decide +kernel
theorem dL_law_258 : decode cL_law 258 = .ok (.iload 4, 2) := by decide +kernel
theorem dL_law_260 : decode cL_law 260 = .ok (.iconst 1, 1) := by decide +kernel
theorem dL_law_261 : decode cL_law 261 = .ok (.iadd, 1) := by decide +kernel
theorem dL_law_262 : decode cL_law 262 = .ok (.iaload, 1) := by decide +kernel
theorem dL_law_263 : decode cL_law 263 = .ok (.aload_n 3, 1) := by decide +kernel
theorem dL_law_264 : decode cL_law 264 = .ok (.invokestatic 72, 3) := by decide +kernel
theorem dL_law_267 : decode cL_law 267 = .ok (.istore 5, 2) := by decide +kernel
theorem dL_law_269 : decode cL_law 269 = .ok (.aload_n 2, 1) := by decide +kernel
theorem dL_law_270 : decode cL_law 270 = .ok (.aload_n 0, 1) := by decide +kernel
theorem dL_law_271 : decode cL_law 271 = .ok (.iload 4, 2) := by decide +kernel
theorem dL_law_273 : decode cL_law 273 = .ok (.iconst 1, 1) := by decide +kernel
theorem dL_law_274 : decode cL_law 274 = .ok (.iadd, 1) := by decide +kernel
theorem dL_law_275 : decode cL_law 275 = .ok (.iaload, 1) := by decide +kernel
theorem dL_law_276 : decode cL_law 276 = .ok (.invokevirtual 74, 3) := by decide +kernel
theorem dL_law_279 : decode cL_law 279 = .ok (.istore 6, 2) := by decide +kernel
theorem dL_law_281 : decode cL_law 281 = .ok (.aload_n 2, 1) := by decide +kernel
theorem dL_law_282 : decode cL_law 282 = .ok (.invokevirtual 64, 3) := by decide +kernel
theorem dL_law_285 : decode cL_law 285 = .ok (.iload 5, 2) := by decide +kernel
theorem dL_law_287 : decode cL_law 287 = .ok (.if_icmp .eq 5, 3) := by decide +kernel
theorem dL_law_290 : decode cL_law 290 = .ok (.iconst 0, 1) := by decide +kernel
theorem dL_law_291 : decode cL_law 291 = .ok (.ireturn, 1) := by decide +kernel
theorem dL_law_292 : decode cL_law 292 = .ok (.iload 5, 2) := by decide +kernel
theorem dL_law_294 : decode cL_law 294 = .ok (.ifCond .ne 15, 3) := by decide +kernel
theorem dL_law_297 : decode cL_law 297 = .ok (.aload_n 3, 1) := by decide +kernel
theorem dL_law_298 : decode cL_law 298 = .ok (.iconst 0, 1) := by decide +kernel
theorem dL_law_299 : decode cL_law 299 = .ok (.laload, 1) := by decide +kernel
theorem dL_law_300 : decode cL_law 300 = .ok (.iload 6, 2) := by decide +kernel
theorem dL_law_302 : decode cL_law 302 = .ok (.i2l, 1) := by decide +kernel
theorem dL_law_303 : decode cL_law 303 = .ok (.lcmp, 1) := by decide +kernel
theorem dL_law_304 : decode cL_law 304 = .ok (.ifCond .eq 5, 3) := by decide +kernel
theorem dL_law_307 : decode cL_law 307 = .ok (.iconst 0, 1) := by decide +kernel
theorem dL_law_308 : decode cL_law 308 = .ok (.ireturn, 1) := by decide +kernel
theorem dL_law_309 : decode cL_law 309 = .ok (.goto 652, 3) := by decide +kernel
theorem dL_law_312 : decode cL_law 312 = .ok (.aload_n 1, 1) := by decide +kernel
theorem dL_law_313 : decode cL_law 313 = .ok (.aload_n 0, 1) := by decide +kernel
theorem dL_law_314 : decode cL_law 314 = .ok (.iload 4, 2) := by decide +kernel
theorem dL_law_316 : decode cL_law 316 = .ok (.iconst 1, 1) := by decide +kernel
theorem dL_law_317 : decode cL_law 317 = .ok (.iadd, 1) := by decide +kernel
theorem dL_law_318 : decode cL_law 318 = .ok (.iaload, 1) := by decide +kernel
theorem dL_law_319 : decode cL_law 319 = .ok (.aload_n 3, 1) := by decide +kernel
theorem dL_law_320 : decode cL_law 320 = .ok (.invokestatic 75, 3) := by decide +kernel
theorem dL_law_323 : decode cL_law 323 = .ok (.istore 5, 2) := by decide +kernel
theorem dL_law_325 : decode cL_law 325 = .ok (.aload_n 2, 1) := by decide +kernel
theorem dL_law_326 : decode cL_law 326 = .ok (.aload_n 0, 1) := by decide +kernel
theorem dL_law_327 : decode cL_law 327 = .ok (.iload 4, 2) := by decide +kernel
theorem dL_law_329 : decode cL_law 329 = .ok (.iconst 1, 1) := by decide +kernel
theorem dL_law_330 : decode cL_law 330 = .ok (.iadd, 1) := by decide +kernel
theorem dL_law_331 : decode cL_law 331 = .ok (.iaload, 1) := by decide +kernel
theorem dL_law_332 : decode cL_law 332 = .ok (.invokevirtual 77, 3) := by decide +kernel
theorem dL_law_335 : decode cL_law 335 = .ok (.istore 6, 2) := by decide +kernel
theorem dL_law_337 : decode cL_law 337 = .ok (.aload_n 2, 1) := by decide +kernel
theorem dL_law_338 : decode cL_law 338 = .ok (.invokevirtual 64, 3) := by decide +kernel
theorem dL_law_341 : decode cL_law 341 = .ok (.iload 5, 2) := by decide +kernel
theorem dL_law_343 : decode cL_law 343 = .ok (.if_icmp .eq 5, 3) := by decide +kernel
theorem dL_law_346 : decode cL_law 346 = .ok (.iconst 0, 1) := by decide +kernel
theorem dL_law_347 : decode cL_law 347 = .ok (.ireturn, 1) := by decide +kernel
theorem dL_law_348 : decode cL_law 348 = .ok (.iload 5, 2) := by decide +kernel
theorem dL_law_350 : decode cL_law 350 = .ok (.ifCond .ne 15, 3) := by decide +kernel
theorem dL_law_353 : decode cL_law 353 = .ok (.aload_n 3, 1) := by decide +kernel
theorem dL_law_354 : decode cL_law 354 = .ok (.iconst 0, 1) := by decide +kernel
theorem dL_law_355 : decode cL_law 355 = .ok (.laload, 1) := by decide +kernel
theorem dL_law_356 : decode cL_law 356 = .ok (.iload 6, 2) := by decide +kernel
theorem dL_law_358 : decode cL_law 358 = .ok (.i2l, 1) := by decide +kernel
theorem dL_law_359 : decode cL_law 359 = .ok (.lcmp, 1) := by decide +kernel
theorem dL_law_360 : decode cL_law 360 = .ok (.ifCond .eq 5, 3) := by decide +kernel
theorem dL_law_363 : decode cL_law 363 = .ok (.iconst 0, 1) := by decide +kernel
theorem dL_law_364 : decode cL_law 364 = .ok (.ireturn, 1) := by decide +kernel
theorem dL_law_365 : decode cL_law 365 = .ok (.goto 596, 3) := by decide +kernel
theorem dL_law_368 : decode cL_law 368 = .ok (.aload_n 1, 1) := by decide +kernel
theorem dL_law_369 : decode cL_law 369 = .ok (.aload_n 0, 1) := by decide +kernel
theorem dL_law_370 : decode cL_law 370 = .ok (.iload 4, 2) := by decide +kernel
theorem dL_law_372 : decode cL_law 372 = .ok (.iconst 1, 1) := by decide +kernel
theorem dL_law_373 : decode cL_law 373 = .ok (.iadd, 1) := by decide +kernel
theorem dL_law_374 : decode cL_law 374 = .ok (.iaload, 1) := by decide +kernel
theorem dL_law_375 : decode cL_law 375 = .ok (.aload_n 0, 1) := by decide +kernel
theorem dL_law_376 : decode cL_law 376 = .ok (.iload 4, 2) := by decide +kernel
theorem dL_law_378 : decode cL_law 378 = .ok (.iconst 2, 1) := by decide +kernel
theorem dL_law_379 : decode cL_law 379 = .ok (.iadd, 1) := by decide +kernel
theorem dL_law_380 : decode cL_law 380 = .ok (.iaload, 1) := by decide +kernel
theorem dL_law_381 : decode cL_law 381 = .ok (.aload_n 3, 1) := by decide +kernel
theorem dL_law_382 : decode cL_law 382 = .ok (.invokestatic 78, 3) := by decide +kernel
theorem dL_law_385 : decode cL_law 385 = .ok (.istore 5, 2) := by decide +kernel
theorem dL_law_387 : decode cL_law 387 = .ok (.aload_n 2, 1) := by decide +kernel
theorem dL_law_388 : decode cL_law 388 = .ok (.aload_n 0, 1) := by decide +kernel
theorem dL_law_389 : decode cL_law 389 = .ok (.iload 4, 2) := by decide +kernel
theorem dL_law_391 : decode cL_law 391 = .ok (.iconst 1, 1) := by decide +kernel
theorem dL_law_392 : decode cL_law 392 = .ok (.iadd, 1) := by decide +kernel
theorem dL_law_393 : decode cL_law 393 = .ok (.iaload, 1) := by decide +kernel
theorem dL_law_394 : decode cL_law 394 = .ok (.aload_n 0, 1) := by decide +kernel
theorem dL_law_395 : decode cL_law 395 = .ok (.iload 4, 2) := by decide +kernel
theorem dL_law_397 : decode cL_law 397 = .ok (.iconst 2, 1) := by decide +kernel
theorem dL_law_398 : decode cL_law 398 = .ok (.iadd, 1) := by decide +kernel
theorem dL_law_399 : decode cL_law 399 = .ok (.iaload, 1) := by decide +kernel
theorem dL_law_400 : decode cL_law 400 = .ok (.invokevirtual 81, 3) := by decide +kernel
theorem dL_law_403 : decode cL_law 403 = .ok (.istore 6, 2) := by decide +kernel
theorem dL_law_405 : decode cL_law 405 = .ok (.aload_n 2, 1) := by decide +kernel
theorem dL_law_406 : decode cL_law 406 = .ok (.invokevirtual 64, 3) := by decide +kernel
theorem dL_law_409 : decode cL_law 409 = .ok (.iload 5, 2) := by decide +kernel
theorem dL_law_411 : decode cL_law 411 = .ok (.if_icmp .eq 5, 3) := by decide +kernel
theorem dL_law_414 : decode cL_law 414 = .ok (.iconst 0, 1) := by decide +kernel
theorem dL_law_415 : decode cL_law 415 = .ok (.ireturn, 1) := by decide +kernel
theorem dL_law_416 : decode cL_law 416 = .ok (.iload 5, 2) := by decide +kernel
theorem dL_law_418 : decode cL_law 418 = .ok (.ifCond .ne 15, 3) := by decide +kernel
theorem dL_law_421 : decode cL_law 421 = .ok (.aload_n 3, 1) := by decide +kernel
theorem dL_law_422 : decode cL_law 422 = .ok (.iconst 0, 1) := by decide +kernel
theorem dL_law_423 : decode cL_law 423 = .ok (.laload, 1) := by decide +kernel
theorem dL_law_424 : decode cL_law 424 = .ok (.iload 6, 2) := by decide +kernel
theorem dL_law_426 : decode cL_law 426 = .ok (.i2l, 1) := by decide +kernel
theorem dL_law_427 : decode cL_law 427 = .ok (.lcmp, 1) := by decide +kernel
theorem dL_law_428 : decode cL_law 428 = .ok (.ifCond .eq 5, 3) := by decide +kernel
theorem dL_law_431 : decode cL_law 431 = .ok (.iconst 0, 1) := by decide +kernel
theorem dL_law_432 : decode cL_law 432 = .ok (.ireturn, 1) := by decide +kernel
theorem dL_law_433 : decode cL_law 433 = .ok (.goto 528, 3) := by decide +kernel
theorem dL_law_436 : decode cL_law 436 = .ok (.aload_n 1, 1) := by decide +kernel
theorem dL_law_437 : decode cL_law 437 = .ok (.invokevirtual 82, 3) := by decide +kernel
theorem dL_law_440 : decode cL_law 440 = .ok (.aload_n 2, 1) := by decide +kernel
theorem dL_law_441 : decode cL_law 441 = .ok (.invokevirtual 85, 3) := by decide +kernel
theorem dL_law_444 : decode cL_law 444 = .ok (.if_icmp .eq 517, 3) := by decide +kernel
theorem dL_law_447 : decode cL_law 447 = .ok (.iconst 0, 1) := by decide +kernel
theorem dL_law_448 : decode cL_law 448 = .ok (.ireturn, 1) := by decide +kernel
theorem dL_law_449 : decode cL_law 449 = .ok (.aload_n 1, 1) := by decide +kernel
theorem dL_law_450 : decode cL_law 450 = .ok (.aload_n 0, 1) := by decide +kernel
theorem dL_law_451 : decode cL_law 451 = .ok (.iload 4, 2) := by decide +kernel
theorem dL_law_453 : decode cL_law 453 = .ok (.iconst 1, 1) := by decide +kernel
theorem dL_law_454 : decode cL_law 454 = .ok (.iadd, 1) := by decide +kernel
theorem dL_law_455 : decode cL_law 455 = .ok (.iaload, 1) := by decide +kernel
theorem dL_law_456 : decode cL_law 456 = .ok (.aload_n 0, 1) := by decide +kernel
theorem dL_law_457 : decode cL_law 457 = .ok (.iload 4, 2) := by decide +kernel
theorem dL_law_459 : decode cL_law 459 = .ok (.iconst 2, 1) := by decide +kernel
theorem dL_law_460 : decode cL_law 460 = .ok (.iadd, 1) := by decide +kernel
theorem dL_law_461 : decode cL_law 461 = .ok (.iaload, 1) := by decide +kernel
theorem dL_law_462 : decode cL_law 462 = .ok (.aload_n 3, 1) := by decide +kernel
theorem dL_law_463 : decode cL_law 463 = .ok (.invokestatic 86, 3) := by decide +kernel
theorem dL_law_466 : decode cL_law 466 = .ok (.istore 5, 2) := by decide +kernel
theorem dL_law_468 : decode cL_law 468 = .ok (.aload_n 2, 1) := by decide +kernel
theorem dL_law_469 : decode cL_law 469 = .ok (.aload_n 0, 1) := by decide +kernel
theorem dL_law_470 : decode cL_law 470 = .ok (.iload 4, 2) := by decide +kernel
theorem dL_law_472 : decode cL_law 472 = .ok (.iconst 1, 1) := by decide +kernel
theorem dL_law_473 : decode cL_law 473 = .ok (.iadd, 1) := by decide +kernel
theorem dL_law_474 : decode cL_law 474 = .ok (.iaload, 1) := by decide +kernel
theorem dL_law_475 : decode cL_law 475 = .ok (.aload_n 0, 1) := by decide +kernel
theorem dL_law_476 : decode cL_law 476 = .ok (.iload 4, 2) := by decide +kernel
theorem dL_law_478 : decode cL_law 478 = .ok (.iconst 2, 1) := by decide +kernel
theorem dL_law_479 : decode cL_law 479 = .ok (.iadd, 1) := by decide +kernel
theorem dL_law_480 : decode cL_law 480 = .ok (.iaload, 1) := by decide +kernel
theorem dL_law_481 : decode cL_law 481 = .ok (.invokevirtual 88, 3) := by decide +kernel
theorem dL_law_484 : decode cL_law 484 = .ok (.istore 6, 2) := by decide +kernel
theorem dL_law_486 : decode cL_law 486 = .ok (.aload_n 2, 1) := by decide +kernel
theorem dL_law_487 : decode cL_law 487 = .ok (.invokevirtual 64, 3) := by decide +kernel
theorem dL_law_490 : decode cL_law 490 = .ok (.iload 5, 2) := by decide +kernel
theorem dL_law_492 : decode cL_law 492 = .ok (.if_icmp .eq 5, 3) := by decide +kernel
theorem dL_law_495 : decode cL_law 495 = .ok (.iconst 0, 1) := by decide +kernel
theorem dL_law_496 : decode cL_law 496 = .ok (.ireturn, 1) := by decide +kernel
theorem dL_law_497 : decode cL_law 497 = .ok (.iload 5, 2) := by decide +kernel
theorem dL_law_499 : decode cL_law 499 = .ok (.ifCond .ne 15, 3) := by decide +kernel
theorem dL_law_502 : decode cL_law 502 = .ok (.aload_n 3, 1) := by decide +kernel
theorem dL_law_503 : decode cL_law 503 = .ok (.iconst 0, 1) := by decide +kernel
theorem dL_law_504 : decode cL_law 504 = .ok (.laload, 1) := by decide +kernel
theorem dL_law_505 : decode cL_law 505 = .ok (.iload 6, 2) := by decide +kernel
theorem dL_law_507 : decode cL_law 507 = .ok (.i2l, 1) := by decide +kernel
theorem dL_law_508 : decode cL_law 508 = .ok (.lcmp, 1) := by decide +kernel
theorem dL_law_509 : decode cL_law 509 = .ok (.ifCond .eq 5, 3) := by decide +kernel
theorem dL_law_512 : decode cL_law 512 = .ok (.iconst 0, 1) := by decide +kernel
theorem dL_law_513 : decode cL_law 513 = .ok (.ireturn, 1) := by decide +kernel
theorem dL_law_514 : decode cL_law 514 = .ok (.goto 447, 3) := by decide +kernel
theorem dL_law_517 : decode cL_law 517 = .ok (.aload_n 1, 1) := by decide +kernel
theorem dL_law_518 : decode cL_law 518 = .ok (.aload_n 0, 1) := by decide +kernel
theorem dL_law_519 : decode cL_law 519 = .ok (.iload 4, 2) := by decide +kernel
theorem dL_law_521 : decode cL_law 521 = .ok (.iconst 1, 1) := by decide +kernel
theorem dL_law_522 : decode cL_law 522 = .ok (.iadd, 1) := by decide +kernel
theorem dL_law_523 : decode cL_law 523 = .ok (.iaload, 1) := by decide +kernel
theorem dL_law_524 : decode cL_law 524 = .ok (.aload_n 3, 1) := by decide +kernel
theorem dL_law_525 : decode cL_law 525 = .ok (.invokestatic 89, 3) := by decide +kernel
theorem dL_law_528 : decode cL_law 528 = .ok (.istore 5, 2) := by decide +kernel
theorem dL_law_530 : decode cL_law 530 = .ok (.aload_n 2, 1) := by decide +kernel
theorem dL_law_531 : decode cL_law 531 = .ok (.aload_n 0, 1) := by decide +kernel
theorem dL_law_532 : decode cL_law 532 = .ok (.iload 4, 2) := by decide +kernel
theorem dL_law_534 : decode cL_law 534 = .ok (.iconst 1, 1) := by decide +kernel
theorem dL_law_535 : decode cL_law 535 = .ok (.iadd, 1) := by decide +kernel
theorem dL_law_536 : decode cL_law 536 = .ok (.iaload, 1) := by decide +kernel
theorem dL_law_537 : decode cL_law 537 = .ok (.invokevirtual 91, 3) := by decide +kernel
theorem dL_law_540 : decode cL_law 540 = .ok (.istore 6, 2) := by decide +kernel
theorem dL_law_542 : decode cL_law 542 = .ok (.aload_n 2, 1) := by decide +kernel
theorem dL_law_543 : decode cL_law 543 = .ok (.invokevirtual 64, 3) := by decide +kernel
theorem dL_law_546 : decode cL_law 546 = .ok (.iload 5, 2) := by decide +kernel
theorem dL_law_548 : decode cL_law 548 = .ok (.if_icmp .eq 5, 3) := by decide +kernel
theorem dL_law_551 : decode cL_law 551 = .ok (.iconst 0, 1) := by decide +kernel
theorem dL_law_552 : decode cL_law 552 = .ok (.ireturn, 1) := by decide +kernel
theorem dL_law_553 : decode cL_law 553 = .ok (.iload 5, 2) := by decide +kernel
theorem dL_law_555 : decode cL_law 555 = .ok (.ifCond .ne 15, 3) := by decide +kernel
theorem dL_law_558 : decode cL_law 558 = .ok (.aload_n 3, 1) := by decide +kernel
theorem dL_law_559 : decode cL_law 559 = .ok (.iconst 0, 1) := by decide +kernel
theorem dL_law_560 : decode cL_law 560 = .ok (.laload, 1) := by decide +kernel
theorem dL_law_561 : decode cL_law 561 = .ok (.iload 6, 2) := by decide +kernel
theorem dL_law_563 : decode cL_law 563 = .ok (.i2l, 1) := by decide +kernel
theorem dL_law_564 : decode cL_law 564 = .ok (.lcmp, 1) := by decide +kernel
theorem dL_law_565 : decode cL_law 565 = .ok (.ifCond .eq 5, 3) := by decide +kernel
theorem dL_law_568 : decode cL_law 568 = .ok (.iconst 0, 1) := by decide +kernel
theorem dL_law_569 : decode cL_law 569 = .ok (.ireturn, 1) := by decide +kernel
theorem dL_law_570 : decode cL_law 570 = .ok (.goto 391, 3) := by decide +kernel
theorem dL_law_573 : decode cL_law 573 = .ok (.aload_n 1, 1) := by decide +kernel
theorem dL_law_574 : decode cL_law 574 = .ok (.aload_n 0, 1) := by decide +kernel
theorem dL_law_575 : decode cL_law 575 = .ok (.iload 4, 2) := by decide +kernel
theorem dL_law_577 : decode cL_law 577 = .ok (.iconst 1, 1) := by decide +kernel
theorem dL_law_578 : decode cL_law 578 = .ok (.iadd, 1) := by decide +kernel
theorem dL_law_579 : decode cL_law 579 = .ok (.iaload, 1) := by decide +kernel
theorem dL_law_580 : decode cL_law 580 = .ok (.ifCond .eq 7, 3) := by decide +kernel
theorem dL_law_583 : decode cL_law 583 = .ok (.iconst 1, 1) := by decide +kernel
theorem dL_law_584 : decode cL_law 584 = .ok (.goto 4, 3) := by decide +kernel
theorem dL_law_587 : decode cL_law 587 = .ok (.iconst 0, 1) := by decide +kernel
theorem dL_law_588 : decode cL_law 588 = .ok (.invokevirtual 92, 3) := by decide +kernel
theorem dL_law_591 : decode cL_law 591 = .ok (.aload_n 2, 1) := by decide +kernel
theorem dL_law_592 : decode cL_law 592 = .ok (.aload_n 0, 1) := by decide +kernel
theorem dL_law_593 : decode cL_law 593 = .ok (.iload 4, 2) := by decide +kernel
theorem dL_law_595 : decode cL_law 595 = .ok (.iconst 1, 1) := by decide +kernel
theorem dL_law_596 : decode cL_law 596 = .ok (.iadd, 1) := by decide +kernel
theorem dL_law_597 : decode cL_law 597 = .ok (.iaload, 1) := by decide +kernel
theorem dL_law_598 : decode cL_law 598 = .ok (.ifCond .eq 7, 3) := by decide +kernel
theorem dL_law_601 : decode cL_law 601 = .ok (.iconst 1, 1) := by decide +kernel
theorem dL_law_602 : decode cL_law 602 = .ok (.goto 4, 3) := by decide +kernel
theorem dL_law_605 : decode cL_law 605 = .ok (.iconst 0, 1) := by decide +kernel
theorem dL_law_606 : decode cL_law 606 = .ok (.invokevirtual 96, 3) := by decide +kernel
theorem dL_law_609 : decode cL_law 609 = .ok (.if_icmp .eq 352, 3) := by decide +kernel
theorem dL_law_612 : decode cL_law 612 = .ok (.iconst 0, 1) := by decide +kernel
theorem dL_law_613 : decode cL_law 613 = .ok (.ireturn, 1) := by decide +kernel
theorem dL_law_614 : decode cL_law 614 = .ok (.aload_n 1, 1) := by decide +kernel
theorem dL_law_615 : decode cL_law 615 = .ok (.aload_n 0, 1) := by decide +kernel
theorem dL_law_616 : decode cL_law 616 = .ok (.iload 4, 2) := by decide +kernel
theorem dL_law_618 : decode cL_law 618 = .ok (.iconst 1, 1) := by decide +kernel
theorem dL_law_619 : decode cL_law 619 = .ok (.iadd, 1) := by decide +kernel
theorem dL_law_620 : decode cL_law 620 = .ok (.iaload, 1) := by decide +kernel
theorem dL_law_621 : decode cL_law 621 = .ok (.aload_n 3, 1) := by decide +kernel
theorem dL_law_622 : decode cL_law 622 = .ok (.invokestatic 97, 3) := by decide +kernel
theorem dL_law_625 : decode cL_law 625 = .ok (.istore 5, 2) := by decide +kernel
theorem dL_law_627 : decode cL_law 627 = .ok (.aload_n 2, 1) := by decide +kernel
theorem dL_law_628 : decode cL_law 628 = .ok (.aload_n 0, 1) := by decide +kernel
theorem dL_law_629 : decode cL_law 629 = .ok (.iload 4, 2) := by decide +kernel
theorem dL_law_631 : decode cL_law 631 = .ok (.iconst 1, 1) := by decide +kernel
theorem dL_law_632 : decode cL_law 632 = .ok (.iadd, 1) := by decide +kernel
theorem dL_law_633 : decode cL_law 633 = .ok (.iaload, 1) := by decide +kernel
theorem dL_law_634 : decode cL_law 634 = .ok (.invokevirtual 99, 3) := by decide +kernel
theorem dL_law_637 : decode cL_law 637 = .ok (.istore 6, 2) := by decide +kernel
theorem dL_law_639 : decode cL_law 639 = .ok (.aload_n 2, 1) := by decide +kernel
theorem dL_law_640 : decode cL_law 640 = .ok (.invokevirtual 64, 3) := by decide +kernel
theorem dL_law_643 : decode cL_law 643 = .ok (.iload 5, 2) := by decide +kernel
theorem dL_law_645 : decode cL_law 645 = .ok (.if_icmp .eq 5, 3) := by decide +kernel
theorem dL_law_648 : decode cL_law 648 = .ok (.iconst 0, 1) := by decide +kernel
theorem dL_law_649 : decode cL_law 649 = .ok (.ireturn, 1) := by decide +kernel
theorem dL_law_650 : decode cL_law 650 = .ok (.iload 5, 2) := by decide +kernel
theorem dL_law_652 : decode cL_law 652 = .ok (.ifCond .ne 15, 3) := by decide +kernel
theorem dL_law_655 : decode cL_law 655 = .ok (.aload_n 3, 1) := by decide +kernel
theorem dL_law_656 : decode cL_law 656 = .ok (.iconst 0, 1) := by decide +kernel
theorem dL_law_657 : decode cL_law 657 = .ok (.laload, 1) := by decide +kernel
theorem dL_law_658 : decode cL_law 658 = .ok (.iload 6, 2) := by decide +kernel
theorem dL_law_660 : decode cL_law 660 = .ok (.i2l, 1) := by decide +kernel
theorem dL_law_661 : decode cL_law 661 = .ok (.lcmp, 1) := by decide +kernel
theorem dL_law_662 : decode cL_law 662 = .ok (.ifCond .eq 5, 3) := by decide +kernel
theorem dL_law_665 : decode cL_law 665 = .ok (.iconst 0, 1) := by decide +kernel
theorem dL_law_666 : decode cL_law 666 = .ok (.ireturn, 1) := by decide +kernel
theorem dL_law_667 : decode cL_law 667 = .ok (.goto 294, 3) := by decide +kernel
theorem dL_law_670 : decode cL_law 670 = .ok (.aload_n 1, 1) := by decide +kernel
theorem dL_law_671 : decode cL_law 671 = .ok (.aload_n 0, 1) := by decide +kernel
theorem dL_law_672 : decode cL_law 672 = .ok (.iload 4, 2) := by decide +kernel
theorem dL_law_674 : decode cL_law 674 = .ok (.iconst 1, 1) := by decide +kernel
theorem dL_law_675 : decode cL_law 675 = .ok (.iadd, 1) := by decide +kernel
theorem dL_law_676 : decode cL_law 676 = .ok (.iaload, 1) := by decide +kernel
theorem dL_law_677 : decode cL_law 677 = .ok (.aload_n 3, 1) := by decide +kernel
theorem dL_law_678 : decode cL_law 678 = .ok (.invokestatic 100, 3) := by decide +kernel
theorem dL_law_681 : decode cL_law 681 = .ok (.istore 5, 2) := by decide +kernel
theorem dL_law_683 : decode cL_law 683 = .ok (.aload_n 2, 1) := by decide +kernel
theorem dL_law_684 : decode cL_law 684 = .ok (.aload_n 0, 1) := by decide +kernel
theorem dL_law_685 : decode cL_law 685 = .ok (.iload 4, 2) := by decide +kernel
theorem dL_law_687 : decode cL_law 687 = .ok (.iconst 1, 1) := by decide +kernel
theorem dL_law_688 : decode cL_law 688 = .ok (.iadd, 1) := by decide +kernel
theorem dL_law_689 : decode cL_law 689 = .ok (.iaload, 1) := by decide +kernel
theorem dL_law_690 : decode cL_law 690 = .ok (.invokevirtual 102, 3) := by decide +kernel
theorem dL_law_693 : decode cL_law 693 = .ok (.istore 6, 2) := by decide +kernel
theorem dL_law_695 : decode cL_law 695 = .ok (.aload_n 2, 1) := by decide +kernel
theorem dL_law_696 : decode cL_law 696 = .ok (.invokevirtual 64, 3) := by decide +kernel
theorem dL_law_699 : decode cL_law 699 = .ok (.iload 5, 2) := by decide +kernel
theorem dL_law_701 : decode cL_law 701 = .ok (.if_icmp .eq 5, 3) := by decide +kernel
theorem dL_law_704 : decode cL_law 704 = .ok (.iconst 0, 1) := by decide +kernel
theorem dL_law_705 : decode cL_law 705 = .ok (.ireturn, 1) := by decide +kernel
theorem dL_law_706 : decode cL_law 706 = .ok (.iload 5, 2) := by decide +kernel
theorem dL_law_708 : decode cL_law 708 = .ok (.ifCond .ne 15, 3) := by decide +kernel
theorem dL_law_711 : decode cL_law 711 = .ok (.aload_n 3, 1) := by decide +kernel
theorem dL_law_712 : decode cL_law 712 = .ok (.iconst 0, 1) := by decide +kernel
theorem dL_law_713 : decode cL_law 713 = .ok (.laload, 1) := by decide +kernel
theorem dL_law_714 : decode cL_law 714 = .ok (.iload 6, 2) := by decide +kernel
theorem dL_law_716 : decode cL_law 716 = .ok (.i2l, 1) := by decide +kernel
theorem dL_law_717 : decode cL_law 717 = .ok (.lcmp, 1) := by decide +kernel
theorem dL_law_718 : decode cL_law 718 = .ok (.ifCond .eq 5, 3) := by decide +kernel
theorem dL_law_721 : decode cL_law 721 = .ok (.iconst 0, 1) := by decide +kernel
theorem dL_law_722 : decode cL_law 722 = .ok (.ireturn, 1) := by decide +kernel
theorem dL_law_723 : decode cL_law 723 = .ok (.goto 238, 3) := by decide +kernel
theorem dL_law_726 : decode cL_law 726 = .ok (.aload_n 1, 1) := by decide +kernel
theorem dL_law_727 : decode cL_law 727 = .ok (.aload_n 0, 1) := by decide +kernel
theorem dL_law_728 : decode cL_law 728 = .ok (.iload 4, 2) := by decide +kernel
theorem dL_law_730 : decode cL_law 730 = .ok (.iconst 1, 1) := by decide +kernel
theorem dL_law_731 : decode cL_law 731 = .ok (.iadd, 1) := by decide +kernel
theorem dL_law_732 : decode cL_law 732 = .ok (.iaload, 1) := by decide +kernel
theorem dL_law_733 : decode cL_law 733 = .ok (.aload_n 0, 1) := by decide +kernel
theorem dL_law_734 : decode cL_law 734 = .ok (.iload 4, 2) := by decide +kernel
theorem dL_law_736 : decode cL_law 736 = .ok (.iconst 2, 1) := by decide +kernel
theorem dL_law_737 : decode cL_law 737 = .ok (.iadd, 1) := by decide +kernel
theorem dL_law_738 : decode cL_law 738 = .ok (.iaload, 1) := by decide +kernel
theorem dL_law_739 : decode cL_law 739 = .ok (.aload_n 3, 1) := by decide +kernel
theorem dL_law_740 : decode cL_law 740 = .ok (.invokestatic 103, 3) := by decide +kernel
theorem dL_law_743 : decode cL_law 743 = .ok (.istore 5, 2) := by decide +kernel
theorem dL_law_745 : decode cL_law 745 = .ok (.aload_n 2, 1) := by decide +kernel
theorem dL_law_746 : decode cL_law 746 = .ok (.aload_n 0, 1) := by decide +kernel
theorem dL_law_747 : decode cL_law 747 = .ok (.iload 4, 2) := by decide +kernel
theorem dL_law_749 : decode cL_law 749 = .ok (.iconst 1, 1) := by decide +kernel
theorem dL_law_750 : decode cL_law 750 = .ok (.iadd, 1) := by decide +kernel
theorem dL_law_751 : decode cL_law 751 = .ok (.iaload, 1) := by decide +kernel
theorem dL_law_752 : decode cL_law 752 = .ok (.aload_n 0, 1) := by decide +kernel
theorem dL_law_753 : decode cL_law 753 = .ok (.iload 4, 2) := by decide +kernel
theorem dL_law_755 : decode cL_law 755 = .ok (.iconst 2, 1) := by decide +kernel
theorem dL_law_756 : decode cL_law 756 = .ok (.iadd, 1) := by decide +kernel
theorem dL_law_757 : decode cL_law 757 = .ok (.iaload, 1) := by decide +kernel
theorem dL_law_758 : decode cL_law 758 = .ok (.invokevirtual 105, 3) := by decide +kernel
theorem dL_law_761 : decode cL_law 761 = .ok (.istore 6, 2) := by decide +kernel
theorem dL_law_763 : decode cL_law 763 = .ok (.aload_n 2, 1) := by decide +kernel
theorem dL_law_764 : decode cL_law 764 = .ok (.invokevirtual 64, 3) := by decide +kernel
theorem dL_law_767 : decode cL_law 767 = .ok (.iload 5, 2) := by decide +kernel
theorem dL_law_769 : decode cL_law 769 = .ok (.if_icmp .eq 5, 3) := by decide +kernel
theorem dL_law_772 : decode cL_law 772 = .ok (.iconst 0, 1) := by decide +kernel
theorem dL_law_773 : decode cL_law 773 = .ok (.ireturn, 1) := by decide +kernel
theorem dL_law_774 : decode cL_law 774 = .ok (.iload 5, 2) := by decide +kernel
theorem dL_law_776 : decode cL_law 776 = .ok (.ifCond .ne 15, 3) := by decide +kernel
theorem dL_law_779 : decode cL_law 779 = .ok (.aload_n 3, 1) := by decide +kernel
theorem dL_law_780 : decode cL_law 780 = .ok (.iconst 0, 1) := by decide +kernel
theorem dL_law_781 : decode cL_law 781 = .ok (.laload, 1) := by decide +kernel
theorem dL_law_782 : decode cL_law 782 = .ok (.iload 6, 2) := by decide +kernel
theorem dL_law_784 : decode cL_law 784 = .ok (.i2l, 1) := by decide +kernel
theorem dL_law_785 : decode cL_law 785 = .ok (.lcmp, 1) := by decide +kernel
theorem dL_law_786 : decode cL_law 786 = .ok (.ifCond .eq 5, 3) := by decide +kernel
theorem dL_law_789 : decode cL_law 789 = .ok (.iconst 0, 1) := by decide +kernel
theorem dL_law_790 : decode cL_law 790 = .ok (.ireturn, 1) := by decide +kernel
theorem dL_law_791 : decode cL_law 791 = .ok (.goto 170, 3) := by decide +kernel
theorem dL_law_794 : decode cL_law 794 = .ok (.aload_n 1, 1) := by decide +kernel
theorem dL_law_795 : decode cL_law 795 = .ok (.aload_n 0, 1) := by decide +kernel
theorem dL_law_796 : decode cL_law 796 = .ok (.iload 4, 2) := by decide +kernel
theorem dL_law_798 : decode cL_law 798 = .ok (.iconst 1, 1) := by decide +kernel
theorem dL_law_799 : decode cL_law 799 = .ok (.iadd, 1) := by decide +kernel
theorem dL_law_800 : decode cL_law 800 = .ok (.iaload, 1) := by decide +kernel
theorem dL_law_801 : decode cL_law 801 = .ok (.aload_n 3, 1) := by decide +kernel
theorem dL_law_802 : decode cL_law 802 = .ok (.invokestatic 106, 3) := by decide +kernel
theorem dL_law_805 : decode cL_law 805 = .ok (.istore 5, 2) := by decide +kernel
theorem dL_law_807 : decode cL_law 807 = .ok (.aload_n 2, 1) := by decide +kernel
theorem dL_law_808 : decode cL_law 808 = .ok (.aload_n 0, 1) := by decide +kernel
theorem dL_law_809 : decode cL_law 809 = .ok (.iload 4, 2) := by decide +kernel
theorem dL_law_811 : decode cL_law 811 = .ok (.iconst 1, 1) := by decide +kernel
theorem dL_law_812 : decode cL_law 812 = .ok (.iadd, 1) := by decide +kernel
theorem dL_law_813 : decode cL_law 813 = .ok (.iaload, 1) := by decide +kernel
theorem dL_law_814 : decode cL_law 814 = .ok (.invokevirtual 108, 3) := by decide +kernel
theorem dL_law_817 : decode cL_law 817 = .ok (.istore 6, 2) := by decide +kernel
theorem dL_law_819 : decode cL_law 819 = .ok (.aload_n 2, 1) := by decide +kernel
theorem dL_law_820 : decode cL_law 820 = .ok (.invokevirtual 64, 3) := by decide +kernel
theorem dL_law_823 : decode cL_law 823 = .ok (.iload 5, 2) := by decide +kernel
theorem dL_law_825 : decode cL_law 825 = .ok (.if_icmp .eq 5, 3) := by decide +kernel
theorem dL_law_828 : decode cL_law 828 = .ok (.iconst 0, 1) := by decide +kernel
theorem dL_law_829 : decode cL_law 829 = .ok (.ireturn, 1) := by decide +kernel
theorem dL_law_830 : decode cL_law 830 = .ok (.iload 5, 2) := by decide +kernel
theorem dL_law_832 : decode cL_law 832 = .ok (.ifCond .ne 15, 3) := by decide +kernel
theorem dL_law_835 : decode cL_law 835 = .ok (.aload_n 3, 1) := by decide +kernel
theorem dL_law_836 : decode cL_law 836 = .ok (.iconst 0, 1) := by decide +kernel
theorem dL_law_837 : decode cL_law 837 = .ok (.laload, 1) := by decide +kernel
theorem dL_law_838 : decode cL_law 838 = .ok (.iload 6, 2) := by decide +kernel
theorem dL_law_840 : decode cL_law 840 = .ok (.i2l, 1) := by decide +kernel
theorem dL_law_841 : decode cL_law 841 = .ok (.lcmp, 1) := by decide +kernel
theorem dL_law_842 : decode cL_law 842 = .ok (.ifCond .eq 5, 3) := by decide +kernel
theorem dL_law_845 : decode cL_law 845 = .ok (.iconst 0, 1) := by decide +kernel
theorem dL_law_846 : decode cL_law 846 = .ok (.ireturn, 1) := by decide +kernel
theorem dL_law_847 : decode cL_law 847 = .ok (.goto 114, 3) := by decide +kernel
theorem dL_law_850 : decode cL_law 850 = .ok (.aload_n 1, 1) := by decide +kernel
theorem dL_law_851 : decode cL_law 851 = .ok (.aload_n 0, 1) := by decide +kernel
theorem dL_law_852 : decode cL_law 852 = .ok (.iload 4, 2) := by decide +kernel
theorem dL_law_854 : decode cL_law 854 = .ok (.iconst 1, 1) := by decide +kernel
theorem dL_law_855 : decode cL_law 855 = .ok (.iadd, 1) := by decide +kernel
theorem dL_law_856 : decode cL_law 856 = .ok (.iaload, 1) := by decide +kernel
theorem dL_law_857 : decode cL_law 857 = .ok (.aload_n 3, 1) := by decide +kernel
theorem dL_law_858 : decode cL_law 858 = .ok (.invokestatic 109, 3) := by decide +kernel
theorem dL_law_861 : decode cL_law 861 = .ok (.istore 5, 2) := by decide +kernel
theorem dL_law_863 : decode cL_law 863 = .ok (.aload_n 2, 1) := by decide +kernel
theorem dL_law_864 : decode cL_law 864 = .ok (.aload_n 0, 1) := by decide +kernel
theorem dL_law_865 : decode cL_law 865 = .ok (.iload 4, 2) := by decide +kernel
theorem dL_law_867 : decode cL_law 867 = .ok (.iconst 1, 1) := by decide +kernel
theorem dL_law_868 : decode cL_law 868 = .ok (.iadd, 1) := by decide +kernel
theorem dL_law_869 : decode cL_law 869 = .ok (.iaload, 1) := by decide +kernel
theorem dL_law_870 : decode cL_law 870 = .ok (.invokevirtual 111, 3) := by decide +kernel
theorem dL_law_873 : decode cL_law 873 = .ok (.istore 6, 2) := by decide +kernel
theorem dL_law_875 : decode cL_law 875 = .ok (.aload_n 2, 1) := by decide +kernel
theorem dL_law_876 : decode cL_law 876 = .ok (.invokevirtual 64, 3) := by decide +kernel
theorem dL_law_879 : decode cL_law 879 = .ok (.iload 5, 2) := by decide +kernel
theorem dL_law_881 : decode cL_law 881 = .ok (.if_icmp .eq 5, 3) := by decide +kernel
theorem dL_law_884 : decode cL_law 884 = .ok (.iconst 0, 1) := by decide +kernel
theorem dL_law_885 : decode cL_law 885 = .ok (.ireturn, 1) := by decide +kernel
theorem dL_law_886 : decode cL_law 886 = .ok (.iload 5, 2) := by decide +kernel
theorem dL_law_888 : decode cL_law 888 = .ok (.ifCond .ne 15, 3) := by decide +kernel
theorem dL_law_891 : decode cL_law 891 = .ok (.aload_n 3, 1) := by decide +kernel
theorem dL_law_892 : decode cL_law 892 = .ok (.iconst 0, 1) := by decide +kernel
theorem dL_law_893 : decode cL_law 893 = .ok (.laload, 1) := by decide +kernel
theorem dL_law_894 : decode cL_law 894 = .ok (.iload 6, 2) := by decide +kernel
theorem dL_law_896 : decode cL_law 896 = .ok (.i2l, 1) := by decide +kernel
theorem dL_law_897 : decode cL_law 897 = .ok (.lcmp, 1) := by decide +kernel
theorem dL_law_898 : decode cL_law 898 = .ok (.ifCond .eq 5, 3) := by decide +kernel
theorem dL_law_901 : decode cL_law 901 = .ok (.iconst 0, 1) := by decide +kernel
theorem dL_law_902 : decode cL_law 902 = .ok (.ireturn, 1) := by decide +kernel
theorem dL_law_903 : decode cL_law 903 = .ok (.goto 58, 3) := by decide +kernel
theorem dL_law_906 : decode cL_law 906 = .ok (.aload_n 1, 1) := by decide +kernel
theorem dL_law_907 : decode cL_law 907 = .ok (.invokevirtual 112, 3) := by decide +kernel
theorem dL_law_910 : decode cL_law 910 = .ok (.dstore 5, 2) := by decide +kernel
theorem dL_law_912 : decode cL_law 912 = .ok (.aload_n 2, 1) := by decide +kernel
theorem dL_law_913 : decode cL_law 913 = .ok (.invokevirtual 116, 3) := by decide +kernel
theorem dL_law_916 : decode cL_law 916 = .ok (.dstore 7, 2) := by decide +kernel
theorem dL_law_918 : decode cL_law 918 = .ok (.dload 5, 2) := by decide +kernel
theorem dL_law_920 : decode cL_law 920 = .ok (.dload 7, 2) := by decide +kernel
theorem dL_law_922 : decode cL_law 922 = .ok (.dcmp .l, 1) := by decide +kernel
theorem dL_law_923 : decode cL_law 923 = .ok (.ifCond .eq 21, 3) := by decide +kernel
theorem dL_law_926 : decode cL_law 926 = .ok (.dload 5, 2) := by decide +kernel
theorem dL_law_928 : decode cL_law 928 = .ok (.dload 5, 2) := by decide +kernel
theorem dL_law_930 : decode cL_law 930 = .ok (.dcmp .l, 1) := by decide +kernel
theorem dL_law_931 : decode cL_law 931 = .ok (.ifCond .eq 11, 3) := by decide +kernel
theorem dL_law_934 : decode cL_law 934 = .ok (.dload 7, 2) := by decide +kernel
theorem dL_law_936 : decode cL_law 936 = .ok (.dload 7, 2) := by decide +kernel
theorem dL_law_938 : decode cL_law 938 = .ok (.dcmp .l, 1) := by decide +kernel
theorem dL_law_939 : decode cL_law 939 = .ok (.ifCond .ne 5, 3) := by decide +kernel
theorem dL_law_942 : decode cL_law 942 = .ok (.iconst 0, 1) := by decide +kernel
theorem dL_law_943 : decode cL_law 943 = .ok (.ireturn, 1) := by decide +kernel
theorem dL_law_944 : decode cL_law 944 = .ok (.goto 17, 3) := by decide +kernel
theorem dL_law_947 : decode cL_law 947 = .ok (.aload_n 1, 1) := by decide +kernel
theorem dL_law_948 : decode cL_law 948 = .ok (.invokevirtual 117, 3) := by decide +kernel
theorem dL_law_951 : decode cL_law 951 = .ok (.aload_n 2, 1) := by decide +kernel
theorem dL_law_952 : decode cL_law 952 = .ok (.invokevirtual 121, 3) := by decide +kernel
theorem dL_law_955 : decode cL_law 955 = .ok (.lcmp, 1) := by decide +kernel
theorem dL_law_956 : decode cL_law 956 = .ok (.ifCond .eq 5, 3) := by decide +kernel
theorem dL_law_959 : decode cL_law 959 = .ok (.iconst 0, 1) := by decide +kernel
theorem dL_law_960 : decode cL_law 960 = .ok (.ireturn, 1) := by decide +kernel
theorem dL_law_961 : decode cL_law 961 = .ok (.iinc 4 3, 3) := by decide +kernel
theorem dL_law_964 : decode cL_law 964 = .ok (.goto (-941), 3) := by decide +kernel
theorem dL_law_967 : decode cL_law 967 = .ok (.iconst 1, 1) := by decide +kernel
theorem dL_law_968 : decode cL_law 968 = .ok (.ireturn, 1) := by decide +kernel
abbrev vwCl : List vw_C := [(RX0, TX0, 11), (RX1, TX1, 12), (RX2, TX2, 2), (RX3, TX3, 12), (RX4, TX4, 8)]
/-! ===== END printed: names ===== -/
