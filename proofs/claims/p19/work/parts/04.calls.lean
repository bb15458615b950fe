theorem wsL_law_x0 : ∀ w ∈ (vx_atS RX2 56 "java/lang/IndexOutOfBoundsException" ["java/lang/RuntimeException", "java/lang/Exception"]).filter goodWord, w ∈ lw_tbl := by decide +kernel
theorem wsL_law_x1 : ∀ w ∈ (vx_atS RX2 23 "java/lang/IllegalArgumentException" ["java/lang/RuntimeException", "java/lang/Exception"]).filter goodWord, w ∈ lw_tbl := by decide +kernel
theorem wsL_law_x2 : ∀ w ∈ (vx_atS RX2 40 "java/lang/IllegalStateException" ["java/lang/RuntimeException", "java/lang/Exception"]).filter goodWord, w ∈ lw_tbl := by decide +kernel
theorem wsL_law_in : ∀ w ∈ wsL_law, w ∈ lw_tbl := fun w h => (List.mem_append.mp h).elim (fun h => (List.mem_append.mp h).elim (fun h => (List.mem_append.mp h).elim (fun h => wsL_law_in0 w h) (fun h => wsL_law_x0 w h)) (fun h => wsL_law_x1 w h)) (fun h => wsL_law_x2 w h)
theorem inlX0 : ∀ w ∈ wsX00, w ∈ wsL_law := fun _ h => List.mem_append_left _ (List.mem_append_left _ (List.mem_append_left _ (List.mem_append_left _ (List.mem_append_left _ (List.mem_append_right _ h)))))
theorem inX0 : ∀ w ∈ wsX00, w ∈ lw_tbl := fun w h => wsL_law_in w (inlX0 w h)
theorem inlX1 : ∀ w ∈ wsX10, w ∈ wsL_law := fun _ h => List.mem_append_left _ (List.mem_append_left _ (List.mem_append_left _ (List.mem_append_left _ (List.mem_append_right _ h))))
theorem inX1 : ∀ w ∈ wsX10, w ∈ lw_tbl := fun w h => wsL_law_in w (inlX1 w h)
theorem inlX2 : ∀ w ∈ wsX20, w ∈ wsL_law := fun _ h => List.mem_append_left _ (List.mem_append_left _ (List.mem_append_left _ (List.mem_append_left _ (List.mem_append_left _ (List.mem_append_left _ (List.mem_append_right _ h))))))
theorem inX2 : ∀ w ∈ wsX20, w ∈ lw_tbl := fun w h => wsL_law_in w (inlX2 w h)
theorem inX3 : ∀ w ∈ wsX30, w ∈ lw_tbl := by decide +kernel
theorem inX4 : ∀ w ∈ wsX40, w ∈ lw_tbl := by decide +kernel
theorem inJ9 : ∀ w ∈ wsJ90, w ∈ lw_tbl := by decide +kernel
theorem inJ0 : ∀ w ∈ wsJ00, w ∈ lw_tbl := by decide +kernel
theorem inJ10 : ∀ w ∈ wsJ100, w ∈ lw_tbl := by decide +kernel
set_option maxRecDepth 20000 in
theorem ggX0_init_X1_init : GoodIn wsX0_init wsX1_init := goodIn_r _ [20, 21, 2, 3, 22, 23, 24, 25, 10, 26, 27, 28, 29, 30, 31, 32, 33, 45, 46, 47, 48, 49, 50, 51, 52, 53, 54, 55, 56] (by decide +kernel) (by decide +kernel)
set_option maxRecDepth 20000 in
theorem gX0_init_X1_init_n36 : GoodIn wsX0_init (wsX1_init) := ggX0_init_X1_init
theorem dX0_init_0 : decode cX0_init 0 = .ok (.aload_n 0, 1) := by decide +kernel
theorem dX0_init_1 : decode cX0_init 1 = .ok (.invokespecial 3, 3) := by decide +kernel
theorem dX0_init_4 : decode cX0_init 4 = .ok (.aload_n 0, 1) := by decide +kernel
theorem dX0_init_5 : decode cX0_init 5 = .ok (.iconst 0, 1) := by decide +kernel
theorem dX0_init_6 : decode cX0_init 6 = .ok (.putfield 9, 3) := by decide +kernel
theorem dX0_init_9 : decode cX0_init 9 = .ok (.aload_n 0, 1) := by decide +kernel
theorem dX0_init_10 : decode cX0_init 10 = .ok (.iconst 0, 1) := by decide +kernel
theorem dX0_init_11 : decode cX0_init 11 = .ok (.putfield 15, 3) := by decide +kernel
theorem dX0_init_14 : decode cX0_init 14 = .ok (.aload_n 0, 1) := by decide +kernel
theorem dX0_init_15 : decode cX0_init 15 = .ok (.bipush 15, 2) := by decide +kernel
theorem dX0_init_17 : decode cX0_init 17 = .ok (.putfield 18, 3) := by decide +kernel
theorem dX0_init_20 : decode cX0_init 20 = .ok (.aload_n 0, 1) := by decide +kernel
theorem dX0_init_21 : decode cX0_init 21 = .ok (.iconst 0, 1) := by decide +kernel
theorem dX0_init_22 : decode cX0_init 22 = .ok (.putfield 21, 3) := by decide +kernel
theorem dX0_init_25 : decode cX0_init 25 = .ok (.aload_n 0, 1) := by decide +kernel
theorem dX0_init_26 : decode cX0_init 26 = .ok (.iconst 0, 1) := by decide +kernel
theorem dX0_init_27 : decode cX0_init 27 = .ok (.putfield 24, 3) := by decide +kernel
theorem dX0_init_30 : decode cX0_init 30 = .ok (.aload_n 0, 1) := by decide +kernel
theorem dX0_init_31 : decode cX0_init 31 = .ok (.iconst 0, 1) := by decide +kernel
theorem dX0_init_32 : decode cX0_init 32 = .ok (.putfield 27, 3) := by decide +kernel
theorem dX0_init_35 : decode cX0_init 35 = .ok (.aload_n 0, 1) := by decide +kernel
theorem dX0_init_36 : decode cX0_init 36 = .ok (.bipush 8, 2) := by decide +kernel
theorem dX0_init_38 : decode cX0_init 38 = .ok (.newarray .int, 2) := by decide +kernel
theorem dX0_init_40 : decode cX0_init 40 = .ok (.putfield 30, 3) := by decide +kernel
theorem dX0_init_43 : decode cX0_init 43 = .ok (.aload_n 0, 1) := by decide +kernel
theorem dX0_init_44 : decode cX0_init 44 = .ok (.new 34, 3) := by decide +kernel
theorem dX0_init_47 : decode cX0_init 47 = .ok (.dup, 1) := by decide +kernel
theorem dX0_init_48 : decode cX0_init 48 = .ok (.invokespecial 36, 3) := by decide +kernel
theorem dX0_init_51 : decode cX0_init 51 = .ok (.putfield 37, 3) := by decide +kernel
theorem dX0_init_54 : decode cX0_init 54 = .ok (.aload_n 0, 1) := by decide +kernel
theorem dX0_init_55 : decode cX0_init 55 = .ok (.iconst (-1), 1) := by decide +kernel
theorem dX0_init_56 : decode cX0_init 56 = .ok (.putfield 41, 3) := by decide +kernel
theorem dX0_init_59 : decode cX0_init 59 = .ok (.aload_n 0, 1) := by decide +kernel
theorem dX0_init_60 : decode cX0_init 60 = .ok (.iconst 0, 1) := by decide +kernel
theorem dX0_init_61 : decode cX0_init 61 = .ok (.putfield 44, 3) := by decide +kernel
theorem dX0_init_64 : decode cX0_init 64 = .ok (.aload_n 0, 1) := by decide +kernel
theorem dX0_init_65 : decode cX0_init 65 = .ok (.iconst 0, 1) := by decide +kernel
theorem dX0_init_66 : decode cX0_init 66 = .ok (.putfield 47, 3) := by decide +kernel
theorem dX0_init_69 : decode cX0_init 69 = .ok (.return_, 1) := by decide +kernel
set_option maxRecDepth 20000 in
theorem ggX0_copyFrom_X1_copyFrom : GoodIn wsX0_copyFrom wsX1_copyFrom := goodIn_r _ [20, 21, 22, 23, 24, 25, 26, 9, 10, 11, 27, 28, 29, 30, 31, 32, 33, 45, 46, 47, 48, 49, 50, 51, 52, 53, 54, 55, 56] (by decide +kernel) (by decide +kernel)
set_option maxRecDepth 20000 in
theorem gX0_copyFrom_X1_copyFrom : GoodIn wsX0_copyFrom (wsV RX0 57 RX1 yX1_copyFrom wsX1_copyFrom) := goodIn_app (goodIn_of _ (by decide +kernel)) ggX0_copyFrom_X1_copyFrom
theorem dX0_copyFrom_0 : decode cX0_copyFrom 0 = .ok (.aload_n 0, 1) := by decide +kernel
theorem dX0_copyFrom_1 : decode cX0_copyFrom 1 = .ok (.aload_n 1, 1) := by decide +kernel
theorem dX0_copyFrom_2 : decode cX0_copyFrom 2 = .ok (.getfield 9, 3) := by decide +kernel
theorem dX0_copyFrom_5 : decode cX0_copyFrom 5 = .ok (.putfield 9, 3) := by decide +kernel
theorem dX0_copyFrom_8 : decode cX0_copyFrom 8 = .ok (.aload_n 0, 1) := by decide +kernel
theorem dX0_copyFrom_9 : decode cX0_copyFrom 9 = .ok (.aload_n 1, 1) := by decide +kernel
theorem dX0_copyFrom_10 : decode cX0_copyFrom 10 = .ok (.getfield 15, 3) := by decide +kernel
theorem dX0_copyFrom_13 : decode cX0_copyFrom 13 = .ok (.putfield 15, 3) := by decide +kernel
theorem dX0_copyFrom_16 : decode cX0_copyFrom 16 = .ok (.aload_n 0, 1) := by decide +kernel
theorem dX0_copyFrom_17 : decode cX0_copyFrom 17 = .ok (.aload_n 1, 1) := by decide +kernel
theorem dX0_copyFrom_18 : decode cX0_copyFrom 18 = .ok (.getfield 18, 3) := by decide +kernel
theorem dX0_copyFrom_21 : decode cX0_copyFrom 21 = .ok (.putfield 18, 3) := by decide +kernel
theorem dX0_copyFrom_24 : decode cX0_copyFrom 24 = .ok (.aload_n 0, 1) := by decide +kernel
theorem dX0_copyFrom_25 : decode cX0_copyFrom 25 = .ok (.aload_n 1, 1) := by decide +kernel
theorem dX0_copyFrom_26 : decode cX0_copyFrom 26 = .ok (.getfield 21, 3) := by decide +kernel
theorem dX0_copyFrom_29 : decode cX0_copyFrom 29 = .ok (.putfield 21, 3) := by decide +kernel
theorem dX0_copyFrom_32 : decode cX0_copyFrom 32 = .ok (.aload_n 0, 1) := by decide +kernel
theorem dX0_copyFrom_33 : decode cX0_copyFrom 33 = .ok (.aload_n 1, 1) := by decide +kernel
theorem dX0_copyFrom_34 : decode cX0_copyFrom 34 = .ok (.getfield 24, 3) := by decide +kernel
theorem dX0_copyFrom_37 : decode cX0_copyFrom 37 = .ok (.putfield 24, 3) := by decide +kernel
theorem dX0_copyFrom_40 : decode cX0_copyFrom 40 = .ok (.aload_n 0, 1) := by decide +kernel
theorem dX0_copyFrom_41 : decode cX0_copyFrom 41 = .ok (.aload_n 1, 1) := by decide +kernel
theorem dX0_copyFrom_42 : decode cX0_copyFrom 42 = .ok (.getfield 27, 3) := by decide +kernel
theorem dX0_copyFrom_45 : decode cX0_copyFrom 45 = .ok (.putfield 27, 3) := by decide +kernel
theorem dX0_copyFrom_48 : decode cX0_copyFrom 48 = .ok (.aload_n 1, 1) := by decide +kernel
theorem dX0_copyFrom_49 : decode cX0_copyFrom 49 = .ok (.getfield 30, 3) := by decide +kernel
theorem dX0_copyFrom_52 : decode cX0_copyFrom 52 = .ok (.iconst 0, 1) := by decide +kernel
theorem dX0_copyFrom_53 : decode cX0_copyFrom 53 = .ok (.aload_n 0, 1) := by decide +kernel
theorem dX0_copyFrom_54 : decode cX0_copyFrom 54 = .ok (.getfield 30, 3) := by decide +kernel
theorem dX0_copyFrom_57 : decode cX0_copyFrom 57 = .ok (.iconst 0, 1) := by decide +kernel
theorem dX0_copyFrom_58 : decode cX0_copyFrom 58 = .ok (.bipush 8, 2) := by decide +kernel
theorem dX0_copyFrom_60 : decode cX0_copyFrom 60 = .ok (.invokestatic 51, 3) := by decide +kernel
theorem dX0_copyFrom_63 : decode cX0_copyFrom 63 = .ok (.aload_n 0, 1) := by decide +kernel
theorem dX0_copyFrom_64 : decode cX0_copyFrom 64 = .ok (.getfield 37, 3) := by decide +kernel
theorem dX0_copyFrom_67 : decode cX0_copyFrom 67 = .ok (.aload_n 1, 1) := by decide +kernel
theorem dX0_copyFrom_68 : decode cX0_copyFrom 68 = .ok (.getfield 37, 3) := by decide +kernel
theorem dX0_copyFrom_71 : decode cX0_copyFrom 71 = .ok (.invokevirtual 57, 3) := by decide +kernel
theorem dX0_copyFrom_74 : decode cX0_copyFrom 74 = .ok (.aload_n 0, 1) := by decide +kernel
theorem dX0_copyFrom_75 : decode cX0_copyFrom 75 = .ok (.aload_n 1, 1) := by decide +kernel
theorem dX0_copyFrom_76 : decode cX0_copyFrom 76 = .ok (.getfield 41, 3) := by decide +kernel
theorem dX0_copyFrom_79 : decode cX0_copyFrom 79 = .ok (.putfield 41, 3) := by decide +kernel
theorem dX0_copyFrom_82 : decode cX0_copyFrom 82 = .ok (.aload_n 0, 1) := by decide +kernel
theorem dX0_copyFrom_83 : decode cX0_copyFrom 83 = .ok (.aload_n 1, 1) := by decide +kernel
theorem dX0_copyFrom_84 : decode cX0_copyFrom 84 = .ok (.getfield 44, 3) := by decide +kernel
theorem dX0_copyFrom_87 : decode cX0_copyFrom 87 = .ok (.putfield 44, 3) := by decide +kernel
theorem dX0_copyFrom_90 : decode cX0_copyFrom 90 = .ok (.aload_n 0, 1) := by decide +kernel
theorem dX0_copyFrom_91 : decode cX0_copyFrom 91 = .ok (.aload_n 1, 1) := by decide +kernel
theorem dX0_copyFrom_92 : decode cX0_copyFrom 92 = .ok (.getfield 47, 3) := by decide +kernel
theorem dX0_copyFrom_95 : decode cX0_copyFrom 95 = .ok (.putfield 47, 3) := by decide +kernel
theorem dX0_copyFrom_98 : decode cX0_copyFrom 98 = .ok (.return_, 1) := by decide +kernel
set_option maxRecDepth 20000 in
theorem ggX0_goOn_X0_goOneMinute : GoodIn wsX0_goOn wsX0_goOneMinute := goodIn_r _ [5, 6, 7, 8, 9, 10, 11, 12, 13, 4, 14, 15, 16, 17, 18, 19, 20, 21, 22, 23, 24, 25, 26, 27, 28, 29, 30, 31, 32, 33, 34, 35, 36, 37, 38, 39, 40, 41, 42, 43, 44, 45, 46, 47, 48, 49, 50, 51, 52, 53, 54, 55, 56, 57, 58, 59, 60, 61, 62, 63, 64, 65, 66, 67, 68, 69, 70, 71, 72, 73, 74, 75, 76, 77, 78, 79, 80, 81, 82, 83, 84, 85, 86, 87, 88, 89, 90, 91, 92, 93, 94, 95, 96, 97, 98, 99, 100, 101, 102, 103, 104, 105, 106, 107, 108, 109, 110, 111, 112, 113, 114] (by decide +kernel) (by decide +kernel)
set_option maxRecDepth 20000 in
theorem gX0_goOn_X0_goOneMinute : GoodIn wsX0_goOn (wsV RX0 61 RX0 yX0_goOneMinute wsX0_goOneMinute) := goodIn_app (goodIn_of _ (by decide +kernel)) ggX0_goOn_X0_goOneMinute
theorem dX0_goOn_0 : decode cX0_goOn 0 = .ok (.iconst 0, 1) := by decide +kernel
theorem dX0_goOn_1 : decode cX0_goOn 1 = .ok (.istore_n 2, 1) := by decide +kernel
theorem dX0_goOn_2 : decode cX0_goOn 2 = .ok (.iload_n 2, 1) := by decide +kernel
theorem dX0_goOn_3 : decode cX0_goOn 3 = .ok (.iload_n 1, 1) := by decide +kernel
theorem dX0_goOn_4 : decode cX0_goOn 4 = .ok (.if_icmp .ge 13, 3) := by decide +kernel
theorem dX0_goOn_7 : decode cX0_goOn 7 = .ok (.aload_n 0, 1) := by decide +kernel
theorem dX0_goOn_8 : decode cX0_goOn 8 = .ok (.invokevirtual 61, 3) := by decide +kernel
theorem dX0_goOn_11 : decode cX0_goOn 11 = .ok (.iinc 2 1, 3) := by decide +kernel
theorem dX0_goOn_14 : decode cX0_goOn 14 = .ok (.goto (-12), 3) := by decide +kernel
theorem dX0_goOn_17 : decode cX0_goOn 17 = .ok (.return_, 1) := by decide +kernel
set_option maxRecDepth 20000 in
theorem ggX0_goOneMinute_X0_servedNext : GoodIn wsX0_goOneMinute wsX0_servedNext := goodIn_r _ [10, 11, 12, 2, 13, 14, 15, 16, 17, 18, 19, 20, 21, 22, 23, 24, 25, 26, 27, 28, 29, 30, 31, 32, 88, 89, 90, 91, 92, 93, 94, 95, 96, 97, 98, 99, 100, 101, 102, 103, 104, 105, 106, 107, 108, 109, 110] (by decide +kernel) (by decide +kernel)
set_option maxRecDepth 20000 in
theorem gX0_goOneMinute_X0_servedNext : GoodIn wsX0_goOneMinute (wsV RX0 64 RX0 yX0_servedNext wsX0_servedNext) := goodIn_app (goodIn_of _ (by decide +kernel)) ggX0_goOneMinute_X0_servedNext
set_option maxRecDepth 20000 in
theorem ggX0_goOneMinute_X0_serve : GoodIn wsX0_goOneMinute wsX0_serve := goodIn_r _ [36, 2, 37, 38, 11, 39, 40, 13, 5, 41, 22, 23, 24, 42, 43, 44, 45, 46, 47, 17, 48, 49, 50, 51, 52, 53, 54, 55, 56, 57, 58, 59, 60, 61, 19, 20, 62, 63, 64, 65, 9, 66, 67, 68, 88, 89, 90, 91, 92, 93, 94, 95, 96, 97, 98, 99, 100, 101, 102, 103, 104, 105, 106, 107, 108, 109, 110] (by decide +kernel) (by decide +kernel)
set_option maxRecDepth 20000 in
theorem gX0_goOneMinute_X0_serve : GoodIn wsX0_goOneMinute (wsV RX0 68 RX0 yX0_serve wsX0_serve) := goodIn_app (goodIn_of _ (by decide +kernel)) ggX0_goOneMinute_X0_serve
set_option maxRecDepth 20000 in
theorem ggX0_goOneMinute_X0_goOnPassing : GoodIn wsX0_goOneMinute wsX0_goOnPassing := goodIn_r _ [72, 2, 11, 40, 5, 45, 46, 47, 17, 48, 49, 73, 74, 75, 76, 54, 77, 78, 88, 89, 90, 91, 92, 93, 94, 95, 96, 97, 98, 99, 100, 101, 102, 103, 104, 105, 106, 107, 108, 109, 110] (by decide +kernel) (by decide +kernel)
set_option maxRecDepth 20000 in
theorem gX0_goOneMinute_X0_goOnPassing : GoodIn wsX0_goOneMinute (wsV RX0 72 RX0 yX0_goOnPassing wsX0_goOnPassing) := goodIn_app (goodIn_of _ (by decide +kernel)) ggX0_goOneMinute_X0_goOnPassing
set_option maxRecDepth 20000 in
theorem ggX0_goOneMinute_X0_freeze : GoodIn wsX0_goOneMinute wsX0_freeze := goodIn_r _ [82, 5, 68, 83, 41, 22, 23, 24, 42, 43, 44, 84, 85, 86, 87, 88, 89, 90, 91, 92, 93, 94, 95, 96, 97, 98] (by decide +kernel) (by decide +kernel)
set_option maxRecDepth 20000 in
theorem gX0_goOneMinute_X0_freeze : GoodIn wsX0_goOneMinute (wsV RX0 81 RX0 yX0_freeze wsX0_freeze) := goodIn_app (goodIn_of _ (by decide +kernel)) ggX0_goOneMinute_X0_freeze
theorem dX0_goOneMinute_0 : decode cX0_goOneMinute 0 = .ok (.aload_n 0, 1) := by decide +kernel
theorem dX0_goOneMinute_1 : decode cX0_goOneMinute 1 = .ok (.aload_n 0, 1) := by decide +kernel
theorem dX0_goOneMinute_2 : decode cX0_goOneMinute 2 = .ok (.invokevirtual 64, 3) := by decide +kernel
theorem dX0_goOneMinute_5 : decode cX0_goOneMinute 5 = .ok (.invokevirtual 68, 3) := by decide +kernel
theorem dX0_goOneMinute_8 : decode cX0_goOneMinute 8 = .ok (.aload_n 0, 1) := by decide +kernel
theorem dX0_goOneMinute_9 : decode cX0_goOneMinute 9 = .ok (.invokevirtual 72, 3) := by decide +kernel
theorem dX0_goOneMinute_12 : decode cX0_goOneMinute 12 = .ok (.aload_n 0, 1) := by decide +kernel
theorem dX0_goOneMinute_13 : decode cX0_goOneMinute 13 = .ok (.dup, 1) := by decide +kernel
theorem dX0_goOneMinute_14 : decode cX0_goOneMinute 14 = .ok (.getfield 27, 3) := by decide +kernel
theorem dX0_goOneMinute_17 : decode cX0_goOneMinute 17 = .ok (.aload_n 0, 1) := by decide +kernel
theorem dX0_goOneMinute_18 : decode cX0_goOneMinute 18 = .ok (.getfield 37, 3) := by decide +kernel
theorem dX0_goOneMinute_21 : decode cX0_goOneMinute 21 = .ok (.getfield 75, 3) := by decide +kernel
theorem dX0_goOneMinute_24 : decode cX0_goOneMinute 24 = .ok (.aload_n 0, 1) := by decide +kernel
theorem dX0_goOneMinute_25 : decode cX0_goOneMinute 25 = .ok (.getfield 37, 3) := by decide +kernel
theorem dX0_goOneMinute_28 : decode cX0_goOneMinute 28 = .ok (.getfield 78, 3) := by decide +kernel
theorem dX0_goOneMinute_31 : decode cX0_goOneMinute 31 = .ok (.iadd, 1) := by decide +kernel
theorem dX0_goOneMinute_32 : decode cX0_goOneMinute 32 = .ok (.iadd, 1) := by decide +kernel
theorem dX0_goOneMinute_33 : decode cX0_goOneMinute 33 = .ok (.putfield 27, 3) := by decide +kernel
theorem dX0_goOneMinute_36 : decode cX0_goOneMinute 36 = .ok (.aload_n 0, 1) := by decide +kernel
theorem dX0_goOneMinute_37 : decode cX0_goOneMinute 37 = .ok (.invokevirtual 81, 3) := by decide +kernel
theorem dX0_goOneMinute_40 : decode cX0_goOneMinute 40 = .ok (.aload_n 0, 1) := by decide +kernel
theorem dX0_goOneMinute_41 : decode cX0_goOneMinute 41 = .ok (.dup, 1) := by decide +kernel
theorem dX0_goOneMinute_42 : decode cX0_goOneMinute 42 = .ok (.getfield 9, 3) := by decide +kernel
theorem dX0_goOneMinute_45 : decode cX0_goOneMinute 45 = .ok (.iconst 1, 1) := by decide +kernel
theorem dX0_goOneMinute_46 : decode cX0_goOneMinute 46 = .ok (.iadd, 1) := by decide +kernel
theorem dX0_goOneMinute_47 : decode cX0_goOneMinute 47 = .ok (.putfield 9, 3) := by decide +kernel
theorem dX0_goOneMinute_50 : decode cX0_goOneMinute 50 = .ok (.return_, 1) := by decide +kernel
theorem dX0_speedTowards_0 : decode cX0_speedTowards 0 = .ok (.aload_n 0, 1) := by decide +kernel
theorem dX0_speedTowards_1 : decode cX0_speedTowards 1 = .ok (.getfield 18, 3) := by decide +kernel
theorem dX0_speedTowards_4 : decode cX0_speedTowards 4 = .ok (.bipush 6, 2) := by decide +kernel
theorem dX0_speedTowards_6 : decode cX0_speedTowards 6 = .ok (.idiv, 1) := by decide +kernel
theorem dX0_speedTowards_7 : decode cX0_speedTowards 7 = .ok (.istore_n 2, 1) := by decide +kernel
theorem dX0_speedTowards_8 : decode cX0_speedTowards 8 = .ok (.iload_n 1, 1) := by decide +kernel
theorem dX0_speedTowards_9 : decode cX0_speedTowards 9 = .ok (.ifCond .eq 9, 3) := by decide +kernel
theorem dX0_speedTowards_12 : decode cX0_speedTowards 12 = .ok (.iconst 1, 1) := by decide +kernel
theorem dX0_speedTowards_13 : decode cX0_speedTowards 13 = .ok (.iload_n 2, 1) := by decide +kernel
theorem dX0_speedTowards_14 : decode cX0_speedTowards 14 = .ok (.iadd, 1) := by decide +kernel
theorem dX0_speedTowards_15 : decode cX0_speedTowards 15 = .ok (.goto 7, 3) := by decide +kernel
theorem dX0_speedTowards_18 : decode cX0_speedTowards 18 = .ok (.bipush 6, 2) := by decide +kernel
theorem dX0_speedTowards_20 : decode cX0_speedTowards 20 = .ok (.iload_n 2, 1) := by decide +kernel
theorem dX0_speedTowards_21 : decode cX0_speedTowards 21 = .ok (.isub, 1) := by decide +kernel
theorem dX0_speedTowards_22 : decode cX0_speedTowards 22 = .ok (.istore_n 3, 1) := by decide +kernel
theorem dX0_speedTowards_23 : decode cX0_speedTowards 23 = .ok (.aload_n 0, 1) := by decide +kernel
theorem dX0_speedTowards_24 : decode cX0_speedTowards 24 = .ok (.getfield 21, 3) := by decide +kernel
theorem dX0_speedTowards_27 : decode cX0_speedTowards 27 = .ok (.iconst 5, 1) := by decide +kernel
theorem dX0_speedTowards_28 : decode cX0_speedTowards 28 = .ok (.if_icmp .lt 13, 3) := by decide +kernel
theorem dX0_speedTowards_31 : decode cX0_speedTowards 31 = .ok (.iconst 1, 1) := by decide +kernel
theorem dX0_speedTowards_32 : decode cX0_speedTowards 32 = .ok (.iload_n 3, 1) := by decide +kernel
theorem dX0_speedTowards_33 : decode cX0_speedTowards 33 = .ok (.iconst 2, 1) := by decide +kernel
theorem dX0_speedTowards_34 : decode cX0_speedTowards 34 = .ok (.idiv, 1) := by decide +kernel
theorem dX0_speedTowards_35 : decode cX0_speedTowards 35 = .ok (.invokestatic 84, 3) := by decide +kernel
theorem dX0_speedTowards_38 : decode cX0_speedTowards 38 = .ok (.goto 4, 3) := by decide +kernel
theorem dX0_speedTowards_41 : decode cX0_speedTowards 41 = .ok (.iload_n 3, 1) := by decide +kernel
theorem dX0_speedTowards_42 : decode cX0_speedTowards 42 = .ok (.ireturn, 1) := by decide +kernel
set_option maxRecDepth 20000 in
theorem ggX0_servedNext_X1_firstOfAll : GoodIn wsX0_servedNext wsX1_firstOfAll := goodIn_r _ [9, 10, 11, 12, 13, 14, 15, 35, 36, 37, 38, 39, 40, 41, 42, 43, 44, 45, 46] (by decide +kernel) (by decide +kernel)
set_option maxRecDepth 20000 in
theorem gX0_servedNext_X1_firstOfAll : GoodIn wsX0_servedNext (wsV RX0 90 RX1 yX1_firstOfAll wsX1_firstOfAll) := goodIn_app (goodIn_of _ (by decide +kernel)) ggX0_servedNext_X1_firstOfAll
set_option maxRecDepth 20000 in
theorem ggX0_servedNext_X1_firstBargeElseCart : GoodIn wsX0_servedNext wsX1_firstBargeElseCart := goodIn_r _ [19, 10, 11, 35, 36, 37, 38, 39, 40, 41, 42, 43, 44, 45, 46] (by decide +kernel) (by decide +kernel)
set_option maxRecDepth 20000 in
theorem gX0_servedNext_X1_firstBargeElseCart : GoodIn wsX0_servedNext (wsV RX0 93 RX1 yX1_firstBargeElseCart wsX1_firstBargeElseCart) := goodIn_app (goodIn_of _ (by decide +kernel)) ggX0_servedNext_X1_firstBargeElseCart
set_option maxRecDepth 20000 in
theorem ggX0_servedNext_X1_firstCartElseBarge : GoodIn wsX0_servedNext wsX1_firstCartElseBarge := goodIn_r _ [23, 11, 10, 35, 36, 37, 38, 39, 40, 41, 42, 43, 44, 45, 46] (by decide +kernel) (by decide +kernel)
set_option maxRecDepth 20000 in
theorem gX0_servedNext_X1_firstCartElseBarge : GoodIn wsX0_servedNext (wsV RX0 96 RX1 yX1_firstCartElseBarge wsX1_firstCartElseBarge) := goodIn_app (goodIn_of _ (by decide +kernel)) ggX0_servedNext_X1_firstCartElseBarge
theorem dX0_servedNext_0 : decode cX0_servedNext 0 = .ok (.aload_n 0, 1) := by decide +kernel
theorem dX0_servedNext_1 : decode cX0_servedNext 1 = .ok (.getfield 41, 3) := by decide +kernel
theorem dX0_servedNext_4 : decode cX0_servedNext 4 = .ok (.iconst (-1), 1) := by decide +kernel
theorem dX0_servedNext_5 : decode cX0_servedNext 5 = .ok (.if_icmp .eq 5, 3) := by decide +kernel
theorem dX0_servedNext_8 : decode cX0_servedNext 8 = .ok (.iconst (-1), 1) := by decide +kernel
theorem dX0_servedNext_9 : decode cX0_servedNext 9 = .ok (.ireturn, 1) := by decide +kernel
theorem dX0_servedNext_10 : decode cX0_servedNext 10 = .ok (.aload_n 0, 1) := by decide +kernel
theorem dX0_servedNext_11 : decode cX0_servedNext 11 = .ok (.getfield 24, 3) := by decide +kernel
theorem dX0_servedNext_14 : decode cX0_servedNext 14 = .ok (.tableswitch 79 0 3 #[30, 38, 46, 54], 30) := by decide +kernel
theorem dX0_servedNext_44 : decode cX0_servedNext 44 = .ok (.aload_n 0, 1) := by decide +kernel
theorem dX0_servedNext_45 : decode cX0_servedNext 45 = .ok (.getfield 37, 3) := by decide +kernel
theorem dX0_servedNext_48 : decode cX0_servedNext 48 = .ok (.invokevirtual 90, 3) := by decide +kernel
theorem dX0_servedNext_51 : decode cX0_servedNext 51 = .ok (.ireturn, 1) := by decide +kernel
theorem dX0_servedNext_52 : decode cX0_servedNext 52 = .ok (.aload_n 0, 1) := by decide +kernel
theorem dX0_servedNext_53 : decode cX0_servedNext 53 = .ok (.getfield 37, 3) := by decide +kernel
theorem dX0_servedNext_56 : decode cX0_servedNext 56 = .ok (.invokevirtual 93, 3) := by decide +kernel
theorem dX0_servedNext_59 : decode cX0_servedNext 59 = .ok (.ireturn, 1) := by decide +kernel
theorem dX0_servedNext_60 : decode cX0_servedNext 60 = .ok (.aload_n 0, 1) := by decide +kernel
theorem dX0_servedNext_61 : decode cX0_servedNext 61 = .ok (.getfield 37, 3) := by decide +kernel
theorem dX0_servedNext_64 : decode cX0_servedNext 64 = .ok (.invokevirtual 96, 3) := by decide +kernel
theorem dX0_servedNext_67 : decode cX0_servedNext 67 = .ok (.ireturn, 1) := by decide +kernel
theorem dX0_servedNext_68 : decode cX0_servedNext 68 = .ok (.aload_n 0, 1) := by decide +kernel
theorem dX0_servedNext_69 : decode cX0_servedNext 69 = .ok (.getfield 47, 3) := by decide +kernel
theorem dX0_servedNext_72 : decode cX0_servedNext 72 = .ok (.ifCond .eq 13, 3) := by decide +kernel
theorem dX0_servedNext_75 : decode cX0_servedNext 75 = .ok (.aload_n 0, 1) := by decide +kernel
theorem dX0_servedNext_76 : decode cX0_servedNext 76 = .ok (.getfield 37, 3) := by decide +kernel
theorem dX0_servedNext_79 : decode cX0_servedNext 79 = .ok (.invokevirtual 96, 3) := by decide +kernel
theorem dX0_servedNext_82 : decode cX0_servedNext 82 = .ok (.goto 10, 3) := by decide +kernel
theorem dX0_servedNext_85 : decode cX0_servedNext 85 = .ok (.aload_n 0, 1) := by decide +kernel
theorem dX0_servedNext_86 : decode cX0_servedNext 86 = .ok (.getfield 37, 3) := by decide +kernel
theorem dX0_servedNext_89 : decode cX0_servedNext 89 = .ok (.invokevirtual 93, 3) := by decide +kernel
theorem dX0_servedNext_92 : decode cX0_servedNext 92 = .ok (.ireturn, 1) := by decide +kernel
theorem dX0_servedNext_93 : decode cX0_servedNext 93 = .ok (.iconst (-1), 1) := by decide +kernel
theorem dX0_servedNext_94 : decode cX0_servedNext 94 = .ok (.ireturn, 1) := by decide +kernel
set_option maxRecDepth 20000 in
theorem ggX0_serve_X1_has : GoodIn wsX0_serve wsX1_has := goodIn_r _ [20, 21, 55, 56, 57, 58, 59, 60, 61, 62, 63, 64, 65, 66] (by decide +kernel) (by decide +kernel)
set_option maxRecDepth 20000 in
theorem gX0_serve_X1_has : GoodIn wsX0_serve (wsV RX0 99 RX1 yX1_has wsX1_has) := goodIn_app (goodIn_of _ (by decide +kernel)) ggX0_serve_X1_has
set_option maxRecDepth 20000 in
theorem ggX0_serve_X1_endWait : GoodIn wsX0_serve wsX1_endWait := goodIn_r _ [25, 26, 27, 28, 29, 30, 19, 31, 32, 33, 34, 35, 21, 36, 55, 56, 57, 58, 59, 60, 61, 62, 63, 64, 65, 66] (by decide +kernel) (by decide +kernel)
set_option maxRecDepth 20000 in
theorem gX0_serve_X1_endWait : GoodIn wsX0_serve (wsV RX0 109 RX1 yX1_endWait wsX1_endWait) := goodIn_app (goodIn_of _ (by decide +kernel)) ggX0_serve_X1_endWait
set_option maxRecDepth 20000 in
theorem ggX0_serve_X0_speedTowards : GoodIn wsX0_serve wsX0_speedTowards := goodIn_r _ [41, 42, 43, 13, 14, 11, 15, 44, 45, 46, 47, 48, 49, 50, 51, 52, 53, 54] (by decide +kernel) (by decide +kernel)
set_option maxRecDepth 20000 in
theorem gX0_serve_X0_speedTowards : GoodIn wsX0_serve (wsV RX0 113 RX0 yX0_speedTowards wsX0_speedTowards) := goodIn_app (goodIn_of _ (by decide +kernel)) ggX0_serve_X0_speedTowards
theorem dX0_serve_0 : decode cX0_serve 0 = .ok (.aload_n 0, 1) := by decide +kernel
theorem dX0_serve_1 : decode cX0_serve 1 = .ok (.getfield 37, 3) := by decide +kernel
theorem dX0_serve_4 : decode cX0_serve 4 = .ok (.iload_n 1, 1) := by decide +kernel
theorem dX0_serve_5 : decode cX0_serve 5 = .ok (.invokevirtual 99, 3) := by decide +kernel
theorem dX0_serve_8 : decode cX0_serve 8 = .ok (.ifCond .ne 4, 3) := by decide +kernel
theorem dX0_serve_11 : decode cX0_serve 11 = .ok (.return_, 1) := by decide +kernel
theorem dX0_serve_12 : decode cX0_serve 12 = .ok (.aload_n 0, 1) := by decide +kernel
theorem dX0_serve_13 : decode cX0_serve 13 = .ok (.getfield 37, 3) := by decide +kernel
theorem dX0_serve_16 : decode cX0_serve 16 = .ok (.getfield 103, 3) := by decide +kernel
theorem dX0_serve_19 : decode cX0_serve 19 = .ok (.iload_n 1, 1) := by decide +kernel
theorem dX0_serve_20 : decode cX0_serve 20 = .ok (.iaload, 1) := by decide +kernel
theorem dX0_serve_21 : decode cX0_serve 21 = .ok (.iconst 1, 1) := by decide +kernel
theorem dX0_serve_22 : decode cX0_serve 22 = .ok (.if_icmp .ne 7, 3) := by decide +kernel
theorem dX0_serve_25 : decode cX0_serve 25 = .ok (.iconst 1, 1) := by decide +kernel
theorem dX0_serve_26 : decode cX0_serve 26 = .ok (.goto 4, 3) := by decide +kernel
theorem dX0_serve_29 : decode cX0_serve 29 = .ok (.iconst 0, 1) := by decide +kernel
theorem dX0_serve_30 : decode cX0_serve 30 = .ok (.istore_n 2, 1) := by decide +kernel
theorem dX0_serve_31 : decode cX0_serve 31 = .ok (.aload_n 0, 1) := by decide +kernel
theorem dX0_serve_32 : decode cX0_serve 32 = .ok (.getfield 15, 3) := by decide +kernel
theorem dX0_serve_35 : decode cX0_serve 35 = .ok (.iload_n 2, 1) := by decide +kernel
theorem dX0_serve_36 : decode cX0_serve 36 = .ok (.ifCond .eq 8, 3) := by decide +kernel
theorem dX0_serve_39 : decode cX0_serve 39 = .ok (.bipush 60, 2) := by decide +kernel
theorem dX0_serve_41 : decode cX0_serve 41 = .ok (.goto 4, 3) := by decide +kernel
theorem dX0_serve_44 : decode cX0_serve 44 = .ok (.iconst 0, 1) := by decide +kernel
theorem dX0_serve_45 : decode cX0_serve 45 = .ok (.if_icmp .ne 42, 3) := by decide +kernel
theorem dX0_serve_48 : decode cX0_serve 48 = .ok (.aload_n 0, 1) := by decide +kernel
theorem dX0_serve_49 : decode cX0_serve 49 = .ok (.iload_n 1, 1) := by decide +kernel
theorem dX0_serve_50 : decode cX0_serve 50 = .ok (.putfield 41, 3) := by decide +kernel
theorem dX0_serve_53 : decode cX0_serve 53 = .ok (.aload_n 0, 1) := by decide +kernel
theorem dX0_serve_54 : decode cX0_serve 54 = .ok (.aload_n 0, 1) := by decide +kernel
theorem dX0_serve_55 : decode cX0_serve 55 = .ok (.getfield 37, 3) := by decide +kernel
theorem dX0_serve_58 : decode cX0_serve 58 = .ok (.getfield 106, 3) := by decide +kernel
theorem dX0_serve_61 : decode cX0_serve 61 = .ok (.iload_n 1, 1) := by decide +kernel
theorem dX0_serve_62 : decode cX0_serve 62 = .ok (.iaload, 1) := by decide +kernel
theorem dX0_serve_63 : decode cX0_serve 63 = .ok (.putfield 44, 3) := by decide +kernel
theorem dX0_serve_66 : decode cX0_serve 66 = .ok (.aload_n 0, 1) := by decide +kernel
theorem dX0_serve_67 : decode cX0_serve 67 = .ok (.iload_n 2, 1) := by decide +kernel
theorem dX0_serve_68 : decode cX0_serve 68 = .ok (.putfield 47, 3) := by decide +kernel
theorem dX0_serve_71 : decode cX0_serve 71 = .ok (.aload_n 0, 1) := by decide +kernel
theorem dX0_serve_72 : decode cX0_serve 72 = .ok (.getfield 37, 3) := by decide +kernel
theorem dX0_serve_75 : decode cX0_serve 75 = .ok (.iload_n 1, 1) := by decide +kernel
theorem dX0_serve_76 : decode cX0_serve 76 = .ok (.iconst 1, 1) := by decide +kernel
theorem dX0_serve_77 : decode cX0_serve 77 = .ok (.aload_n 0, 1) := by decide +kernel
theorem dX0_serve_78 : decode cX0_serve 78 = .ok (.getfield 9, 3) := by decide +kernel
theorem dX0_serve_81 : decode cX0_serve 81 = .ok (.invokevirtual 109, 3) := by decide +kernel
theorem dX0_serve_84 : decode cX0_serve 84 = .ok (.goto 47, 3) := by decide +kernel
theorem dX0_serve_87 : decode cX0_serve 87 = .ok (.iload_n 2, 1) := by decide +kernel
theorem dX0_serve_88 : decode cX0_serve 88 = .ok (.ifCond .eq 25, 3) := by decide +kernel
theorem dX0_serve_91 : decode cX0_serve 91 = .ok (.aload_n 0, 1) := by decide +kernel
theorem dX0_serve_92 : decode cX0_serve 92 = .ok (.bipush 60, 2) := by decide +kernel
theorem dX0_serve_94 : decode cX0_serve 94 = .ok (.aload_n 0, 1) := by decide +kernel
theorem dX0_serve_95 : decode cX0_serve 95 = .ok (.getfield 15, 3) := by decide +kernel
theorem dX0_serve_98 : decode cX0_serve 98 = .ok (.aload_n 0, 1) := by decide +kernel
theorem dX0_serve_99 : decode cX0_serve 99 = .ok (.iconst 1, 1) := by decide +kernel
theorem dX0_serve_100 : decode cX0_serve 100 = .ok (.invokevirtual 113, 3) := by decide +kernel
theorem dX0_serve_103 : decode cX0_serve 103 = .ok (.iadd, 1) := by decide +kernel
theorem dX0_serve_104 : decode cX0_serve 104 = .ok (.invokestatic 117, 3) := by decide +kernel
theorem dX0_serve_107 : decode cX0_serve 107 = .ok (.putfield 15, 3) := by decide +kernel
theorem dX0_serve_110 : decode cX0_serve 110 = .ok (.goto 21, 3) := by decide +kernel
theorem dX0_serve_113 : decode cX0_serve 113 = .ok (.aload_n 0, 1) := by decide +kernel
theorem dX0_serve_114 : decode cX0_serve 114 = .ok (.iconst 0, 1) := by decide +kernel
theorem dX0_serve_115 : decode cX0_serve 115 = .ok (.aload_n 0, 1) := by decide +kernel
theorem dX0_serve_116 : decode cX0_serve 116 = .ok (.getfield 15, 3) := by decide +kernel
theorem dX0_serve_119 : decode cX0_serve 119 = .ok (.aload_n 0, 1) := by decide +kernel
theorem dX0_serve_120 : decode cX0_serve 120 = .ok (.iconst 0, 1) := by decide +kernel
theorem dX0_serve_121 : decode cX0_serve 121 = .ok (.invokevirtual 113, 3) := by decide +kernel
theorem dX0_serve_124 : decode cX0_serve 124 = .ok (.isub, 1) := by decide +kernel
theorem dX0_serve_125 : decode cX0_serve 125 = .ok (.invokestatic 84, 3) := by decide +kernel
theorem dX0_serve_128 : decode cX0_serve 128 = .ok (.putfield 15, 3) := by decide +kernel
theorem dX0_serve_131 : decode cX0_serve 131 = .ok (.return_, 1) := by decide +kernel
set_option maxRecDepth 20000 in
theorem ggX0_goOnPassing_X1_has : GoodIn wsX0_goOnPassing wsX1_has := goodIn_r _ [9, 10, 29, 30, 31, 32, 33, 34, 35, 36, 37, 38, 39, 40] (by decide +kernel) (by decide +kernel)
set_option maxRecDepth 20000 in
theorem gX0_goOnPassing_X1_has : GoodIn wsX0_goOnPassing (wsV RX0 99 RX1 yX1_has wsX1_has) := goodIn_app (goodIn_of _ (by decide +kernel)) ggX0_goOnPassing_X1_has
set_option maxRecDepth 20000 in
theorem ggX0_goOnPassing_X1_endPassage : GoodIn wsX0_goOnPassing wsX1_endPassage := goodIn_r _ [14, 15, 16, 17, 29, 30, 31, 32, 33, 34, 35, 36, 37, 38, 39, 40] (by decide +kernel) (by decide +kernel)
set_option maxRecDepth 20000 in
theorem gX0_goOnPassing_X1_endPassage : GoodIn wsX0_goOnPassing (wsV RX0 120 RX1 yX1_endPassage wsX1_endPassage) := goodIn_app (goodIn_of _ (by decide +kernel)) ggX0_goOnPassing_X1_endPassage
theorem dX0_goOnPassing_0 : decode cX0_goOnPassing 0 = .ok (.aload_n 0, 1) := by decide +kernel
theorem dX0_goOnPassing_1 : decode cX0_goOnPassing 1 = .ok (.getfield 37, 3) := by decide +kernel
theorem dX0_goOnPassing_4 : decode cX0_goOnPassing 4 = .ok (.aload_n 0, 1) := by decide +kernel
theorem dX0_goOnPassing_5 : decode cX0_goOnPassing 5 = .ok (.getfield 41, 3) := by decide +kernel
theorem dX0_goOnPassing_8 : decode cX0_goOnPassing 8 = .ok (.invokevirtual 99, 3) := by decide +kernel
theorem dX0_goOnPassing_11 : decode cX0_goOnPassing 11 = .ok (.ifCond .ne 4, 3) := by decide +kernel
theorem dX0_goOnPassing_14 : decode cX0_goOnPassing 14 = .ok (.return_, 1) := by decide +kernel
theorem dX0_goOnPassing_15 : decode cX0_goOnPassing 15 = .ok (.aload_n 0, 1) := by decide +kernel
theorem dX0_goOnPassing_16 : decode cX0_goOnPassing 16 = .ok (.dup, 1) := by decide +kernel
theorem dX0_goOnPassing_17 : decode cX0_goOnPassing 17 = .ok (.getfield 44, 3) := by decide +kernel
theorem dX0_goOnPassing_20 : decode cX0_goOnPassing 20 = .ok (.iconst 1, 1) := by decide +kernel
theorem dX0_goOnPassing_21 : decode cX0_goOnPassing 21 = .ok (.isub, 1) := by decide +kernel
theorem dX0_goOnPassing_22 : decode cX0_goOnPassing 22 = .ok (.putfield 44, 3) := by decide +kernel
theorem dX0_goOnPassing_25 : decode cX0_goOnPassing 25 = .ok (.aload_n 0, 1) := by decide +kernel
theorem dX0_goOnPassing_26 : decode cX0_goOnPassing 26 = .ok (.getfield 44, 3) := by decide +kernel
theorem dX0_goOnPassing_29 : decode cX0_goOnPassing 29 = .ok (.ifCond .gt 23, 3) := by decide +kernel
theorem dX0_goOnPassing_32 : decode cX0_goOnPassing 32 = .ok (.aload_n 0, 1) := by decide +kernel
theorem dX0_goOnPassing_33 : decode cX0_goOnPassing 33 = .ok (.getfield 37, 3) := by decide +kernel
theorem dX0_goOnPassing_36 : decode cX0_goOnPassing 36 = .ok (.aload_n 0, 1) := by decide +kernel
theorem dX0_goOnPassing_37 : decode cX0_goOnPassing 37 = .ok (.getfield 41, 3) := by decide +kernel
theorem dX0_goOnPassing_40 : decode cX0_goOnPassing 40 = .ok (.aload_n 0, 1) := by decide +kernel
theorem dX0_goOnPassing_41 : decode cX0_goOnPassing 41 = .ok (.getfield 9, 3) := by decide +kernel
theorem dX0_goOnPassing_44 : decode cX0_goOnPassing 44 = .ok (.invokevirtual 120, 3) := by decide +kernel
theorem dX0_goOnPassing_47 : decode cX0_goOnPassing 47 = .ok (.aload_n 0, 1) := by decide +kernel
theorem dX0_goOnPassing_48 : decode cX0_goOnPassing 48 = .ok (.iconst (-1), 1) := by decide +kernel
theorem dX0_goOnPassing_49 : decode cX0_goOnPassing 49 = .ok (.putfield 41, 3) := by decide +kernel
theorem dX0_goOnPassing_52 : decode cX0_goOnPassing 52 = .ok (.return_, 1) := by decide +kernel
set_option maxRecDepth 20000 in
theorem ggX0_freeze_J9_floorMod_7cf53 : GoodIn wsX0_freeze wsJ9_floorMod_7cf53 := goodIn_r _ [14] (by decide +kernel) (by decide +kernel)
set_option maxRecDepth 20000 in
theorem gX0_freeze_J9_floorMod_7cf53 : GoodIn wsX0_freeze (va_wsS RX0 124 yJ9_floorMod_7cf53 wsJ9_floorMod_7cf53) := goodIn_app (goodIn_of _ (by decide +kernel)) ggX0_freeze_J9_floorMod_7cf53
theorem dX0_freeze_0 : decode cX0_freeze 0 = .ok (.aload_n 0, 1) := by decide +kernel
theorem dX0_freeze_1 : decode cX0_freeze 1 = .ok (.getfield 9, 3) := by decide +kernel
theorem dX0_freeze_4 : decode cX0_freeze 4 = .ok (.bipush 60, 2) := by decide +kernel
theorem dX0_freeze_6 : decode cX0_freeze 6 = .ok (.irem, 1) := by decide +kernel
theorem dX0_freeze_7 : decode cX0_freeze 7 = .ok (.ifCond .eq 4, 3) := by decide +kernel
theorem dX0_freeze_10 : decode cX0_freeze 10 = .ok (.return_, 1) := by decide +kernel
theorem dX0_freeze_11 : decode cX0_freeze 11 = .ok (.aload_n 0, 1) := by decide +kernel
theorem dX0_freeze_12 : decode cX0_freeze 12 = .ok (.getfield 9, 3) := by decide +kernel
theorem dX0_freeze_15 : decode cX0_freeze 15 = .ok (.bipush 60, 2) := by decide +kernel
theorem dX0_freeze_17 : decode cX0_freeze 17 = .ok (.idiv, 1) := by decide +kernel
theorem dX0_freeze_18 : decode cX0_freeze 18 = .ok (.bipush 8, 2) := by decide +kernel
theorem dX0_freeze_20 : decode cX0_freeze 20 = .ok (.invokestatic 124, 3) := by decide +kernel
theorem dX0_freeze_23 : decode cX0_freeze 23 = .ok (.istore_n 1, 1) := by decide +kernel
theorem dX0_freeze_24 : decode cX0_freeze 24 = .ok (.aload_n 0, 1) := by decide +kernel
theorem dX0_freeze_25 : decode cX0_freeze 25 = .ok (.iconst 0, 1) := by decide +kernel
theorem dX0_freeze_26 : decode cX0_freeze 26 = .ok (.bipush 9, 2) := by decide +kernel
theorem dX0_freeze_28 : decode cX0_freeze 28 = .ok (.aload_n 0, 1) := by decide +kernel
theorem dX0_freeze_29 : decode cX0_freeze 29 = .ok (.getfield 21, 3) := by decide +kernel
theorem dX0_freeze_32 : decode cX0_freeze 32 = .ok (.aload_n 0, 1) := by decide +kernel
theorem dX0_freeze_33 : decode cX0_freeze 33 = .ok (.getfield 30, 3) := by decide +kernel
theorem dX0_freeze_36 : decode cX0_freeze 36 = .ok (.iload_n 1, 1) := by decide +kernel
theorem dX0_freeze_37 : decode cX0_freeze 37 = .ok (.iaload, 1) := by decide +kernel
theorem dX0_freeze_38 : decode cX0_freeze 38 = .ok (.iadd, 1) := by decide +kernel
theorem dX0_freeze_39 : decode cX0_freeze 39 = .ok (.invokestatic 117, 3) := by decide +kernel
theorem dX0_freeze_42 : decode cX0_freeze 42 = .ok (.invokestatic 84, 3) := by decide +kernel
theorem dX0_freeze_45 : decode cX0_freeze 45 = .ok (.putfield 21, 3) := by decide +kernel
theorem dX0_freeze_48 : decode cX0_freeze 48 = .ok (.return_, 1) := by decide +kernel
set_option maxRecDepth 20000 in
theorem ggX0_total_X0_servedNext : GoodIn wsX0_total wsX0_servedNext := goodIn_r _ [17, 12, 5, 6, 18, 19, 20, 21, 22, 23, 24, 25, 26, 27, 28, 29, 30, 31, 32, 33, 34, 35, 36, 37, 38, 39, 40, 41, 42, 43, 44, 45, 46, 47, 48, 49, 50, 51, 52, 53, 54, 55, 56, 57, 58, 59, 60] (by decide +kernel) (by decide +kernel)
set_option maxRecDepth 20000 in
theorem gX0_total_X0_servedNext : GoodIn wsX0_total (wsV RX0 64 RX0 yX0_servedNext wsX0_servedNext) := goodIn_app (goodIn_of _ (by decide +kernel)) ggX0_total_X0_servedNext
theorem dX0_total_0 : decode cX0_total 0 = .ok (.iload_n 1, 1) := by decide +kernel
theorem dX0_total_1 : decode cX0_total 1 = .ok (.tableswitch 126 0 10 #[59, 64, 69, 74, 79, 84, 92, 100, 108, 116, 121], 59) := by decide +kernel
theorem dX0_total_60 : decode cX0_total 60 = .ok (.aload_n 0, 1) := by decide +kernel
theorem dX0_total_61 : decode cX0_total 61 = .ok (.getfield 9, 3) := by decide +kernel
theorem dX0_total_64 : decode cX0_total 64 = .ok (.ireturn, 1) := by decide +kernel
theorem dX0_total_65 : decode cX0_total 65 = .ok (.aload_n 0, 1) := by decide +kernel
theorem dX0_total_66 : decode cX0_total 66 = .ok (.getfield 15, 3) := by decide +kernel
theorem dX0_total_69 : decode cX0_total 69 = .ok (.ireturn, 1) := by decide +kernel
theorem dX0_total_70 : decode cX0_total 70 = .ok (.aload_n 0, 1) := by decide +kernel
theorem dX0_total_71 : decode cX0_total 71 = .ok (.getfield 18, 3) := by decide +kernel
theorem dX0_total_74 : decode cX0_total 74 = .ok (.ireturn, 1) := by decide +kernel
theorem dX0_total_75 : decode cX0_total 75 = .ok (.aload_n 0, 1) := by decide +kernel
theorem dX0_total_76 : decode cX0_total 76 = .ok (.getfield 21, 3) := by decide +kernel
theorem dX0_total_79 : decode cX0_total 79 = .ok (.ireturn, 1) := by decide +kernel
theorem dX0_total_80 : decode cX0_total 80 = .ok (.aload_n 0, 1) := by decide +kernel
theorem dX0_total_81 : decode cX0_total 81 = .ok (.getfield 24, 3) := by decide +kernel
theorem dX0_total_84 : decode cX0_total 84 = .ok (.ireturn, 1) := by decide +kernel
theorem dX0_total_85 : decode cX0_total 85 = .ok (.aload_n 0, 1) := by decide +kernel
theorem dX0_total_86 : decode cX0_total 86 = .ok (.getfield 37, 3) := by decide +kernel
theorem dX0_total_89 : decode cX0_total 89 = .ok (.getfield 127, 3) := by decide +kernel
theorem dX0_total_92 : decode cX0_total 92 = .ok (.ireturn, 1) := by decide +kernel
theorem dX0_total_93 : decode cX0_total 93 = .ok (.aload_n 0, 1) := by decide +kernel
theorem dX0_total_94 : decode cX0_total 94 = .ok (.getfield 37, 3) := by decide +kernel
theorem dX0_total_97 : decode cX0_total 97 = .ok (.getfield 75, 3) := by decide +kernel
theorem dX0_total_100 : decode cX0_total 100 = .ok (.ireturn, 1) := by decide +kernel
theorem dX0_total_101 : decode cX0_total 101 = .ok (.aload_n 0, 1) := by decide +kernel
theorem dX0_total_102 : decode cX0_total 102 = .ok (.getfield 37, 3) := by decide +kernel
theorem dX0_total_105 : decode cX0_total 105 = .ok (.getfield 78, 3) := by decide +kernel
theorem dX0_total_108 : decode cX0_total 108 = .ok (.ireturn, 1) := by decide +kernel
theorem dX0_total_109 : decode cX0_total 109 = .ok (.aload_n 0, 1) := by decide +kernel
theorem dX0_total_110 : decode cX0_total 110 = .ok (.getfield 37, 3) := by decide +kernel
theorem dX0_total_113 : decode cX0_total 113 = .ok (.getfield 130, 3) := by decide +kernel
theorem dX0_total_116 : decode cX0_total 116 = .ok (.ireturn, 1) := by decide +kernel
theorem dX0_total_117 : decode cX0_total 117 = .ok (.aload_n 0, 1) := by decide +kernel
theorem dX0_total_118 : decode cX0_total 118 = .ok (.getfield 27, 3) := by decide +kernel
theorem dX0_total_121 : decode cX0_total 121 = .ok (.ireturn, 1) := by decide +kernel
theorem dX0_total_122 : decode cX0_total 122 = .ok (.aload_n 0, 1) := by decide +kernel
theorem dX0_total_123 : decode cX0_total 123 = .ok (.getfield 41, 3) := by decide +kernel
theorem dX0_total_126 : decode cX0_total 126 = .ok (.ireturn, 1) := by decide +kernel
theorem dX0_total_127 : decode cX0_total 127 = .ok (.aload_n 0, 1) := by decide +kernel
theorem dX0_total_128 : decode cX0_total 128 = .ok (.invokevirtual 64, 3) := by decide +kernel
theorem dX0_total_131 : decode cX0_total 131 = .ok (.ireturn, 1) := by decide +kernel
set_option maxRecDepth 20000 in
theorem ggX0_factOf_X1_waited : GoodIn wsX0_factOf wsX1_waited := goodIn_r _ [14, 15, 16, 17, 29, 30, 31, 32, 33, 34, 35, 36, 37, 38, 39, 40] (by decide +kernel) (by decide +kernel)
set_option maxRecDepth 20000 in
theorem gX0_factOf_X1_waited : GoodIn wsX0_factOf (wsV RX0 139 RX1 yX1_waited wsX1_waited) := goodIn_app (goodIn_of _ (by decide +kernel)) ggX0_factOf_X1_waited
theorem dX0_factOf_0 : decode cX0_factOf 0 = .ok (.iload_n 2, 1) := by decide +kernel
theorem dX0_factOf_1 : decode cX0_factOf 1 = .ok (.tableswitch 109 0 5 #[39, 49, 59, 69, 79, 92], 39) := by decide +kernel
theorem dX0_factOf_40 : decode cX0_factOf 40 = .ok (.aload_n 0, 1) := by decide +kernel
theorem dX0_factOf_41 : decode cX0_factOf 41 = .ok (.getfield 37, 3) := by decide +kernel
theorem dX0_factOf_44 : decode cX0_factOf 44 = .ok (.getfield 103, 3) := by decide +kernel
theorem dX0_factOf_47 : decode cX0_factOf 47 = .ok (.iload_n 1, 1) := by decide +kernel
theorem dX0_factOf_48 : decode cX0_factOf 48 = .ok (.iaload, 1) := by decide +kernel
theorem dX0_factOf_49 : decode cX0_factOf 49 = .ok (.ireturn, 1) := by decide +kernel
theorem dX0_factOf_50 : decode cX0_factOf 50 = .ok (.aload_n 0, 1) := by decide +kernel
theorem dX0_factOf_51 : decode cX0_factOf 51 = .ok (.getfield 37, 3) := by decide +kernel
theorem dX0_factOf_54 : decode cX0_factOf 54 = .ok (.getfield 106, 3) := by decide +kernel
theorem dX0_factOf_57 : decode cX0_factOf 57 = .ok (.iload_n 1, 1) := by decide +kernel
theorem dX0_factOf_58 : decode cX0_factOf 58 = .ok (.iaload, 1) := by decide +kernel
theorem dX0_factOf_59 : decode cX0_factOf 59 = .ok (.ireturn, 1) := by decide +kernel
theorem dX0_factOf_60 : decode cX0_factOf 60 = .ok (.aload_n 0, 1) := by decide +kernel
theorem dX0_factOf_61 : decode cX0_factOf 61 = .ok (.getfield 37, 3) := by decide +kernel
theorem dX0_factOf_64 : decode cX0_factOf 64 = .ok (.getfield 133, 3) := by decide +kernel
theorem dX0_factOf_67 : decode cX0_factOf 67 = .ok (.iload_n 1, 1) := by decide +kernel
theorem dX0_factOf_68 : decode cX0_factOf 68 = .ok (.iaload, 1) := by decide +kernel
theorem dX0_factOf_69 : decode cX0_factOf 69 = .ok (.ireturn, 1) := by decide +kernel
theorem dX0_factOf_70 : decode cX0_factOf 70 = .ok (.aload_n 0, 1) := by decide +kernel
theorem dX0_factOf_71 : decode cX0_factOf 71 = .ok (.getfield 37, 3) := by decide +kernel
theorem dX0_factOf_74 : decode cX0_factOf 74 = .ok (.getfield 136, 3) := by decide +kernel
theorem dX0_factOf_77 : decode cX0_factOf 77 = .ok (.iload_n 1, 1) := by decide +kernel
theorem dX0_factOf_78 : decode cX0_factOf 78 = .ok (.iaload, 1) := by decide +kernel
theorem dX0_factOf_79 : decode cX0_factOf 79 = .ok (.ireturn, 1) := by decide +kernel
theorem dX0_factOf_80 : decode cX0_factOf 80 = .ok (.aload_n 0, 1) := by decide +kernel
theorem dX0_factOf_81 : decode cX0_factOf 81 = .ok (.getfield 37, 3) := by decide +kernel
theorem dX0_factOf_84 : decode cX0_factOf 84 = .ok (.iload_n 1, 1) := by decide +kernel
theorem dX0_factOf_85 : decode cX0_factOf 85 = .ok (.aload_n 0, 1) := by decide +kernel
theorem dX0_factOf_86 : decode cX0_factOf 86 = .ok (.getfield 9, 3) := by decide +kernel
theorem dX0_factOf_89 : decode cX0_factOf 89 = .ok (.invokevirtual 139, 3) := by decide +kernel
theorem dX0_factOf_92 : decode cX0_factOf 92 = .ok (.ireturn, 1) := by decide +kernel
theorem dX0_factOf_93 : decode cX0_factOf 93 = .ok (.iload_n 1, 1) := by decide +kernel
theorem dX0_factOf_94 : decode cX0_factOf 94 = .ok (.aload_n 0, 1) := by decide +kernel
theorem dX0_factOf_95 : decode cX0_factOf 95 = .ok (.getfield 41, 3) := by decide +kernel
theorem dX0_factOf_98 : decode cX0_factOf 98 = .ok (.if_icmp .ne 10, 3) := by decide +kernel
theorem dX0_factOf_101 : decode cX0_factOf 101 = .ok (.aload_n 0, 1) := by decide +kernel
theorem dX0_factOf_102 : decode cX0_factOf 102 = .ok (.getfield 44, 3) := by decide +kernel
theorem dX0_factOf_105 : decode cX0_factOf 105 = .ok (.goto 4, 3) := by decide +kernel
theorem dX0_factOf_108 : decode cX0_factOf 108 = .ok (.iconst 0, 1) := by decide +kernel
theorem dX0_factOf_109 : decode cX0_factOf 109 = .ok (.ireturn, 1) := by decide +kernel
theorem dX0_factOf_110 : decode cX0_factOf 110 = .ok (.aload_n 0, 1) := by decide +kernel
theorem dX0_factOf_111 : decode cX0_factOf 111 = .ok (.getfield 37, 3) := by decide +kernel
theorem dX0_factOf_114 : decode cX0_factOf 114 = .ok (.getfield 142, 3) := by decide +kernel
theorem dX0_factOf_117 : decode cX0_factOf 117 = .ok (.iload_n 1, 1) := by decide +kernel
theorem dX0_factOf_118 : decode cX0_factOf 118 = .ok (.iaload, 1) := by decide +kernel
theorem dX0_factOf_119 : decode cX0_factOf 119 = .ok (.ireturn, 1) := by decide +kernel
theorem dX1_init_0 : decode cX1_init 0 = .ok (.aload_n 0, 1) := by decide +kernel
theorem dX1_init_1 : decode cX1_init 1 = .ok (.invokespecial 3, 3) := by decide +kernel
theorem dX1_init_4 : decode cX1_init 4 = .ok (.aload_n 0, 1) := by decide +kernel
theorem dX1_init_5 : decode cX1_init 5 = .ok (.iconst 0, 1) := by decide +kernel
theorem dX1_init_6 : decode cX1_init 6 = .ok (.putfield 9, 3) := by decide +kernel
theorem dX1_init_9 : decode cX1_init 9 = .ok (.aload_n 0, 1) := by decide +kernel
theorem dX1_init_10 : decode cX1_init 10 = .ok (.iconst 0, 1) := by decide +kernel
theorem dX1_init_11 : decode cX1_init 11 = .ok (.putfield 15, 3) := by decide +kernel
theorem dX1_init_14 : decode cX1_init 14 = .ok (.aload_n 0, 1) := by decide +kernel
theorem dX1_init_15 : decode cX1_init 15 = .ok (.iconst 0, 1) := by decide +kernel
theorem dX1_init_16 : decode cX1_init 16 = .ok (.putfield 18, 3) := by decide +kernel
theorem dX1_init_19 : decode cX1_init 19 = .ok (.aload_n 0, 1) := by decide +kernel
theorem dX1_init_20 : decode cX1_init 20 = .ok (.iconst 0, 1) := by decide +kernel
theorem dX1_init_21 : decode cX1_init 21 = .ok (.putfield 21, 3) := by decide +kernel
theorem dX1_init_24 : decode cX1_init 24 = .ok (.aload_n 0, 1) := by decide +kernel
theorem dX1_init_25 : decode cX1_init 25 = .ok (.bipush 40, 2) := by decide +kernel
theorem dX1_init_27 : decode cX1_init 27 = .ok (.newarray .int, 2) := by decide +kernel
theorem dX1_init_29 : decode cX1_init 29 = .ok (.putfield 24, 3) := by decide +kernel
theorem dX1_init_32 : decode cX1_init 32 = .ok (.aload_n 0, 1) := by decide +kernel
theorem dX1_init_33 : decode cX1_init 33 = .ok (.bipush 40, 2) := by decide +kernel
theorem dX1_init_35 : decode cX1_init 35 = .ok (.newarray .int, 2) := by decide +kernel
theorem dX1_init_37 : decode cX1_init 37 = .ok (.putfield 28, 3) := by decide +kernel
theorem dX1_init_40 : decode cX1_init 40 = .ok (.aload_n 0, 1) := by decide +kernel
theorem dX1_init_41 : decode cX1_init 41 = .ok (.bipush 40, 2) := by decide +kernel
theorem dX1_init_43 : decode cX1_init 43 = .ok (.newarray .int, 2) := by decide +kernel
theorem dX1_init_45 : decode cX1_init 45 = .ok (.putfield 31, 3) := by decide +kernel
theorem dX1_init_48 : decode cX1_init 48 = .ok (.aload_n 0, 1) := by decide +kernel
theorem dX1_init_49 : decode cX1_init 49 = .ok (.bipush 40, 2) := by decide +kernel
theorem dX1_init_51 : decode cX1_init 51 = .ok (.newarray .int, 2) := by decide +kernel
theorem dX1_init_53 : decode cX1_init 53 = .ok (.putfield 34, 3) := by decide +kernel
theorem dX1_init_56 : decode cX1_init 56 = .ok (.aload_n 0, 1) := by decide +kernel
theorem dX1_init_57 : decode cX1_init 57 = .ok (.bipush 40, 2) := by decide +kernel
theorem dX1_init_59 : decode cX1_init 59 = .ok (.newarray .int, 2) := by decide +kernel
theorem dX1_init_61 : decode cX1_init 61 = .ok (.putfield 37, 3) := by decide +kernel
theorem dX1_init_64 : decode cX1_init 64 = .ok (.aload_n 0, 1) := by decide +kernel
theorem dX1_init_65 : decode cX1_init 65 = .ok (.bipush 40, 2) := by decide +kernel
theorem dX1_init_67 : decode cX1_init 67 = .ok (.newarray .int, 2) := by decide +kernel
theorem dX1_init_69 : decode cX1_init 69 = .ok (.putfield 40, 3) := by decide +kernel
theorem dX1_init_72 : decode cX1_init 72 = .ok (.aload_n 0, 1) := by decide +kernel
theorem dX1_init_73 : decode cX1_init 73 = .ok (.iconst (-1), 1) := by decide +kernel
theorem dX1_init_74 : decode cX1_init 74 = .ok (.putfield 43, 3) := by decide +kernel
theorem dX1_init_77 : decode cX1_init 77 = .ok (.aload_n 0, 1) := by decide +kernel
theorem dX1_init_78 : decode cX1_init 78 = .ok (.iconst (-1), 1) := by decide +kernel
theorem dX1_init_79 : decode cX1_init 79 = .ok (.putfield 46, 3) := by decide +kernel
theorem dX1_init_82 : decode cX1_init 82 = .ok (.return_, 1) := by decide +kernel
theorem dX1_copyFrom_0 : decode cX1_copyFrom 0 = .ok (.aload_n 0, 1) := by decide +kernel
theorem dX1_copyFrom_1 : decode cX1_copyFrom 1 = .ok (.aload_n 1, 1) := by decide +kernel
theorem dX1_copyFrom_2 : decode cX1_copyFrom 2 = .ok (.getfield 9, 3) := by decide +kernel
theorem dX1_copyFrom_5 : decode cX1_copyFrom 5 = .ok (.putfield 9, 3) := by decide +kernel
theorem dX1_copyFrom_8 : decode cX1_copyFrom 8 = .ok (.aload_n 0, 1) := by decide +kernel
theorem dX1_copyFrom_9 : decode cX1_copyFrom 9 = .ok (.aload_n 1, 1) := by decide +kernel
theorem dX1_copyFrom_10 : decode cX1_copyFrom 10 = .ok (.getfield 15, 3) := by decide +kernel
theorem dX1_copyFrom_13 : decode cX1_copyFrom 13 = .ok (.putfield 15, 3) := by decide +kernel
theorem dX1_copyFrom_16 : decode cX1_copyFrom 16 = .ok (.aload_n 0, 1) := by decide +kernel
theorem dX1_copyFrom_17 : decode cX1_copyFrom 17 = .ok (.aload_n 1, 1) := by decide +kernel
theorem dX1_copyFrom_18 : decode cX1_copyFrom 18 = .ok (.getfield 18, 3) := by decide +kernel
theorem dX1_copyFrom_21 : decode cX1_copyFrom 21 = .ok (.putfield 18, 3) := by decide +kernel
theorem dX1_copyFrom_24 : decode cX1_copyFrom 24 = .ok (.aload_n 0, 1) := by decide +kernel
theorem dX1_copyFrom_25 : decode cX1_copyFrom 25 = .ok (.aload_n 1, 1) := by decide +kernel
theorem dX1_copyFrom_26 : decode cX1_copyFrom 26 = .ok (.getfield 21, 3) := by decide +kernel
theorem dX1_copyFrom_29 : decode cX1_copyFrom 29 = .ok (.putfield 21, 3) := by decide +kernel
theorem dX1_copyFrom_32 : decode cX1_copyFrom 32 = .ok (.aload_n 1, 1) := by decide +kernel
theorem dX1_copyFrom_33 : decode cX1_copyFrom 33 = .ok (.getfield 24, 3) := by decide +kernel
theorem dX1_copyFrom_36 : decode cX1_copyFrom 36 = .ok (.iconst 0, 1) := by decide +kernel
theorem dX1_copyFrom_37 : decode cX1_copyFrom 37 = .ok (.aload_n 0, 1) := by decide +kernel
theorem dX1_copyFrom_38 : decode cX1_copyFrom 38 = .ok (.getfield 24, 3) := by decide +kernel
theorem dX1_copyFrom_41 : decode cX1_copyFrom 41 = .ok (.iconst 0, 1) := by decide +kernel
theorem dX1_copyFrom_42 : decode cX1_copyFrom 42 = .ok (.bipush 40, 2) := by decide +kernel
theorem dX1_copyFrom_44 : decode cX1_copyFrom 44 = .ok (.invokestatic 49, 3) := by decide +kernel
theorem dX1_copyFrom_47 : decode cX1_copyFrom 47 = .ok (.aload_n 1, 1) := by decide +kernel
theorem dX1_copyFrom_48 : decode cX1_copyFrom 48 = .ok (.getfield 28, 3) := by decide +kernel
theorem dX1_copyFrom_51 : decode cX1_copyFrom 51 = .ok (.iconst 0, 1) := by decide +kernel
theorem dX1_copyFrom_52 : decode cX1_copyFrom 52 = .ok (.aload_n 0, 1) := by decide +kernel
theorem dX1_copyFrom_53 : decode cX1_copyFrom 53 = .ok (.getfield 28, 3) := by decide +kernel
theorem dX1_copyFrom_56 : decode cX1_copyFrom 56 = .ok (.iconst 0, 1) := by decide +kernel
theorem dX1_copyFrom_57 : decode cX1_copyFrom 57 = .ok (.bipush 40, 2) := by decide +kernel
theorem dX1_copyFrom_59 : decode cX1_copyFrom 59 = .ok (.invokestatic 49, 3) := by decide +kernel
theorem dX1_copyFrom_62 : decode cX1_copyFrom 62 = .ok (.aload_n 1, 1) := by decide +kernel
theorem dX1_copyFrom_63 : decode cX1_copyFrom 63 = .ok (.getfield 31, 3) := by decide +kernel
theorem dX1_copyFrom_66 : decode cX1_copyFrom 66 = .ok (.iconst 0, 1) := by decide +kernel
theorem dX1_copyFrom_67 : decode cX1_copyFrom 67 = .ok (.aload_n 0, 1) := by decide +kernel
theorem dX1_copyFrom_68 : decode cX1_copyFrom 68 = .ok (.getfield 31, 3) := by decide +kernel
theorem dX1_copyFrom_71 : decode cX1_copyFrom 71 = .ok (.iconst 0, 1) := by decide +kernel
theorem dX1_copyFrom_72 : decode cX1_copyFrom 72 = .ok (.bipush 40, 2) := by decide +kernel
theorem dX1_copyFrom_74 : decode cX1_copyFrom 74 = .ok (.invokestatic 49, 3) := by decide +kernel
theorem dX1_copyFrom_77 : decode cX1_copyFrom 77 = .ok (.aload_n 1, 1) := by decide +kernel
theorem dX1_copyFrom_78 : decode cX1_copyFrom 78 = .ok (.getfield 34, 3) := by decide +kernel
theorem dX1_copyFrom_81 : decode cX1_copyFrom 81 = .ok (.iconst 0, 1) := by decide +kernel
theorem dX1_copyFrom_82 : decode cX1_copyFrom 82 = .ok (.aload_n 0, 1) := by decide +kernel
theorem dX1_copyFrom_83 : decode cX1_copyFrom 83 = .ok (.getfield 34, 3) := by decide +kernel
theorem dX1_copyFrom_86 : decode cX1_copyFrom 86 = .ok (.iconst 0, 1) := by decide +kernel
theorem dX1_copyFrom_87 : decode cX1_copyFrom 87 = .ok (.bipush 40, 2) := by decide +kernel
theorem dX1_copyFrom_89 : decode cX1_copyFrom 89 = .ok (.invokestatic 49, 3) := by decide +kernel
theorem dX1_copyFrom_92 : decode cX1_copyFrom 92 = .ok (.aload_n 1, 1) := by decide +kernel
theorem dX1_copyFrom_93 : decode cX1_copyFrom 93 = .ok (.getfield 37, 3) := by decide +kernel
theorem dX1_copyFrom_96 : decode cX1_copyFrom 96 = .ok (.iconst 0, 1) := by decide +kernel
theorem dX1_copyFrom_97 : decode cX1_copyFrom 97 = .ok (.aload_n 0, 1) := by decide +kernel
theorem dX1_copyFrom_98 : decode cX1_copyFrom 98 = .ok (.getfield 37, 3) := by decide +kernel
theorem dX1_copyFrom_101 : decode cX1_copyFrom 101 = .ok (.iconst 0, 1) := by decide +kernel
theorem dX1_copyFrom_102 : decode cX1_copyFrom 102 = .ok (.bipush 40, 2) := by decide +kernel
theorem dX1_copyFrom_104 : decode cX1_copyFrom 104 = .ok (.invokestatic 49, 3) := by decide +kernel
theorem dX1_copyFrom_107 : decode cX1_copyFrom 107 = .ok (.aload_n 1, 1) := by decide +kernel
theorem dX1_copyFrom_108 : decode cX1_copyFrom 108 = .ok (.getfield 40, 3) := by decide +kernel
theorem dX1_copyFrom_111 : decode cX1_copyFrom 111 = .ok (.iconst 0, 1) := by decide +kernel
theorem dX1_copyFrom_112 : decode cX1_copyFrom 112 = .ok (.aload_n 0, 1) := by decide +kernel
theorem dX1_copyFrom_113 : decode cX1_copyFrom 113 = .ok (.getfield 40, 3) := by decide +kernel
theorem dX1_copyFrom_116 : decode cX1_copyFrom 116 = .ok (.iconst 0, 1) := by decide +kernel
theorem dX1_copyFrom_117 : decode cX1_copyFrom 117 = .ok (.bipush 40, 2) := by decide +kernel
theorem dX1_copyFrom_119 : decode cX1_copyFrom 119 = .ok (.invokestatic 49, 3) := by decide +kernel
theorem dX1_copyFrom_122 : decode cX1_copyFrom 122 = .ok (.aload_n 0, 1) := by decide +kernel
theorem dX1_copyFrom_123 : decode cX1_copyFrom 123 = .ok (.aload_n 1, 1) := by decide +kernel
theorem dX1_copyFrom_124 : decode cX1_copyFrom 124 = .ok (.getfield 43, 3) := by decide +kernel
theorem dX1_copyFrom_127 : decode cX1_copyFrom 127 = .ok (.putfield 43, 3) := by decide +kernel
theorem dX1_copyFrom_130 : decode cX1_copyFrom 130 = .ok (.aload_n 0, 1) := by decide +kernel
theorem dX1_copyFrom_131 : decode cX1_copyFrom 131 = .ok (.aload_n 1, 1) := by decide +kernel
theorem dX1_copyFrom_132 : decode cX1_copyFrom 132 = .ok (.getfield 46, 3) := by decide +kernel
theorem dX1_copyFrom_135 : decode cX1_copyFrom 135 = .ok (.putfield 46, 3) := by decide +kernel
theorem dX1_copyFrom_138 : decode cX1_copyFrom 138 = .ok (.return_, 1) := by decide +kernel
theorem dX1_has_0 : decode cX1_has 0 = .ok (.iload_n 1, 1) := by decide +kernel
theorem dX1_has_1 : decode cX1_has 1 = .ok (.ifCond .lt 15, 3) := by decide +kernel
theorem dX1_has_4 : decode cX1_has 4 = .ok (.iload_n 1, 1) := by decide +kernel
theorem dX1_has_5 : decode cX1_has 5 = .ok (.aload_n 0, 1) := by decide +kernel
theorem dX1_has_6 : decode cX1_has 6 = .ok (.getfield 9, 3) := by decide +kernel
theorem dX1_has_9 : decode cX1_has 9 = .ok (.if_icmp .ge 7, 3) := by decide +kernel
theorem dX1_has_12 : decode cX1_has 12 = .ok (.iconst 1, 1) := by decide +kernel
theorem dX1_has_13 : decode cX1_has 13 = .ok (.goto 4, 3) := by decide +kernel
theorem dX1_has_16 : decode cX1_has 16 = .ok (.iconst 0, 1) := by decide +kernel
theorem dX1_has_17 : decode cX1_has 17 = .ok (.ireturn, 1) := by decide +kernel
set_option maxRecDepth 20000 in
theorem ggX1_add_X1_seeWhoWaits : GoodIn wsX1_add wsX1_seeWhoWaits := goodIn_r _ [11, 12, 13, 14, 15, 1, 4, 2, 16, 17, 18, 19, 20, 21, 22, 23, 24, 25, 26, 27] (by decide +kernel) (by decide +kernel)
set_option maxRecDepth 20000 in
theorem gX1_add_X1_seeWhoWaits : GoodIn wsX1_add (wsV RX1 55 RX1 yX1_seeWhoWaits wsX1_seeWhoWaits) := goodIn_app (goodIn_of _ (by decide +kernel)) ggX1_add_X1_seeWhoWaits
theorem dX1_add_0 : decode cX1_add 0 = .ok (.aload_n 0, 1) := by decide +kernel
theorem dX1_add_1 : decode cX1_add 1 = .ok (.getfield 9, 3) := by decide +kernel
theorem dX1_add_4 : decode cX1_add 4 = .ok (.istore 4, 2) := by decide +kernel
theorem dX1_add_6 : decode cX1_add 6 = .ok (.aload_n 0, 1) := by decide +kernel
theorem dX1_add_7 : decode cX1_add 7 = .ok (.getfield 24, 3) := by decide +kernel
theorem dX1_add_10 : decode cX1_add 10 = .ok (.iload 4, 2) := by decide +kernel
theorem dX1_add_12 : decode cX1_add 12 = .ok (.iload_n 1, 1) := by decide +kernel
theorem dX1_add_13 : decode cX1_add 13 = .ok (.ifCond .eq 7, 3) := by decide +kernel
theorem dX1_add_16 : decode cX1_add 16 = .ok (.iconst 1, 1) := by decide +kernel
theorem dX1_add_17 : decode cX1_add 17 = .ok (.goto 4, 3) := by decide +kernel
theorem dX1_add_20 : decode cX1_add 20 = .ok (.iconst 0, 1) := by decide +kernel
theorem dX1_add_21 : decode cX1_add 21 = .ok (.iastore, 1) := by decide +kernel
theorem dX1_add_22 : decode cX1_add 22 = .ok (.aload_n 0, 1) := by decide +kernel
theorem dX1_add_23 : decode cX1_add 23 = .ok (.getfield 28, 3) := by decide +kernel
theorem dX1_add_26 : decode cX1_add 26 = .ok (.iload 4, 2) := by decide +kernel
theorem dX1_add_28 : decode cX1_add 28 = .ok (.iload_n 2, 1) := by decide +kernel
theorem dX1_add_29 : decode cX1_add 29 = .ok (.iastore, 1) := by decide +kernel
theorem dX1_add_30 : decode cX1_add 30 = .ok (.aload_n 0, 1) := by decide +kernel
theorem dX1_add_31 : decode cX1_add 31 = .ok (.getfield 31, 3) := by decide +kernel
theorem dX1_add_34 : decode cX1_add 34 = .ok (.iload 4, 2) := by decide +kernel
theorem dX1_add_36 : decode cX1_add 36 = .ok (.iconst 0, 1) := by decide +kernel
theorem dX1_add_37 : decode cX1_add 37 = .ok (.iastore, 1) := by decide +kernel
theorem dX1_add_38 : decode cX1_add 38 = .ok (.aload_n 0, 1) := by decide +kernel
theorem dX1_add_39 : decode cX1_add 39 = .ok (.getfield 34, 3) := by decide +kernel
theorem dX1_add_42 : decode cX1_add 42 = .ok (.iload 4, 2) := by decide +kernel
theorem dX1_add_44 : decode cX1_add 44 = .ok (.iload_n 3, 1) := by decide +kernel
theorem dX1_add_45 : decode cX1_add 45 = .ok (.iastore, 1) := by decide +kernel
theorem dX1_add_46 : decode cX1_add 46 = .ok (.aload_n 0, 1) := by decide +kernel
theorem dX1_add_47 : decode cX1_add 47 = .ok (.getfield 37, 3) := by decide +kernel
theorem dX1_add_50 : decode cX1_add 50 = .ok (.iload 4, 2) := by decide +kernel
theorem dX1_add_52 : decode cX1_add 52 = .ok (.iconst (-1), 1) := by decide +kernel
theorem dX1_add_53 : decode cX1_add 53 = .ok (.iastore, 1) := by decide +kernel
theorem dX1_add_54 : decode cX1_add 54 = .ok (.aload_n 0, 1) := by decide +kernel
theorem dX1_add_55 : decode cX1_add 55 = .ok (.dup, 1) := by decide +kernel
theorem dX1_add_56 : decode cX1_add 56 = .ok (.getfield 9, 3) := by decide +kernel
theorem dX1_add_59 : decode cX1_add 59 = .ok (.iconst 1, 1) := by decide +kernel
theorem dX1_add_60 : decode cX1_add 60 = .ok (.iadd, 1) := by decide +kernel
theorem dX1_add_61 : decode cX1_add 61 = .ok (.putfield 9, 3) := by decide +kernel
theorem dX1_add_64 : decode cX1_add 64 = .ok (.aload_n 0, 1) := by decide +kernel
theorem dX1_add_65 : decode cX1_add 65 = .ok (.invokevirtual 55, 3) := by decide +kernel
theorem dX1_add_68 : decode cX1_add 68 = .ok (.iload 4, 2) := by decide +kernel
theorem dX1_add_70 : decode cX1_add 70 = .ok (.ireturn, 1) := by decide +kernel
set_option maxRecDepth 20000 in
theorem ggX1_endWait_X1_seeWhoWaits : GoodIn wsX1_endWait wsX1_seeWhoWaits := goodIn_r _ [7, 8, 9, 10, 11, 12, 1, 13, 14, 15, 16, 17, 18, 19, 20, 21, 22, 23, 24, 25] (by decide +kernel) (by decide +kernel)
set_option maxRecDepth 20000 in
theorem gX1_endWait_X1_seeWhoWaits : GoodIn wsX1_endWait (wsV RX1 55 RX1 yX1_seeWhoWaits wsX1_seeWhoWaits) := goodIn_app (goodIn_of _ (by decide +kernel)) ggX1_endWait_X1_seeWhoWaits
theorem dX1_endWait_0 : decode cX1_endWait 0 = .ok (.aload_n 0, 1) := by decide +kernel
theorem dX1_endWait_1 : decode cX1_endWait 1 = .ok (.getfield 31, 3) := by decide +kernel
theorem dX1_endWait_4 : decode cX1_endWait 4 = .ok (.iload_n 1, 1) := by decide +kernel
theorem dX1_endWait_5 : decode cX1_endWait 5 = .ok (.iload_n 2, 1) := by decide +kernel
theorem dX1_endWait_6 : decode cX1_endWait 6 = .ok (.iastore, 1) := by decide +kernel
theorem dX1_endWait_7 : decode cX1_endWait 7 = .ok (.aload_n 0, 1) := by decide +kernel
theorem dX1_endWait_8 : decode cX1_endWait 8 = .ok (.getfield 40, 3) := by decide +kernel
theorem dX1_endWait_11 : decode cX1_endWait 11 = .ok (.iload_n 1, 1) := by decide +kernel
theorem dX1_endWait_12 : decode cX1_endWait 12 = .ok (.iload_n 3, 1) := by decide +kernel
theorem dX1_endWait_13 : decode cX1_endWait 13 = .ok (.iastore, 1) := by decide +kernel
theorem dX1_endWait_14 : decode cX1_endWait 14 = .ok (.aload_n 0, 1) := by decide +kernel
theorem dX1_endWait_15 : decode cX1_endWait 15 = .ok (.invokevirtual 55, 3) := by decide +kernel
theorem dX1_endWait_18 : decode cX1_endWait 18 = .ok (.return_, 1) := by decide +kernel
theorem dX1_endPassage_0 : decode cX1_endPassage 0 = .ok (.aload_n 0, 1) := by decide +kernel
theorem dX1_endPassage_1 : decode cX1_endPassage 1 = .ok (.getfield 31, 3) := by decide +kernel
theorem dX1_endPassage_4 : decode cX1_endPassage 4 = .ok (.iload_n 1, 1) := by decide +kernel
theorem dX1_endPassage_5 : decode cX1_endPassage 5 = .ok (.iconst 2, 1) := by decide +kernel
theorem dX1_endPassage_6 : decode cX1_endPassage 6 = .ok (.iastore, 1) := by decide +kernel
theorem dX1_endPassage_7 : decode cX1_endPassage 7 = .ok (.aload_n 0, 1) := by decide +kernel
theorem dX1_endPassage_8 : decode cX1_endPassage 8 = .ok (.getfield 37, 3) := by decide +kernel
theorem dX1_endPassage_11 : decode cX1_endPassage 11 = .ok (.iload_n 1, 1) := by decide +kernel
theorem dX1_endPassage_12 : decode cX1_endPassage 12 = .ok (.iload_n 2, 1) := by decide +kernel
theorem dX1_endPassage_13 : decode cX1_endPassage 13 = .ok (.iastore, 1) := by decide +kernel
theorem dX1_endPassage_14 : decode cX1_endPassage 14 = .ok (.aload_n 0, 1) := by decide +kernel
theorem dX1_endPassage_15 : decode cX1_endPassage 15 = .ok (.dup, 1) := by decide +kernel
theorem dX1_endPassage_16 : decode cX1_endPassage 16 = .ok (.getfield 15, 3) := by decide +kernel
theorem dX1_endPassage_19 : decode cX1_endPassage 19 = .ok (.iconst 1, 1) := by decide +kernel
theorem dX1_endPassage_20 : decode cX1_endPassage 20 = .ok (.iadd, 1) := by decide +kernel
theorem dX1_endPassage_21 : decode cX1_endPassage 21 = .ok (.putfield 15, 3) := by decide +kernel
theorem dX1_endPassage_24 : decode cX1_endPassage 24 = .ok (.return_, 1) := by decide +kernel
theorem dX1_waited_0 : decode cX1_waited 0 = .ok (.aload_n 0, 1) := by decide +kernel
theorem dX1_waited_1 : decode cX1_waited 1 = .ok (.getfield 31, 3) := by decide +kernel
theorem dX1_waited_4 : decode cX1_waited 4 = .ok (.iload_n 1, 1) := by decide +kernel
theorem dX1_waited_5 : decode cX1_waited 5 = .ok (.iaload, 1) := by decide +kernel
theorem dX1_waited_6 : decode cX1_waited 6 = .ok (.ifCond .ne 7, 3) := by decide +kernel
theorem dX1_waited_9 : decode cX1_waited 9 = .ok (.iload_n 2, 1) := by decide +kernel
theorem dX1_waited_10 : decode cX1_waited 10 = .ok (.goto 9, 3) := by decide +kernel
theorem dX1_waited_13 : decode cX1_waited 13 = .ok (.aload_n 0, 1) := by decide +kernel
theorem dX1_waited_14 : decode cX1_waited 14 = .ok (.getfield 40, 3) := by decide +kernel
theorem dX1_waited_17 : decode cX1_waited 17 = .ok (.iload_n 1, 1) := by decide +kernel
theorem dX1_waited_18 : decode cX1_waited 18 = .ok (.iaload, 1) := by decide +kernel
theorem dX1_waited_19 : decode cX1_waited 19 = .ok (.istore_n 3, 1) := by decide +kernel
theorem dX1_waited_20 : decode cX1_waited 20 = .ok (.iload_n 3, 1) := by decide +kernel
theorem dX1_waited_21 : decode cX1_waited 21 = .ok (.aload_n 0, 1) := by decide +kernel
theorem dX1_waited_22 : decode cX1_waited 22 = .ok (.getfield 34, 3) := by decide +kernel
theorem dX1_waited_25 : decode cX1_waited 25 = .ok (.iload_n 1, 1) := by decide +kernel
theorem dX1_waited_26 : decode cX1_waited 26 = .ok (.iaload, 1) := by decide +kernel
theorem dX1_waited_27 : decode cX1_waited 27 = .ok (.isub, 1) := by decide +kernel
theorem dX1_waited_28 : decode cX1_waited 28 = .ok (.ireturn, 1) := by decide +kernel
theorem dX1_firstOfAll_0 : decode cX1_firstOfAll 0 = .ok (.aload_n 0, 1) := by decide +kernel
theorem dX1_firstOfAll_1 : decode cX1_firstOfAll 1 = .ok (.getfield 43, 3) := by decide +kernel
theorem dX1_firstOfAll_4 : decode cX1_firstOfAll 4 = .ok (.iconst (-1), 1) := by decide +kernel
theorem dX1_firstOfAll_5 : decode cX1_firstOfAll 5 = .ok (.if_icmp .ne 8, 3) := by decide +kernel
theorem dX1_firstOfAll_8 : decode cX1_firstOfAll 8 = .ok (.aload_n 0, 1) := by decide +kernel
theorem dX1_firstOfAll_9 : decode cX1_firstOfAll 9 = .ok (.getfield 46, 3) := by decide +kernel
theorem dX1_firstOfAll_12 : decode cX1_firstOfAll 12 = .ok (.ireturn, 1) := by decide +kernel
theorem dX1_firstOfAll_13 : decode cX1_firstOfAll 13 = .ok (.aload_n 0, 1) := by decide +kernel
theorem dX1_firstOfAll_14 : decode cX1_firstOfAll 14 = .ok (.getfield 46, 3) := by decide +kernel
theorem dX1_firstOfAll_17 : decode cX1_firstOfAll 17 = .ok (.iconst (-1), 1) := by decide +kernel
theorem dX1_firstOfAll_18 : decode cX1_firstOfAll 18 = .ok (.if_icmp .ne 10, 3) := by decide +kernel
theorem dX1_firstOfAll_21 : decode cX1_firstOfAll 21 = .ok (.aload_n 0, 1) := by decide +kernel
theorem dX1_firstOfAll_22 : decode cX1_firstOfAll 22 = .ok (.getfield 43, 3) := by decide +kernel
theorem dX1_firstOfAll_25 : decode cX1_firstOfAll 25 = .ok (.goto 14, 3) := by decide +kernel
theorem dX1_firstOfAll_28 : decode cX1_firstOfAll 28 = .ok (.aload_n 0, 1) := by decide +kernel
theorem dX1_firstOfAll_29 : decode cX1_firstOfAll 29 = .ok (.getfield 43, 3) := by decide +kernel
theorem dX1_firstOfAll_32 : decode cX1_firstOfAll 32 = .ok (.aload_n 0, 1) := by decide +kernel
theorem dX1_firstOfAll_33 : decode cX1_firstOfAll 33 = .ok (.getfield 46, 3) := by decide +kernel
theorem dX1_firstOfAll_36 : decode cX1_firstOfAll 36 = .ok (.invokestatic 58, 3) := by decide +kernel
theorem dX1_firstOfAll_39 : decode cX1_firstOfAll 39 = .ok (.ireturn, 1) := by decide +kernel
theorem dX1_firstBargeElseCart_0 : decode cX1_firstBargeElseCart 0 = .ok (.aload_n 0, 1) := by decide +kernel
theorem dX1_firstBargeElseCart_1 : decode cX1_firstBargeElseCart 1 = .ok (.getfield 43, 3) := by decide +kernel
theorem dX1_firstBargeElseCart_4 : decode cX1_firstBargeElseCart 4 = .ok (.iconst (-1), 1) := by decide +kernel
theorem dX1_firstBargeElseCart_5 : decode cX1_firstBargeElseCart 5 = .ok (.if_icmp .eq 10, 3) := by decide +kernel
theorem dX1_firstBargeElseCart_8 : decode cX1_firstBargeElseCart 8 = .ok (.aload_n 0, 1) := by decide +kernel
theorem dX1_firstBargeElseCart_9 : decode cX1_firstBargeElseCart 9 = .ok (.getfield 43, 3) := by decide +kernel
theorem dX1_firstBargeElseCart_12 : decode cX1_firstBargeElseCart 12 = .ok (.goto 7, 3) := by decide +kernel
theorem dX1_firstBargeElseCart_15 : decode cX1_firstBargeElseCart 15 = .ok (.aload_n 0, 1) := by decide +kernel
theorem dX1_firstBargeElseCart_16 : decode cX1_firstBargeElseCart 16 = .ok (.getfield 46, 3) := by decide +kernel
theorem dX1_firstBargeElseCart_19 : decode cX1_firstBargeElseCart 19 = .ok (.ireturn, 1) := by decide +kernel
theorem dX1_firstCartElseBarge_0 : decode cX1_firstCartElseBarge 0 = .ok (.aload_n 0, 1) := by decide +kernel
theorem dX1_firstCartElseBarge_1 : decode cX1_firstCartElseBarge 1 = .ok (.getfield 46, 3) := by decide +kernel
theorem dX1_firstCartElseBarge_4 : decode cX1_firstCartElseBarge 4 = .ok (.iconst (-1), 1) := by decide +kernel
theorem dX1_firstCartElseBarge_5 : decode cX1_firstCartElseBarge 5 = .ok (.if_icmp .eq 10, 3) := by decide +kernel
theorem dX1_firstCartElseBarge_8 : decode cX1_firstCartElseBarge 8 = .ok (.aload_n 0, 1) := by decide +kernel
theorem dX1_firstCartElseBarge_9 : decode cX1_firstCartElseBarge 9 = .ok (.getfield 46, 3) := by decide +kernel
theorem dX1_firstCartElseBarge_12 : decode cX1_firstCartElseBarge 12 = .ok (.goto 7, 3) := by decide +kernel
theorem dX1_firstCartElseBarge_15 : decode cX1_firstCartElseBarge 15 = .ok (.aload_n 0, 1) := by decide +kernel
theorem dX1_firstCartElseBarge_16 : decode cX1_firstCartElseBarge 16 = .ok (.getfield 43, 3) := by decide +kernel
theorem dX1_firstCartElseBarge_19 : decode cX1_firstCartElseBarge 19 = .ok (.ireturn, 1) := by decide +kernel
theorem dX1_seeWhoWaits_0 : decode cX1_seeWhoWaits 0 = .ok (.aload_n 0, 1) := by decide +kernel
theorem dX1_seeWhoWaits_1 : decode cX1_seeWhoWaits 1 = .ok (.iconst 0, 1) := by decide +kernel
theorem dX1_seeWhoWaits_2 : decode cX1_seeWhoWaits 2 = .ok (.putfield 18, 3) := by decide +kernel
theorem dX1_seeWhoWaits_5 : decode cX1_seeWhoWaits 5 = .ok (.aload_n 0, 1) := by decide +kernel
theorem dX1_seeWhoWaits_6 : decode cX1_seeWhoWaits 6 = .ok (.iconst 0, 1) := by decide +kernel
theorem dX1_seeWhoWaits_7 : decode cX1_seeWhoWaits 7 = .ok (.putfield 21, 3) := by decide +kernel
theorem dX1_seeWhoWaits_10 : decode cX1_seeWhoWaits 10 = .ok (.aload_n 0, 1) := by decide +kernel
theorem dX1_seeWhoWaits_11 : decode cX1_seeWhoWaits 11 = .ok (.iconst (-1), 1) := by decide +kernel
theorem dX1_seeWhoWaits_12 : decode cX1_seeWhoWaits 12 = .ok (.putfield 43, 3) := by decide +kernel
theorem dX1_seeWhoWaits_15 : decode cX1_seeWhoWaits 15 = .ok (.aload_n 0, 1) := by decide +kernel
theorem dX1_seeWhoWaits_16 : decode cX1_seeWhoWaits 16 = .ok (.iconst (-1), 1) := by decide +kernel
theorem dX1_seeWhoWaits_17 : decode cX1_seeWhoWaits 17 = .ok (.putfield 46, 3) := by decide +kernel
theorem dX1_seeWhoWaits_20 : decode cX1_seeWhoWaits 20 = .ok (.aload_n 0, 1) := by decide +kernel
theorem dX1_seeWhoWaits_21 : decode cX1_seeWhoWaits 21 = .ok (.getfield 9, 3) := by decide +kernel
theorem dX1_seeWhoWaits_24 : decode cX1_seeWhoWaits 24 = .ok (.iconst 1, 1) := by decide +kernel
theorem dX1_seeWhoWaits_25 : decode cX1_seeWhoWaits 25 = .ok (.isub, 1) := by decide +kernel
theorem dX1_seeWhoWaits_26 : decode cX1_seeWhoWaits 26 = .ok (.istore_n 1, 1) := by decide +kernel
theorem dX1_seeWhoWaits_27 : decode cX1_seeWhoWaits 27 = .ok (.iload_n 1, 1) := by decide +kernel
theorem dX1_seeWhoWaits_28 : decode cX1_seeWhoWaits 28 = .ok (.ifCond .lt 64, 3) := by decide +kernel
theorem dX1_seeWhoWaits_31 : decode cX1_seeWhoWaits 31 = .ok (.aload_n 0, 1) := by decide +kernel
theorem dX1_seeWhoWaits_32 : decode cX1_seeWhoWaits 32 = .ok (.getfield 31, 3) := by decide +kernel
theorem dX1_seeWhoWaits_35 : decode cX1_seeWhoWaits 35 = .ok (.iload_n 1, 1) := by decide +kernel
theorem dX1_seeWhoWaits_36 : decode cX1_seeWhoWaits 36 = .ok (.iaload, 1) := by decide +kernel
theorem dX1_seeWhoWaits_37 : decode cX1_seeWhoWaits 37 = .ok (.ifCond .eq 6, 3) := by decide +kernel
theorem dX1_seeWhoWaits_40 : decode cX1_seeWhoWaits 40 = .ok (.goto 46, 3) := by decide +kernel
theorem dX1_seeWhoWaits_43 : decode cX1_seeWhoWaits 43 = .ok (.aload_n 0, 1) := by decide +kernel
theorem dX1_seeWhoWaits_44 : decode cX1_seeWhoWaits 44 = .ok (.getfield 24, 3) := by decide +kernel
theorem dX1_seeWhoWaits_47 : decode cX1_seeWhoWaits 47 = .ok (.iload_n 1, 1) := by decide +kernel
theorem dX1_seeWhoWaits_48 : decode cX1_seeWhoWaits 48 = .ok (.iaload, 1) := by decide +kernel
theorem dX1_seeWhoWaits_49 : decode cX1_seeWhoWaits 49 = .ok (.iconst 1, 1) := by decide +kernel
theorem dX1_seeWhoWaits_50 : decode cX1_seeWhoWaits 50 = .ok (.if_icmp .ne 21, 3) := by decide +kernel
theorem dX1_seeWhoWaits_53 : decode cX1_seeWhoWaits 53 = .ok (.aload_n 0, 1) := by decide +kernel
theorem dX1_seeWhoWaits_54 : decode cX1_seeWhoWaits 54 = .ok (.dup, 1) := by decide +kernel
theorem dX1_seeWhoWaits_55 : decode cX1_seeWhoWaits 55 = .ok (.getfield 18, 3) := by decide +kernel
theorem dX1_seeWhoWaits_58 : decode cX1_seeWhoWaits 58 = .ok (.iconst 1, 1) := by decide +kernel
theorem dX1_seeWhoWaits_59 : decode cX1_seeWhoWaits 59 = .ok (.iadd, 1) := by decide +kernel
theorem dX1_seeWhoWaits_60 : decode cX1_seeWhoWaits 60 = .ok (.putfield 18, 3) := by decide +kernel
theorem dX1_seeWhoWaits_63 : decode cX1_seeWhoWaits 63 = .ok (.aload_n 0, 1) := by decide +kernel
theorem dX1_seeWhoWaits_64 : decode cX1_seeWhoWaits 64 = .ok (.iload_n 1, 1) := by decide +kernel
theorem dX1_seeWhoWaits_65 : decode cX1_seeWhoWaits 65 = .ok (.putfield 43, 3) := by decide +kernel
theorem dX1_seeWhoWaits_68 : decode cX1_seeWhoWaits 68 = .ok (.goto 18, 3) := by decide +kernel
theorem dX1_seeWhoWaits_71 : decode cX1_seeWhoWaits 71 = .ok (.aload_n 0, 1) := by decide +kernel
theorem dX1_seeWhoWaits_72 : decode cX1_seeWhoWaits 72 = .ok (.dup, 1) := by decide +kernel
theorem dX1_seeWhoWaits_73 : decode cX1_seeWhoWaits 73 = .ok (.getfield 21, 3) := by decide +kernel
theorem dX1_seeWhoWaits_76 : decode cX1_seeWhoWaits 76 = .ok (.iconst 1, 1) := by decide +kernel
theorem dX1_seeWhoWaits_77 : decode cX1_seeWhoWaits 77 = .ok (.iadd, 1) := by decide +kernel
theorem dX1_seeWhoWaits_78 : decode cX1_seeWhoWaits 78 = .ok (.putfield 21, 3) := by decide +kernel
theorem dX1_seeWhoWaits_81 : decode cX1_seeWhoWaits 81 = .ok (.aload_n 0, 1) := by decide +kernel
theorem dX1_seeWhoWaits_82 : decode cX1_seeWhoWaits 82 = .ok (.iload_n 1, 1) := by decide +kernel
theorem dX1_seeWhoWaits_83 : decode cX1_seeWhoWaits 83 = .ok (.putfield 46, 3) := by decide +kernel
theorem dX1_seeWhoWaits_86 : decode cX1_seeWhoWaits 86 = .ok (.iinc 1 (-1), 3) := by decide +kernel
theorem dX1_seeWhoWaits_89 : decode cX1_seeWhoWaits 89 = .ok (.goto (-62), 3) := by decide +kernel
theorem dX1_seeWhoWaits_92 : decode cX1_seeWhoWaits 92 = .ok (.return_, 1) := by decide +kernel
set_option maxRecDepth 20000 in
theorem ggX2_init_X0_init : GoodIn wsX2_init wsX0_init := goodIn_r _ [10, 11, 2, 3, 12, 13, 14, 15, 16, 17, 18, 19, 20, 21, 22, 23, 24, 25, 26, 27, 28, 29, 30, 31, 32, 33, 34, 35, 36, 37, 38, 39, 40, 41, 42, 43, 44, 45, 46, 47, 48, 49, 50, 51, 52, 55, 56, 57, 58, 59, 60, 61, 62, 63, 64, 65, 66] (by decide +kernel) (by decide +kernel)
set_option maxRecDepth 20000 in
theorem gX2_init_X0_init_n9 : GoodIn wsX2_init (wsX0_init) := ggX2_init_X0_init
theorem dX2_init_0 : decode cX2_init 0 = .ok (.aload_n 0, 1) := by decide +kernel
theorem dX2_init_1 : decode cX2_init 1 = .ok (.invokespecial 1, 3) := by decide +kernel
theorem dX2_init_4 : decode cX2_init 4 = .ok (.aload_n 0, 1) := by decide +kernel
theorem dX2_init_5 : decode cX2_init 5 = .ok (.new 7, 3) := by decide +kernel
theorem dX2_init_8 : decode cX2_init 8 = .ok (.dup, 1) := by decide +kernel
theorem dX2_init_9 : decode cX2_init 9 = .ok (.invokespecial 9, 3) := by decide +kernel
theorem dX2_init_12 : decode cX2_init 12 = .ok (.putfield 10, 3) := by decide +kernel
theorem dX2_init_15 : decode cX2_init 15 = .ok (.aload_n 0, 1) := by decide +kernel
theorem dX2_init_16 : decode cX2_init 16 = .ok (.new 7, 3) := by decide +kernel
theorem dX2_init_19 : decode cX2_init 19 = .ok (.dup, 1) := by decide +kernel
theorem dX2_init_20 : decode cX2_init 20 = .ok (.invokespecial 9, 3) := by decide +kernel
theorem dX2_init_23 : decode cX2_init 23 = .ok (.putfield 16, 3) := by decide +kernel
theorem dX2_init_26 : decode cX2_init 26 = .ok (.return_, 1) := by decide +kernel
set_option maxRecDepth 20000 in
theorem ggX2_come_X1_add : GoodIn wsX2_come wsX1_add := goodIn_r _ [13, 14, 15, 16, 17, 18, 19, 20, 21, 22, 12, 23, 24, 25, 26, 27, 41, 42, 43, 44, 45, 46, 47, 48, 49, 50, 51, 52] (by decide +kernel) (by decide +kernel)
set_option maxRecDepth 20000 in
theorem gX2_come_X1_add : GoodIn wsX2_come (wsV RX2 44 RX1 yX1_add wsX1_add) := goodIn_app (goodIn_of _ (by decide +kernel)) ggX2_come_X1_add
theorem dX2_come_0 : decode cX2_come 0 = .ok (.iload_n 2, 1) := by decide +kernel
theorem dX2_come_1 : decode cX2_come 1 = .ok (.iconst 1, 1) := by decide +kernel
theorem dX2_come_2 : decode cX2_come 2 = .ok (.if_icmp .lt 9, 3) := by decide +kernel
theorem dX2_come_5 : decode cX2_come 5 = .ok (.iload_n 2, 1) := by decide +kernel
theorem dX2_come_6 : decode cX2_come 6 = .ok (.bipush 6, 2) := by decide +kernel
theorem dX2_come_8 : decode cX2_come 8 = .ok (.if_icmp .le 13, 3) := by decide +kernel
theorem dX2_come_11 : decode cX2_come 11 = .ok (.new 19, 3) := by decide +kernel
theorem dX2_come_14 : decode cX2_come 14 = .ok (.dup, 1) := by decide +kernel
theorem dX2_come_15 : decode cX2_come 15 = .ok (.ldc 21, 2) := by decide +kernel
theorem dX2_come_17 : decode cX2_come 17 = .ok (.invokespecial 23, 3) := by decide +kernel
theorem dX2_come_20 : decode cX2_come 20 = .ok (.athrow, 1) := by decide +kernel
theorem dX2_come_21 : decode cX2_come 21 = .ok (.aload_n 0, 1) := by decide +kernel
theorem dX2_come_22 : decode cX2_come 22 = .ok (.getfield 10, 3) := by decide +kernel
theorem dX2_come_25 : decode cX2_come 25 = .ok (.getfield 26, 3) := by decide +kernel
theorem dX2_come_28 : decode cX2_come 28 = .ok (.getfield 30, 3) := by decide +kernel
theorem dX2_come_31 : decode cX2_come 31 = .ok (.bipush 40, 2) := by decide +kernel
theorem dX2_come_33 : decode cX2_come 33 = .ok (.if_icmp .lt 13, 3) := by decide +kernel
theorem dX2_come_36 : decode cX2_come 36 = .ok (.new 36, 3) := by decide +kernel
theorem dX2_come_39 : decode cX2_come 39 = .ok (.dup, 1) := by decide +kernel
theorem dX2_come_40 : decode cX2_come 40 = .ok (.ldc 38, 2) := by decide +kernel
theorem dX2_come_42 : decode cX2_come 42 = .ok (.invokespecial 40, 3) := by decide +kernel
theorem dX2_come_45 : decode cX2_come 45 = .ok (.athrow, 1) := by decide +kernel
theorem dX2_come_46 : decode cX2_come 46 = .ok (.aload_n 0, 1) := by decide +kernel
theorem dX2_come_47 : decode cX2_come 47 = .ok (.getfield 10, 3) := by decide +kernel
theorem dX2_come_50 : decode cX2_come 50 = .ok (.getfield 26, 3) := by decide +kernel
theorem dX2_come_53 : decode cX2_come 53 = .ok (.iload_n 1, 1) := by decide +kernel
theorem dX2_come_54 : decode cX2_come 54 = .ok (.iload_n 2, 1) := by decide +kernel
theorem dX2_come_55 : decode cX2_come 55 = .ok (.aload_n 0, 1) := by decide +kernel
theorem dX2_come_56 : decode cX2_come 56 = .ok (.getfield 10, 3) := by decide +kernel
theorem dX2_come_59 : decode cX2_come 59 = .ok (.getfield 41, 3) := by decide +kernel
theorem dX2_come_62 : decode cX2_come 62 = .ok (.invokevirtual 44, 3) := by decide +kernel
theorem dX2_come_65 : decode cX2_come 65 = .ok (.ireturn, 1) := by decide +kernel
set_option maxRecDepth 20000 in
theorem ggX2_leave_X1_has : GoodIn wsX2_leave wsX1_has := goodIn_r _ [13, 14, 48, 49, 50, 51, 52, 53, 54, 55, 56, 57, 58, 59] (by decide +kernel) (by decide +kernel)
set_option maxRecDepth 20000 in
theorem gX2_leave_X1_has : GoodIn wsX2_leave (wsV RX2 48 RX1 yX1_has wsX1_has) := goodIn_app (goodIn_of _ (by decide +kernel)) ggX2_leave_X1_has
set_option maxRecDepth 20000 in
theorem ggX2_leave_X1_endWait : GoodIn wsX2_leave wsX1_endWait := goodIn_r _ [18, 19, 20, 21, 22, 23, 12, 24, 25, 26, 27, 28, 14, 29, 48, 49, 50, 51, 52, 53, 54, 55, 56, 57, 58, 59] (by decide +kernel) (by decide +kernel)
set_option maxRecDepth 20000 in
theorem gX2_leave_X1_endWait : GoodIn wsX2_leave (wsV RX2 63 RX1 yX1_endWait wsX1_endWait) := goodIn_app (goodIn_of _ (by decide +kernel)) ggX2_leave_X1_endWait
set_option maxRecDepth 20000 in
theorem ggX2_leave_X1_waited : GoodIn wsX2_leave wsX1_waited := goodIn_r _ [33, 19, 20, 34, 48, 49, 50, 51, 52, 53, 54, 55, 56, 57, 58, 59] (by decide +kernel) (by decide +kernel)
set_option maxRecDepth 20000 in
theorem gX2_leave_X1_waited : GoodIn wsX2_leave (wsV RX2 67 RX1 yX1_waited wsX1_waited) := goodIn_app (goodIn_of _ (by decide +kernel)) ggX2_leave_X1_waited
theorem dX2_leave_0 : decode cX2_leave 0 = .ok (.aload_n 0, 1) := by decide +kernel
theorem dX2_leave_1 : decode cX2_leave 1 = .ok (.getfield 10, 3) := by decide +kernel
theorem dX2_leave_4 : decode cX2_leave 4 = .ok (.getfield 26, 3) := by decide +kernel
theorem dX2_leave_7 : decode cX2_leave 7 = .ok (.iload_n 1, 1) := by decide +kernel
theorem dX2_leave_8 : decode cX2_leave 8 = .ok (.invokevirtual 48, 3) := by decide +kernel
theorem dX2_leave_11 : decode cX2_leave 11 = .ok (.ifCond .ne 13, 3) := by decide +kernel
theorem dX2_leave_14 : decode cX2_leave 14 = .ok (.new 52, 3) := by decide +kernel
theorem dX2_leave_17 : decode cX2_leave 17 = .ok (.dup, 1) := by decide +kernel
theorem dX2_leave_18 : decode cX2_leave 18 = .ok (.ldc 54, 2) := by decide +kernel
theorem dX2_leave_20 : decode cX2_leave 20 = .ok (.invokespecial 56, 3) := by decide +kernel
theorem dX2_leave_23 : decode cX2_leave 23 = .ok (.athrow, 1) := by decide +kernel
theorem dX2_leave_24 : decode cX2_leave 24 = .ok (.aload_n 0, 1) := by decide +kernel
theorem dX2_leave_25 : decode cX2_leave 25 = .ok (.getfield 10, 3) := by decide +kernel
theorem dX2_leave_28 : decode cX2_leave 28 = .ok (.getfield 26, 3) := by decide +kernel
theorem dX2_leave_31 : decode cX2_leave 31 = .ok (.getfield 57, 3) := by decide +kernel
theorem dX2_leave_34 : decode cX2_leave 34 = .ok (.iload_n 1, 1) := by decide +kernel
theorem dX2_leave_35 : decode cX2_leave 35 = .ok (.iaload, 1) := by decide +kernel
theorem dX2_leave_36 : decode cX2_leave 36 = .ok (.ifCond .eq 13, 3) := by decide +kernel
theorem dX2_leave_39 : decode cX2_leave 39 = .ok (.new 36, 3) := by decide +kernel
theorem dX2_leave_42 : decode cX2_leave 42 = .ok (.dup, 1) := by decide +kernel
theorem dX2_leave_43 : decode cX2_leave 43 = .ok (.ldc 61, 2) := by decide +kernel
theorem dX2_leave_45 : decode cX2_leave 45 = .ok (.invokespecial 40, 3) := by decide +kernel
theorem dX2_leave_48 : decode cX2_leave 48 = .ok (.athrow, 1) := by decide +kernel
theorem dX2_leave_49 : decode cX2_leave 49 = .ok (.aload_n 0, 1) := by decide +kernel
theorem dX2_leave_50 : decode cX2_leave 50 = .ok (.getfield 10, 3) := by decide +kernel
theorem dX2_leave_53 : decode cX2_leave 53 = .ok (.getfield 26, 3) := by decide +kernel
theorem dX2_leave_56 : decode cX2_leave 56 = .ok (.iload_n 1, 1) := by decide +kernel
theorem dX2_leave_57 : decode cX2_leave 57 = .ok (.iconst 3, 1) := by decide +kernel
theorem dX2_leave_58 : decode cX2_leave 58 = .ok (.aload_n 0, 1) := by decide +kernel
theorem dX2_leave_59 : decode cX2_leave 59 = .ok (.getfield 10, 3) := by decide +kernel
theorem dX2_leave_62 : decode cX2_leave 62 = .ok (.getfield 41, 3) := by decide +kernel
theorem dX2_leave_65 : decode cX2_leave 65 = .ok (.invokevirtual 63, 3) := by decide +kernel
theorem dX2_leave_68 : decode cX2_leave 68 = .ok (.aload_n 0, 1) := by decide +kernel
theorem dX2_leave_69 : decode cX2_leave 69 = .ok (.getfield 10, 3) := by decide +kernel
theorem dX2_leave_72 : decode cX2_leave 72 = .ok (.getfield 26, 3) := by decide +kernel
theorem dX2_leave_75 : decode cX2_leave 75 = .ok (.iload_n 1, 1) := by decide +kernel
theorem dX2_leave_76 : decode cX2_leave 76 = .ok (.aload_n 0, 1) := by decide +kernel
theorem dX2_leave_77 : decode cX2_leave 77 = .ok (.getfield 10, 3) := by decide +kernel
theorem dX2_leave_80 : decode cX2_leave 80 = .ok (.getfield 41, 3) := by decide +kernel
theorem dX2_leave_83 : decode cX2_leave 83 = .ok (.invokevirtual 67, 3) := by decide +kernel
theorem dX2_leave_86 : decode cX2_leave 86 = .ok (.ireturn, 1) := by decide +kernel
theorem dX2_ring_0 : decode cX2_ring 0 = .ok (.iload_n 1, 1) := by decide +kernel
theorem dX2_ring_1 : decode cX2_ring 1 = .ok (.ifCond .lt 8, 3) := by decide +kernel
theorem dX2_ring_4 : decode cX2_ring 4 = .ok (.iload_n 1, 1) := by decide +kernel
theorem dX2_ring_5 : decode cX2_ring 5 = .ok (.iconst 4, 1) := by decide +kernel
theorem dX2_ring_6 : decode cX2_ring 6 = .ok (.if_icmp .le 13, 3) := by decide +kernel
theorem dX2_ring_9 : decode cX2_ring 9 = .ok (.new 19, 3) := by decide +kernel
theorem dX2_ring_12 : decode cX2_ring 12 = .ok (.dup, 1) := by decide +kernel
theorem dX2_ring_13 : decode cX2_ring 13 = .ok (.ldc 71, 2) := by decide +kernel
theorem dX2_ring_15 : decode cX2_ring 15 = .ok (.invokespecial 23, 3) := by decide +kernel
theorem dX2_ring_18 : decode cX2_ring 18 = .ok (.athrow, 1) := by decide +kernel
theorem dX2_ring_19 : decode cX2_ring 19 = .ok (.aload_n 0, 1) := by decide +kernel
theorem dX2_ring_20 : decode cX2_ring 20 = .ok (.getfield 10, 3) := by decide +kernel
theorem dX2_ring_23 : decode cX2_ring 23 = .ok (.getfield 73, 3) := by decide +kernel
theorem dX2_ring_26 : decode cX2_ring 26 = .ok (.istore_n 2, 1) := by decide +kernel
theorem dX2_ring_27 : decode cX2_ring 27 = .ok (.aload_n 0, 1) := by decide +kernel
theorem dX2_ring_28 : decode cX2_ring 28 = .ok (.getfield 10, 3) := by decide +kernel
theorem dX2_ring_31 : decode cX2_ring 31 = .ok (.iload_n 1, 1) := by decide +kernel
theorem dX2_ring_32 : decode cX2_ring 32 = .ok (.putfield 73, 3) := by decide +kernel
theorem dX2_ring_35 : decode cX2_ring 35 = .ok (.iload_n 2, 1) := by decide +kernel
theorem dX2_ring_36 : decode cX2_ring 36 = .ok (.ireturn, 1) := by decide +kernel
theorem dX2_poise_0 : decode cX2_poise 0 = .ok (.iload_n 1, 1) := by decide +kernel
theorem dX2_poise_1 : decode cX2_poise 1 = .ok (.ifCond .lt 9, 3) := by decide +kernel
theorem dX2_poise_4 : decode cX2_poise 4 = .ok (.iload_n 1, 1) := by decide +kernel
theorem dX2_poise_5 : decode cX2_poise 5 = .ok (.bipush 30, 2) := by decide +kernel
theorem dX2_poise_7 : decode cX2_poise 7 = .ok (.if_icmp .le 13, 3) := by decide +kernel
theorem dX2_poise_10 : decode cX2_poise 10 = .ok (.new 19, 3) := by decide +kernel
theorem dX2_poise_13 : decode cX2_poise 13 = .ok (.dup, 1) := by decide +kernel
theorem dX2_poise_14 : decode cX2_poise 14 = .ok (.ldc 76, 2) := by decide +kernel
theorem dX2_poise_16 : decode cX2_poise 16 = .ok (.invokespecial 23, 3) := by decide +kernel
theorem dX2_poise_19 : decode cX2_poise 19 = .ok (.athrow, 1) := by decide +kernel
theorem dX2_poise_20 : decode cX2_poise 20 = .ok (.aload_n 0, 1) := by decide +kernel
theorem dX2_poise_21 : decode cX2_poise 21 = .ok (.getfield 10, 3) := by decide +kernel
theorem dX2_poise_24 : decode cX2_poise 24 = .ok (.getfield 78, 3) := by decide +kernel
theorem dX2_poise_27 : decode cX2_poise 27 = .ok (.ifCond .eq 25, 3) := by decide +kernel
theorem dX2_poise_30 : decode cX2_poise 30 = .ok (.aload_n 0, 1) := by decide +kernel
theorem dX2_poise_31 : decode cX2_poise 31 = .ok (.getfield 10, 3) := by decide +kernel
theorem dX2_poise_34 : decode cX2_poise 34 = .ok (.getfield 78, 3) := by decide +kernel
theorem dX2_poise_37 : decode cX2_poise 37 = .ok (.bipush 60, 2) := by decide +kernel
theorem dX2_poise_39 : decode cX2_poise 39 = .ok (.if_icmp .eq 13, 3) := by decide +kernel
theorem dX2_poise_42 : decode cX2_poise 42 = .ok (.new 36, 3) := by decide +kernel
theorem dX2_poise_45 : decode cX2_poise 45 = .ok (.dup, 1) := by decide +kernel
theorem dX2_poise_46 : decode cX2_poise 46 = .ok (.ldc 81, 2) := by decide +kernel
theorem dX2_poise_48 : decode cX2_poise 48 = .ok (.invokespecial 40, 3) := by decide +kernel
theorem dX2_poise_51 : decode cX2_poise 51 = .ok (.athrow, 1) := by decide +kernel
theorem dX2_poise_52 : decode cX2_poise 52 = .ok (.aload_n 0, 1) := by decide +kernel
theorem dX2_poise_53 : decode cX2_poise 53 = .ok (.getfield 10, 3) := by decide +kernel
theorem dX2_poise_56 : decode cX2_poise 56 = .ok (.getfield 83, 3) := by decide +kernel
theorem dX2_poise_59 : decode cX2_poise 59 = .ok (.istore_n 2, 1) := by decide +kernel
theorem dX2_poise_60 : decode cX2_poise 60 = .ok (.aload_n 0, 1) := by decide +kernel
theorem dX2_poise_61 : decode cX2_poise 61 = .ok (.getfield 10, 3) := by decide +kernel
theorem dX2_poise_64 : decode cX2_poise 64 = .ok (.iload_n 1, 1) := by decide +kernel
theorem dX2_poise_65 : decode cX2_poise 65 = .ok (.putfield 83, 3) := by decide +kernel
theorem dX2_poise_68 : decode cX2_poise 68 = .ok (.iload_n 2, 1) := by decide +kernel
theorem dX2_poise_69 : decode cX2_poise 69 = .ok (.ireturn, 1) := by decide +kernel
theorem dX2_setCold_0 : decode cX2_setCold 0 = .ok (.iload_n 1, 1) := by decide +kernel
theorem dX2_setCold_1 : decode cX2_setCold 1 = .ok (.ifCond .lt 9, 3) := by decide +kernel
theorem dX2_setCold_4 : decode cX2_setCold 4 = .ok (.iload_n 1, 1) := by decide +kernel
theorem dX2_setCold_5 : decode cX2_setCold 5 = .ok (.bipush 8, 2) := by decide +kernel
theorem dX2_setCold_7 : decode cX2_setCold 7 = .ok (.if_icmp .lt 13, 3) := by decide +kernel
theorem dX2_setCold_10 : decode cX2_setCold 10 = .ok (.new 52, 3) := by decide +kernel
theorem dX2_setCold_13 : decode cX2_setCold 13 = .ok (.dup, 1) := by decide +kernel
theorem dX2_setCold_14 : decode cX2_setCold 14 = .ok (.ldc 86, 2) := by decide +kernel
theorem dX2_setCold_16 : decode cX2_setCold 16 = .ok (.invokespecial 56, 3) := by decide +kernel
theorem dX2_setCold_19 : decode cX2_setCold 19 = .ok (.athrow, 1) := by decide +kernel
theorem dX2_setCold_20 : decode cX2_setCold 20 = .ok (.iload_n 2, 1) := by decide +kernel
theorem dX2_setCold_21 : decode cX2_setCold 21 = .ok (.bipush (-3), 2) := by decide +kernel
theorem dX2_setCold_23 : decode cX2_setCold 23 = .ok (.if_icmp .lt 8, 3) := by decide +kernel
theorem dX2_setCold_26 : decode cX2_setCold 26 = .ok (.iload_n 2, 1) := by decide +kernel
theorem dX2_setCold_27 : decode cX2_setCold 27 = .ok (.iconst 3, 1) := by decide +kernel
theorem dX2_setCold_28 : decode cX2_setCold 28 = .ok (.if_icmp .le 13, 3) := by decide +kernel
theorem dX2_setCold_31 : decode cX2_setCold 31 = .ok (.new 19, 3) := by decide +kernel
theorem dX2_setCold_34 : decode cX2_setCold 34 = .ok (.dup, 1) := by decide +kernel
theorem dX2_setCold_35 : decode cX2_setCold 35 = .ok (.ldc 88, 2) := by decide +kernel
theorem dX2_setCold_37 : decode cX2_setCold 37 = .ok (.invokespecial 23, 3) := by decide +kernel
theorem dX2_setCold_40 : decode cX2_setCold 40 = .ok (.athrow, 1) := by decide +kernel
theorem dX2_setCold_41 : decode cX2_setCold 41 = .ok (.aload_n 0, 1) := by decide +kernel
theorem dX2_setCold_42 : decode cX2_setCold 42 = .ok (.getfield 10, 3) := by decide +kernel
theorem dX2_setCold_45 : decode cX2_setCold 45 = .ok (.getfield 90, 3) := by decide +kernel
theorem dX2_setCold_48 : decode cX2_setCold 48 = .ok (.iload_n 1, 1) := by decide +kernel
theorem dX2_setCold_49 : decode cX2_setCold 49 = .ok (.iaload, 1) := by decide +kernel
theorem dX2_setCold_50 : decode cX2_setCold 50 = .ok (.istore_n 3, 1) := by decide +kernel
theorem dX2_setCold_51 : decode cX2_setCold 51 = .ok (.aload_n 0, 1) := by decide +kernel
theorem dX2_setCold_52 : decode cX2_setCold 52 = .ok (.getfield 10, 3) := by decide +kernel
theorem dX2_setCold_55 : decode cX2_setCold 55 = .ok (.getfield 90, 3) := by decide +kernel
theorem dX2_setCold_58 : decode cX2_setCold 58 = .ok (.iload_n 1, 1) := by decide +kernel
theorem dX2_setCold_59 : decode cX2_setCold 59 = .ok (.iload_n 2, 1) := by decide +kernel
theorem dX2_setCold_60 : decode cX2_setCold 60 = .ok (.iastore, 1) := by decide +kernel
theorem dX2_setCold_61 : decode cX2_setCold 61 = .ok (.iload_n 3, 1) := by decide +kernel
theorem dX2_setCold_62 : decode cX2_setCold 62 = .ok (.ireturn, 1) := by decide +kernel
theorem dX2_crack_0 : decode cX2_crack 0 = .ok (.aload_n 0, 1) := by decide +kernel
theorem dX2_crack_1 : decode cX2_crack 1 = .ok (.getfield 10, 3) := by decide +kernel
theorem dX2_crack_4 : decode cX2_crack 4 = .ok (.iconst 0, 1) := by decide +kernel
theorem dX2_crack_5 : decode cX2_crack 5 = .ok (.aload_n 0, 1) := by decide +kernel
theorem dX2_crack_6 : decode cX2_crack 6 = .ok (.getfield 10, 3) := by decide +kernel
theorem dX2_crack_9 : decode cX2_crack 9 = .ok (.getfield 93, 3) := by decide +kernel
theorem dX2_crack_12 : decode cX2_crack 12 = .ok (.iconst 3, 1) := by decide +kernel
theorem dX2_crack_13 : decode cX2_crack 13 = .ok (.isub, 1) := by decide +kernel
theorem dX2_crack_14 : decode cX2_crack 14 = .ok (.invokestatic 96, 3) := by decide +kernel
theorem dX2_crack_17 : decode cX2_crack 17 = .ok (.putfield 93, 3) := by decide +kernel
theorem dX2_crack_20 : decode cX2_crack 20 = .ok (.aload_n 0, 1) := by decide +kernel
theorem dX2_crack_21 : decode cX2_crack 21 = .ok (.getfield 10, 3) := by decide +kernel
theorem dX2_crack_24 : decode cX2_crack 24 = .ok (.getfield 93, 3) := by decide +kernel
theorem dX2_crack_27 : decode cX2_crack 27 = .ok (.ireturn, 1) := by decide +kernel
set_option maxRecDepth 20000 in
theorem ggX2_traveller_X1_has : GoodIn wsX2_traveller wsX1_has := goodIn_r _ [9, 10, 45, 46, 47, 48, 49, 50, 51, 52, 53, 54, 55, 56] (by decide +kernel) (by decide +kernel)
set_option maxRecDepth 20000 in
theorem gX2_traveller_X1_has : GoodIn wsX2_traveller (wsV RX2 48 RX1 yX1_has wsX1_has) := goodIn_app (goodIn_of _ (by decide +kernel)) ggX2_traveller_X1_has
set_option maxRecDepth 20000 in
theorem ggX2_traveller_X0_factOf : GoodIn wsX2_traveller wsX0_factOf := goodIn_r _ [15, 16, 17, 18, 19, 20, 21, 22, 23, 24, 25, 26, 27, 8, 28, 29, 30, 31, 34, 35, 36, 37, 38, 39, 40, 41, 42, 43, 44, 45, 46, 47, 48, 49, 50, 51, 52, 53, 54, 55, 56] (by decide +kernel) (by decide +kernel)
set_option maxRecDepth 20000 in
theorem gX2_traveller_X0_factOf : GoodIn wsX2_traveller (wsV RX2 103 RX0 yX0_factOf wsX0_factOf) := goodIn_app (goodIn_of _ (by decide +kernel)) ggX2_traveller_X0_factOf
theorem dX2_traveller_0 : decode cX2_traveller 0 = .ok (.aload_n 0, 1) := by decide +kernel
theorem dX2_traveller_1 : decode cX2_traveller 1 = .ok (.getfield 10, 3) := by decide +kernel
theorem dX2_traveller_4 : decode cX2_traveller 4 = .ok (.getfield 26, 3) := by decide +kernel
theorem dX2_traveller_7 : decode cX2_traveller 7 = .ok (.iload_n 1, 1) := by decide +kernel
theorem dX2_traveller_8 : decode cX2_traveller 8 = .ok (.invokevirtual 48, 3) := by decide +kernel
theorem dX2_traveller_11 : decode cX2_traveller 11 = .ok (.ifCond .ne 13, 3) := by decide +kernel
theorem dX2_traveller_14 : decode cX2_traveller 14 = .ok (.new 52, 3) := by decide +kernel
theorem dX2_traveller_17 : decode cX2_traveller 17 = .ok (.dup, 1) := by decide +kernel
theorem dX2_traveller_18 : decode cX2_traveller 18 = .ok (.ldc 54, 2) := by decide +kernel
theorem dX2_traveller_20 : decode cX2_traveller 20 = .ok (.invokespecial 56, 3) := by decide +kernel
theorem dX2_traveller_23 : decode cX2_traveller 23 = .ok (.athrow, 1) := by decide +kernel
theorem dX2_traveller_24 : decode cX2_traveller 24 = .ok (.iload_n 2, 1) := by decide +kernel
theorem dX2_traveller_25 : decode cX2_traveller 25 = .ok (.ifCond .lt 9, 3) := by decide +kernel
theorem dX2_traveller_28 : decode cX2_traveller 28 = .ok (.iload_n 2, 1) := by decide +kernel
theorem dX2_traveller_29 : decode cX2_traveller 29 = .ok (.bipush 7, 2) := by decide +kernel
theorem dX2_traveller_31 : decode cX2_traveller 31 = .ok (.if_icmp .lt 13, 3) := by decide +kernel
theorem dX2_traveller_34 : decode cX2_traveller 34 = .ok (.new 52, 3) := by decide +kernel
theorem dX2_traveller_37 : decode cX2_traveller 37 = .ok (.dup, 1) := by decide +kernel
theorem dX2_traveller_38 : decode cX2_traveller 38 = .ok (.ldc 101, 2) := by decide +kernel
theorem dX2_traveller_40 : decode cX2_traveller 40 = .ok (.invokespecial 56, 3) := by decide +kernel
theorem dX2_traveller_43 : decode cX2_traveller 43 = .ok (.athrow, 1) := by decide +kernel
theorem dX2_traveller_44 : decode cX2_traveller 44 = .ok (.aload_n 0, 1) := by decide +kernel
theorem dX2_traveller_45 : decode cX2_traveller 45 = .ok (.getfield 10, 3) := by decide +kernel
theorem dX2_traveller_48 : decode cX2_traveller 48 = .ok (.iload_n 1, 1) := by decide +kernel
theorem dX2_traveller_49 : decode cX2_traveller 49 = .ok (.iload_n 2, 1) := by decide +kernel
theorem dX2_traveller_50 : decode cX2_traveller 50 = .ok (.invokevirtual 103, 3) := by decide +kernel
theorem dX2_traveller_53 : decode cX2_traveller 53 = .ok (.ireturn, 1) := by decide +kernel
set_option maxRecDepth 20000 in
theorem ggX2_count_X0_total : GoodIn wsX2_count wsX0_total := goodIn_r _ [8, 9, 10, 11, 12, 13, 14, 15, 16, 17, 18, 19, 20, 21, 22, 23, 7, 24, 25, 26, 27, 28, 29, 30, 31, 32, 33, 34, 35, 36, 37, 38, 39, 40, 41, 42, 43, 44, 47, 48, 49, 50, 51, 52, 53, 54, 55, 56, 57, 58, 59, 60, 61, 62, 63, 64, 65, 66, 67, 68, 69] (by decide +kernel) (by decide +kernel)
set_option maxRecDepth 20000 in
theorem gX2_count_X0_total : GoodIn wsX2_count (wsV RX2 108 RX0 yX0_total wsX0_total) := goodIn_app (goodIn_of _ (by decide +kernel)) ggX2_count_X0_total
theorem dX2_count_0 : decode cX2_count 0 = .ok (.iload_n 1, 1) := by decide +kernel
theorem dX2_count_1 : decode cX2_count 1 = .ok (.ifCond .lt 9, 3) := by decide +kernel
theorem dX2_count_4 : decode cX2_count 4 = .ok (.iload_n 1, 1) := by decide +kernel
theorem dX2_count_5 : decode cX2_count 5 = .ok (.bipush 12, 2) := by decide +kernel
theorem dX2_count_7 : decode cX2_count 7 = .ok (.if_icmp .lt 13, 3) := by decide +kernel
theorem dX2_count_10 : decode cX2_count 10 = .ok (.new 52, 3) := by decide +kernel
theorem dX2_count_13 : decode cX2_count 13 = .ok (.dup, 1) := by decide +kernel
theorem dX2_count_14 : decode cX2_count 14 = .ok (.ldc 106, 2) := by decide +kernel
theorem dX2_count_16 : decode cX2_count 16 = .ok (.invokespecial 56, 3) := by decide +kernel
theorem dX2_count_19 : decode cX2_count 19 = .ok (.athrow, 1) := by decide +kernel
theorem dX2_count_20 : decode cX2_count 20 = .ok (.aload_n 0, 1) := by decide +kernel
theorem dX2_count_21 : decode cX2_count 21 = .ok (.getfield 10, 3) := by decide +kernel
theorem dX2_count_24 : decode cX2_count 24 = .ok (.iload_n 1, 1) := by decide +kernel
theorem dX2_count_25 : decode cX2_count 25 = .ok (.invokevirtual 108, 3) := by decide +kernel
theorem dX2_count_28 : decode cX2_count 28 = .ok (.ireturn, 1) := by decide +kernel
set_option maxRecDepth 20000 in
theorem ggX2_speed_X0_speedTowards : GoodIn wsX2_speed wsX0_speedTowards := goodIn_r _ [6, 7, 8, 9, 10, 11, 12, 15, 16, 17, 18, 19, 20, 21, 22, 23, 24, 25] (by decide +kernel) (by decide +kernel)
set_option maxRecDepth 20000 in
theorem gX2_speed_X0_speedTowards : GoodIn wsX2_speed (wsV RX2 112 RX0 yX0_speedTowards wsX0_speedTowards) := goodIn_app (goodIn_of _ (by decide +kernel)) ggX2_speed_X0_speedTowards
theorem dX2_speed_0 : decode cX2_speed 0 = .ok (.aload_n 0, 1) := by decide +kernel
theorem dX2_speed_1 : decode cX2_speed 1 = .ok (.getfield 10, 3) := by decide +kernel
theorem dX2_speed_4 : decode cX2_speed 4 = .ok (.iload_n 1, 1) := by decide +kernel
theorem dX2_speed_5 : decode cX2_speed 5 = .ok (.invokevirtual 112, 3) := by decide +kernel
theorem dX2_speed_8 : decode cX2_speed 8 = .ok (.ireturn, 1) := by decide +kernel
set_option maxRecDepth 20000 in
theorem ggX2_pass_X2_isSpan : GoodIn wsX2_pass wsX2_isSpan := goodIn_r _ [9] (by decide +kernel) (by decide +kernel)
set_option maxRecDepth 20000 in
theorem gX2_pass_X2_isSpan : GoodIn wsX2_pass (va_wsS RX2 116 yX2_isSpan wsX2_isSpan) := goodIn_app (goodIn_of _ (by decide +kernel)) ggX2_pass_X2_isSpan
set_option maxRecDepth 20000 in
theorem ggX2_pass_X0_goOn : GoodIn wsX2_pass wsX0_goOn := goodIn_r _ [14, 15, 16, 17, 13, 18, 19, 20, 21, 22, 23, 24, 25, 26, 27, 28, 29, 30, 31, 32, 33, 34, 35, 36, 37, 38, 39, 40, 41, 42, 43, 44, 45, 46, 47, 48, 49, 50, 51, 52, 53, 54, 55, 56, 57, 58, 59, 60, 61, 62, 63, 64, 65, 66, 67, 68, 69, 70, 71, 72, 73, 74, 75, 76, 77, 78, 79, 80, 81, 82, 83, 84, 85, 86, 87, 88, 89, 90, 91, 92, 93, 94, 95, 96, 97, 98, 99, 100, 101, 102, 103, 104, 107, 108, 109, 110, 111, 112, 113, 114, 115, 116, 117, 118, 119, 120, 121, 122, 123, 124, 125, 126, 127, 128, 129] (by decide +kernel) (by decide +kernel)
set_option maxRecDepth 20000 in
theorem gX2_pass_X0_goOn : GoodIn wsX2_pass (wsV RX2 124 RX0 yX0_goOn wsX0_goOn) := goodIn_app (goodIn_of _ (by decide +kernel)) ggX2_pass_X0_goOn
theorem dX2_pass_0 : decode cX2_pass 0 = .ok (.iload_n 1, 1) := by decide +kernel
theorem dX2_pass_1 : decode cX2_pass 1 = .ok (.invokestatic 116, 3) := by decide +kernel
theorem dX2_pass_4 : decode cX2_pass 4 = .ok (.ifCond .ne 13, 3) := by decide +kernel
theorem dX2_pass_7 : decode cX2_pass 7 = .ok (.new 19, 3) := by decide +kernel
theorem dX2_pass_10 : decode cX2_pass 10 = .ok (.dup, 1) := by decide +kernel
theorem dX2_pass_11 : decode cX2_pass 11 = .ok (.ldc 119, 2) := by decide +kernel
theorem dX2_pass_13 : decode cX2_pass 13 = .ok (.invokespecial 23, 3) := by decide +kernel
theorem dX2_pass_16 : decode cX2_pass 16 = .ok (.athrow, 1) := by decide +kernel
theorem dX2_pass_17 : decode cX2_pass 17 = .ok (.aload_n 0, 1) := by decide +kernel
theorem dX2_pass_18 : decode cX2_pass 18 = .ok (.getfield 10, 3) := by decide +kernel
theorem dX2_pass_21 : decode cX2_pass 21 = .ok (.getfield 26, 3) := by decide +kernel
theorem dX2_pass_24 : decode cX2_pass 24 = .ok (.getfield 121, 3) := by decide +kernel
theorem dX2_pass_27 : decode cX2_pass 27 = .ok (.istore_n 2, 1) := by decide +kernel
theorem dX2_pass_28 : decode cX2_pass 28 = .ok (.aload_n 0, 1) := by decide +kernel
theorem dX2_pass_29 : decode cX2_pass 29 = .ok (.getfield 10, 3) := by decide +kernel
theorem dX2_pass_32 : decode cX2_pass 32 = .ok (.iload_n 1, 1) := by decide +kernel
theorem dX2_pass_33 : decode cX2_pass 33 = .ok (.invokevirtual 124, 3) := by decide +kernel
theorem dX2_pass_36 : decode cX2_pass 36 = .ok (.aload_n 0, 1) := by decide +kernel
theorem dX2_pass_37 : decode cX2_pass 37 = .ok (.getfield 10, 3) := by decide +kernel
theorem dX2_pass_40 : decode cX2_pass 40 = .ok (.getfield 26, 3) := by decide +kernel
theorem dX2_pass_43 : decode cX2_pass 43 = .ok (.getfield 121, 3) := by decide +kernel
theorem dX2_pass_46 : decode cX2_pass 46 = .ok (.iload_n 2, 1) := by decide +kernel
theorem dX2_pass_47 : decode cX2_pass 47 = .ok (.isub, 1) := by decide +kernel
theorem dX2_pass_48 : decode cX2_pass 48 = .ok (.ireturn, 1) := by decide +kernel
set_option maxRecDepth 20000 in
theorem ggX2_when_X1_has : GoodIn wsX2_when wsX1_has := goodIn_r _ [11, 12, 127, 128, 129, 130, 131, 132, 133, 134, 135, 136, 137, 138] (by decide +kernel) (by decide +kernel)
set_option maxRecDepth 20000 in
theorem gX2_when_X1_has : GoodIn wsX2_when (wsV RX2 48 RX1 yX1_has wsX1_has) := goodIn_app (goodIn_of _ (by decide +kernel)) ggX2_when_X1_has
set_option maxRecDepth 20000 in
theorem ggX2_when_X0_copyFrom : GoodIn wsX2_when wsX0_copyFrom := goodIn_r _ [17, 18, 19, 20, 21, 22, 23, 24, 25, 26, 27, 28, 29, 30, 31, 32, 33, 34, 35, 10, 36, 12, 37, 38, 39, 40, 41, 42, 43, 44, 45, 46, 47, 48, 116, 117, 118, 119, 120, 121, 122, 123, 124, 125, 126, 127, 128, 129, 130, 131, 132, 133, 134, 135, 136, 137, 138] (by decide +kernel) (by decide +kernel)
set_option maxRecDepth 20000 in
theorem gX2_when_X0_copyFrom : GoodIn wsX2_when (wsV RX2 128 RX0 yX0_copyFrom wsX0_copyFrom) := goodIn_app (goodIn_of _ (by decide +kernel)) ggX2_when_X0_copyFrom
set_option maxRecDepth 20000 in
theorem ggX2_when_X0_goOneMinute : GoodIn wsX2_when wsX0_goOneMinute := goodIn_r _ [52, 23, 29, 53, 54, 18, 55, 56, 57, 16, 58, 30, 22, 32, 59, 60, 61, 10, 62, 47, 48, 63, 64, 65, 66, 67, 68, 69, 70, 71, 72, 73, 74, 75, 76, 77, 78, 79, 19, 80, 31, 81, 82, 83, 84, 85, 8, 9, 11, 12, 86, 87, 88, 89, 43, 46, 90, 91, 92, 93, 38, 39, 40, 94, 95, 96, 97, 20, 21, 98, 99, 100, 101, 102, 103, 104, 105, 45, 37, 106, 107, 108, 109, 24, 110, 111, 112, 113, 116, 117, 118, 119, 120, 121, 122, 123, 124, 125, 126, 127, 128, 129, 130, 131, 132, 133, 134, 135, 136, 137, 138] (by decide +kernel) (by decide +kernel)
set_option maxRecDepth 20000 in
theorem gX2_when_X0_goOneMinute : GoodIn wsX2_when (wsV RX2 132 RX0 yX0_goOneMinute wsX0_goOneMinute) := goodIn_app (goodIn_of _ (by decide +kernel)) ggX2_when_X0_goOneMinute
theorem dX2_when_0 : decode cX2_when 0 = .ok (.aload_n 0, 1) := by decide +kernel
theorem dX2_when_1 : decode cX2_when 1 = .ok (.getfield 10, 3) := by decide +kernel
theorem dX2_when_4 : decode cX2_when 4 = .ok (.getfield 26, 3) := by decide +kernel
theorem dX2_when_7 : decode cX2_when 7 = .ok (.iload_n 1, 1) := by decide +kernel
theorem dX2_when_8 : decode cX2_when 8 = .ok (.invokevirtual 48, 3) := by decide +kernel
theorem dX2_when_11 : decode cX2_when 11 = .ok (.ifCond .ne 13, 3) := by decide +kernel
theorem dX2_when_14 : decode cX2_when 14 = .ok (.new 52, 3) := by decide +kernel
theorem dX2_when_17 : decode cX2_when 17 = .ok (.dup, 1) := by decide +kernel
theorem dX2_when_18 : decode cX2_when 18 = .ok (.ldc 54, 2) := by decide +kernel
theorem dX2_when_20 : decode cX2_when 20 = .ok (.invokespecial 56, 3) := by decide +kernel
theorem dX2_when_23 : decode cX2_when 23 = .ok (.athrow, 1) := by decide +kernel
theorem dX2_when_24 : decode cX2_when 24 = .ok (.aload_n 0, 1) := by decide +kernel
theorem dX2_when_25 : decode cX2_when 25 = .ok (.getfield 16, 3) := by decide +kernel
theorem dX2_when_28 : decode cX2_when 28 = .ok (.aload_n 0, 1) := by decide +kernel
theorem dX2_when_29 : decode cX2_when 29 = .ok (.getfield 10, 3) := by decide +kernel
theorem dX2_when_32 : decode cX2_when 32 = .ok (.invokevirtual 128, 3) := by decide +kernel
theorem dX2_when_35 : decode cX2_when 35 = .ok (.iconst 0, 1) := by decide +kernel
theorem dX2_when_36 : decode cX2_when 36 = .ok (.istore_n 2, 1) := by decide +kernel
theorem dX2_when_37 : decode cX2_when 37 = .ok (.iload_n 2, 1) := by decide +kernel
theorem dX2_when_38 : decode cX2_when 38 = .ok (.sipush 400, 3) := by decide +kernel
theorem dX2_when_41 : decode cX2_when 41 = .ok (.if_icmp .gt 34, 3) := by decide +kernel
theorem dX2_when_44 : decode cX2_when 44 = .ok (.aload_n 0, 1) := by decide +kernel
theorem dX2_when_45 : decode cX2_when 45 = .ok (.getfield 16, 3) := by decide +kernel
theorem dX2_when_48 : decode cX2_when 48 = .ok (.getfield 26, 3) := by decide +kernel
theorem dX2_when_51 : decode cX2_when 51 = .ok (.getfield 57, 3) := by decide +kernel
theorem dX2_when_54 : decode cX2_when 54 = .ok (.iload_n 1, 1) := by decide +kernel
theorem dX2_when_55 : decode cX2_when 55 = .ok (.iaload, 1) := by decide +kernel
theorem dX2_when_56 : decode cX2_when 56 = .ok (.iconst 2, 1) := by decide +kernel
theorem dX2_when_57 : decode cX2_when 57 = .ok (.if_icmp .ne 5, 3) := by decide +kernel
theorem dX2_when_60 : decode cX2_when 60 = .ok (.iload_n 2, 1) := by decide +kernel
theorem dX2_when_61 : decode cX2_when 61 = .ok (.ireturn, 1) := by decide +kernel
theorem dX2_when_62 : decode cX2_when 62 = .ok (.aload_n 0, 1) := by decide +kernel
theorem dX2_when_63 : decode cX2_when 63 = .ok (.getfield 16, 3) := by decide +kernel
theorem dX2_when_66 : decode cX2_when 66 = .ok (.invokevirtual 132, 3) := by decide +kernel
theorem dX2_when_69 : decode cX2_when 69 = .ok (.iinc 2 1, 3) := by decide +kernel
theorem dX2_when_72 : decode cX2_when 72 = .ok (.goto (-35), 3) := by decide +kernel
theorem dX2_when_75 : decode cX2_when 75 = .ok (.iconst (-1), 1) := by decide +kernel
theorem dX2_when_76 : decode cX2_when 76 = .ok (.ireturn, 1) := by decide +kernel
set_option maxRecDepth 20000 in
theorem ggX2_foresee_X2_isSpan : GoodIn wsX2_foresee wsX2_isSpan := goodIn_r _ [15] (by decide +kernel) (by decide +kernel)
set_option maxRecDepth 20000 in
theorem gX2_foresee_X2_isSpan : GoodIn wsX2_foresee (va_wsS RX2 116 yX2_isSpan wsX2_isSpan) := goodIn_app (goodIn_of _ (by decide +kernel)) ggX2_foresee_X2_isSpan
set_option maxRecDepth 20000 in
theorem ggX2_foresee_X0_copyFrom : GoodIn wsX2_foresee wsX0_copyFrom := goodIn_r _ [20, 21, 22, 23, 24, 25, 26, 27, 28, 29, 30, 31, 32, 33, 34, 35, 36, 37, 38, 39, 40, 41, 42, 43, 44, 45, 46, 47, 48, 49, 50, 51, 52, 53, 128, 129, 130, 131, 132, 133, 134, 135, 136, 137, 138, 139, 140, 141, 142, 143, 144, 145, 146, 147, 148, 149, 150] (by decide +kernel) (by decide +kernel)
set_option maxRecDepth 20000 in
theorem gX2_foresee_X0_copyFrom : GoodIn wsX2_foresee (wsV RX2 128 RX0 yX0_copyFrom wsX0_copyFrom) := goodIn_app (goodIn_of _ (by decide +kernel)) ggX2_foresee_X0_copyFrom
set_option maxRecDepth 20000 in
theorem ggX2_foresee_X0_goOn : GoodIn wsX2_foresee wsX0_goOn := goodIn_r _ [57, 58, 59, 60, 19, 61, 26, 32, 62, 63, 21, 64, 65, 66, 67, 33, 25, 35, 68, 69, 70, 39, 71, 52, 53, 72, 73, 74, 75, 76, 77, 78, 79, 80, 81, 82, 83, 84, 85, 86, 87, 88, 22, 89, 34, 90, 91, 92, 93, 94, 95, 96, 97, 41, 98, 99, 100, 101, 48, 51, 102, 103, 104, 105, 43, 44, 45, 106, 107, 108, 109, 23, 24, 110, 111, 112, 113, 114, 115, 116, 117, 50, 42, 118, 119, 120, 121, 27, 122, 123, 124, 125, 128, 129, 130, 131, 132, 133, 134, 135, 136, 137, 138, 139, 140, 141, 142, 143, 144, 145, 146, 147, 148, 149, 150] (by decide +kernel) (by decide +kernel)
set_option maxRecDepth 20000 in
theorem gX2_foresee_X0_goOn : GoodIn wsX2_foresee (wsV RX2 124 RX0 yX0_goOn wsX0_goOn) := goodIn_app (goodIn_of _ (by decide +kernel)) ggX2_foresee_X0_goOn
theorem dX2_foresee_0 : decode cX2_foresee 0 = .ok (.iload_n 1, 1) := by decide +kernel
theorem dX2_foresee_1 : decode cX2_foresee 1 = .ok (.invokestatic 116, 3) := by decide +kernel
theorem dX2_foresee_4 : decode cX2_foresee 4 = .ok (.ifCond .ne 13, 3) := by decide +kernel
theorem dX2_foresee_7 : decode cX2_foresee 7 = .ok (.new 19, 3) := by decide +kernel
theorem dX2_foresee_10 : decode cX2_foresee 10 = .ok (.dup, 1) := by decide +kernel
theorem dX2_foresee_11 : decode cX2_foresee 11 = .ok (.ldc 119, 2) := by decide +kernel
theorem dX2_foresee_13 : decode cX2_foresee 13 = .ok (.invokespecial 23, 3) := by decide +kernel
theorem dX2_foresee_16 : decode cX2_foresee 16 = .ok (.athrow, 1) := by decide +kernel
theorem dX2_foresee_17 : decode cX2_foresee 17 = .ok (.iload_n 2, 1) := by decide +kernel
theorem dX2_foresee_18 : decode cX2_foresee 18 = .ok (.ifCond .lt 8, 3) := by decide +kernel
theorem dX2_foresee_21 : decode cX2_foresee 21 = .ok (.iload_n 2, 1) := by decide +kernel
theorem dX2_foresee_22 : decode cX2_foresee 22 = .ok (.iconst 4, 1) := by decide +kernel
theorem dX2_foresee_23 : decode cX2_foresee 23 = .ok (.if_icmp .lt 13, 3) := by decide +kernel
theorem dX2_foresee_26 : decode cX2_foresee 26 = .ok (.new 52, 3) := by decide +kernel
theorem dX2_foresee_29 : decode cX2_foresee 29 = .ok (.dup, 1) := by decide +kernel
theorem dX2_foresee_30 : decode cX2_foresee 30 = .ok (.ldc 135, 2) := by decide +kernel
theorem dX2_foresee_32 : decode cX2_foresee 32 = .ok (.invokespecial 56, 3) := by decide +kernel
theorem dX2_foresee_35 : decode cX2_foresee 35 = .ok (.athrow, 1) := by decide +kernel
theorem dX2_foresee_36 : decode cX2_foresee 36 = .ok (.aload_n 0, 1) := by decide +kernel
theorem dX2_foresee_37 : decode cX2_foresee 37 = .ok (.getfield 16, 3) := by decide +kernel
theorem dX2_foresee_40 : decode cX2_foresee 40 = .ok (.aload_n 0, 1) := by decide +kernel
theorem dX2_foresee_41 : decode cX2_foresee 41 = .ok (.getfield 10, 3) := by decide +kernel
theorem dX2_foresee_44 : decode cX2_foresee 44 = .ok (.invokevirtual 128, 3) := by decide +kernel
theorem dX2_foresee_47 : decode cX2_foresee 47 = .ok (.aload_n 0, 1) := by decide +kernel
theorem dX2_foresee_48 : decode cX2_foresee 48 = .ok (.getfield 16, 3) := by decide +kernel
theorem dX2_foresee_51 : decode cX2_foresee 51 = .ok (.iload_n 1, 1) := by decide +kernel
theorem dX2_foresee_52 : decode cX2_foresee 52 = .ok (.invokevirtual 124, 3) := by decide +kernel
theorem dX2_foresee_55 : decode cX2_foresee 55 = .ok (.iload_n 2, 1) := by decide +kernel
theorem dX2_foresee_56 : decode cX2_foresee 56 = .ok (.tableswitch 74 0 2 #[28, 50, 66], 28) := by decide +kernel
theorem dX2_foresee_84 : decode cX2_foresee 84 = .ok (.aload_n 0, 1) := by decide +kernel
theorem dX2_foresee_85 : decode cX2_foresee 85 = .ok (.getfield 16, 3) := by decide +kernel
theorem dX2_foresee_88 : decode cX2_foresee 88 = .ok (.getfield 26, 3) := by decide +kernel
theorem dX2_foresee_91 : decode cX2_foresee 91 = .ok (.getfield 121, 3) := by decide +kernel
theorem dX2_foresee_94 : decode cX2_foresee 94 = .ok (.aload_n 0, 1) := by decide +kernel
theorem dX2_foresee_95 : decode cX2_foresee 95 = .ok (.getfield 10, 3) := by decide +kernel
theorem dX2_foresee_98 : decode cX2_foresee 98 = .ok (.getfield 26, 3) := by decide +kernel
theorem dX2_foresee_101 : decode cX2_foresee 101 = .ok (.getfield 121, 3) := by decide +kernel
theorem dX2_foresee_104 : decode cX2_foresee 104 = .ok (.isub, 1) := by decide +kernel
theorem dX2_foresee_105 : decode cX2_foresee 105 = .ok (.ireturn, 1) := by decide +kernel
theorem dX2_foresee_106 : decode cX2_foresee 106 = .ok (.aload_n 0, 1) := by decide +kernel
theorem dX2_foresee_107 : decode cX2_foresee 107 = .ok (.getfield 16, 3) := by decide +kernel
theorem dX2_foresee_110 : decode cX2_foresee 110 = .ok (.getfield 137, 3) := by decide +kernel
theorem dX2_foresee_113 : decode cX2_foresee 113 = .ok (.aload_n 0, 1) := by decide +kernel
theorem dX2_foresee_114 : decode cX2_foresee 114 = .ok (.getfield 10, 3) := by decide +kernel
theorem dX2_foresee_117 : decode cX2_foresee 117 = .ok (.getfield 137, 3) := by decide +kernel
theorem dX2_foresee_120 : decode cX2_foresee 120 = .ok (.isub, 1) := by decide +kernel
theorem dX2_foresee_121 : decode cX2_foresee 121 = .ok (.ireturn, 1) := by decide +kernel
theorem dX2_foresee_122 : decode cX2_foresee 122 = .ok (.aload_n 0, 1) := by decide +kernel
theorem dX2_foresee_123 : decode cX2_foresee 123 = .ok (.getfield 16, 3) := by decide +kernel
theorem dX2_foresee_126 : decode cX2_foresee 126 = .ok (.getfield 78, 3) := by decide +kernel
theorem dX2_foresee_129 : decode cX2_foresee 129 = .ok (.ireturn, 1) := by decide +kernel
theorem dX2_foresee_130 : decode cX2_foresee 130 = .ok (.aload_n 0, 1) := by decide +kernel
theorem dX2_foresee_131 : decode cX2_foresee 131 = .ok (.getfield 16, 3) := by decide +kernel
theorem dX2_foresee_134 : decode cX2_foresee 134 = .ok (.getfield 93, 3) := by decide +kernel
theorem dX2_foresee_137 : decode cX2_foresee 137 = .ok (.ireturn, 1) := by decide +kernel
set_option maxRecDepth 20000 in
theorem ggX2_bestCode_X2_isSpan : GoodIn wsX2_bestCode wsX2_isSpan := goodIn_r _ [8] (by decide +kernel) (by decide +kernel)
set_option maxRecDepth 20000 in
theorem gX2_bestCode_X2_isSpan : GoodIn wsX2_bestCode (va_wsS RX2 116 yX2_isSpan wsX2_isSpan) := goodIn_app (goodIn_of _ (by decide +kernel)) ggX2_bestCode_X2_isSpan
set_option maxRecDepth 20000 in
theorem ggX2_bestCode_X2_waitWith : GoodIn wsX2_bestCode wsX2_waitWith := goodIn_r _ [12, 13, 3, 14, 4, 15, 16, 17, 18, 19, 20, 21, 22, 23, 24, 25, 26, 27, 28, 29, 30, 31, 32, 33, 34, 35, 36, 37, 38, 39, 40, 41, 42, 43, 44, 45, 46, 47, 48, 49, 50, 51, 52, 53, 54, 55, 56, 57, 58, 59, 60, 61, 62, 63, 64, 65, 66, 67, 68, 69, 70, 71, 72, 73, 74, 75, 76, 77, 78, 79, 80, 81, 82, 83, 84, 85, 86, 87, 88, 89, 90, 91, 92, 93, 94, 95, 96, 97, 98, 99, 100, 101, 102, 103, 104, 105, 106, 107, 108, 109, 110, 111, 112, 113, 114, 115, 116, 117, 118, 119, 120, 121, 122, 123, 124, 125, 126, 127, 128, 129, 130, 131, 132, 133, 134, 135, 136, 137, 138, 139, 140, 141, 142, 143, 144, 145, 146, 147, 148, 149, 150] (by decide +kernel) (by decide +kernel)
set_option maxRecDepth 20000 in
theorem gX2_bestCode_X2_waitWith : GoodIn wsX2_bestCode (wsV RX2 140 RX2 yX2_waitWith wsX2_waitWith) := goodIn_app (goodIn_of _ (by decide +kernel)) ggX2_bestCode_X2_waitWith
theorem dX2_bestCode_0 : decode cX2_bestCode 0 = .ok (.iload_n 1, 1) := by decide +kernel
theorem dX2_bestCode_1 : decode cX2_bestCode 1 = .ok (.invokestatic 116, 3) := by decide +kernel
theorem dX2_bestCode_4 : decode cX2_bestCode 4 = .ok (.ifCond .ne 13, 3) := by decide +kernel
theorem dX2_bestCode_7 : decode cX2_bestCode 7 = .ok (.new 19, 3) := by decide +kernel
theorem dX2_bestCode_10 : decode cX2_bestCode 10 = .ok (.dup, 1) := by decide +kernel
theorem dX2_bestCode_11 : decode cX2_bestCode 11 = .ok (.ldc 119, 2) := by decide +kernel
theorem dX2_bestCode_13 : decode cX2_bestCode 13 = .ok (.invokespecial 23, 3) := by decide +kernel
theorem dX2_bestCode_16 : decode cX2_bestCode 16 = .ok (.athrow, 1) := by decide +kernel
theorem dX2_bestCode_17 : decode cX2_bestCode 17 = .ok (.iconst 0, 1) := by decide +kernel
theorem dX2_bestCode_18 : decode cX2_bestCode 18 = .ok (.istore_n 2, 1) := by decide +kernel
theorem dX2_bestCode_19 : decode cX2_bestCode 19 = .ok (.aload_n 0, 1) := by decide +kernel
theorem dX2_bestCode_20 : decode cX2_bestCode 20 = .ok (.iload_n 2, 1) := by decide +kernel
theorem dX2_bestCode_21 : decode cX2_bestCode 21 = .ok (.aload_n 0, 1) := by decide +kernel
theorem dX2_bestCode_22 : decode cX2_bestCode 22 = .ok (.getfield 10, 3) := by decide +kernel
theorem dX2_bestCode_25 : decode cX2_bestCode 25 = .ok (.getfield 83, 3) := by decide +kernel
theorem dX2_bestCode_28 : decode cX2_bestCode 28 = .ok (.iload_n 1, 1) := by decide +kernel
theorem dX2_bestCode_29 : decode cX2_bestCode 29 = .ok (.invokevirtual 140, 3) := by decide +kernel
theorem dX2_bestCode_32 : decode cX2_bestCode 32 = .ok (.istore_n 3, 1) := by decide +kernel
theorem dX2_bestCode_33 : decode cX2_bestCode 33 = .ok (.iload_n 2, 1) := by decide +kernel
theorem dX2_bestCode_34 : decode cX2_bestCode 34 = .ok (.iconst 1, 1) := by decide +kernel
theorem dX2_bestCode_35 : decode cX2_bestCode 35 = .ok (.iadd, 1) := by decide +kernel
theorem dX2_bestCode_36 : decode cX2_bestCode 36 = .ok (.istore 4, 2) := by decide +kernel
theorem dX2_bestCode_38 : decode cX2_bestCode 38 = .ok (.iload 4, 2) := by decide +kernel
theorem dX2_bestCode_40 : decode cX2_bestCode 40 = .ok (.iconst 3, 1) := by decide +kernel
theorem dX2_bestCode_41 : decode cX2_bestCode 41 = .ok (.if_icmp .gt 37, 3) := by decide +kernel
theorem dX2_bestCode_44 : decode cX2_bestCode 44 = .ok (.aload_n 0, 1) := by decide +kernel
theorem dX2_bestCode_45 : decode cX2_bestCode 45 = .ok (.iload 4, 2) := by decide +kernel
theorem dX2_bestCode_47 : decode cX2_bestCode 47 = .ok (.aload_n 0, 1) := by decide +kernel
theorem dX2_bestCode_48 : decode cX2_bestCode 48 = .ok (.getfield 10, 3) := by decide +kernel
theorem dX2_bestCode_51 : decode cX2_bestCode 51 = .ok (.getfield 83, 3) := by decide +kernel
theorem dX2_bestCode_54 : decode cX2_bestCode 54 = .ok (.iload_n 1, 1) := by decide +kernel
theorem dX2_bestCode_55 : decode cX2_bestCode 55 = .ok (.invokevirtual 140, 3) := by decide +kernel
theorem dX2_bestCode_58 : decode cX2_bestCode 58 = .ok (.istore 5, 2) := by decide +kernel
theorem dX2_bestCode_60 : decode cX2_bestCode 60 = .ok (.iload 5, 2) := by decide +kernel
theorem dX2_bestCode_62 : decode cX2_bestCode 62 = .ok (.iload_n 3, 1) := by decide +kernel
theorem dX2_bestCode_63 : decode cX2_bestCode 63 = .ok (.if_icmp .ge 9, 3) := by decide +kernel
theorem dX2_bestCode_66 : decode cX2_bestCode 66 = .ok (.iload 5, 2) := by decide +kernel
theorem dX2_bestCode_68 : decode cX2_bestCode 68 = .ok (.istore_n 3, 1) := by decide +kernel
theorem dX2_bestCode_69 : decode cX2_bestCode 69 = .ok (.iload 4, 2) := by decide +kernel
theorem dX2_bestCode_71 : decode cX2_bestCode 71 = .ok (.istore_n 2, 1) := by decide +kernel
theorem dX2_bestCode_72 : decode cX2_bestCode 72 = .ok (.iinc 4 1, 3) := by decide +kernel
theorem dX2_bestCode_75 : decode cX2_bestCode 75 = .ok (.goto (-37), 3) := by decide +kernel
theorem dX2_bestCode_78 : decode cX2_bestCode 78 = .ok (.iload_n 2, 1) := by decide +kernel
theorem dX2_bestCode_79 : decode cX2_bestCode 79 = .ok (.ireturn, 1) := by decide +kernel
set_option maxRecDepth 20000 in
theorem ggX2_bestPoise_X2_isSpan : GoodIn wsX2_bestPoise wsX2_isSpan := goodIn_r _ [8] (by decide +kernel) (by decide +kernel)
set_option maxRecDepth 20000 in
theorem gX2_bestPoise_X2_isSpan : GoodIn wsX2_bestPoise (va_wsS RX2 116 yX2_isSpan wsX2_isSpan) := goodIn_app (goodIn_of _ (by decide +kernel)) ggX2_bestPoise_X2_isSpan
set_option maxRecDepth 20000 in
theorem ggX2_bestPoise_X2_waitWith : GoodIn wsX2_bestPoise wsX2_waitWith := goodIn_r _ [12, 13, 3, 4, 14, 15, 16, 17, 18, 19, 20, 21, 22, 23, 24, 25, 26, 27, 28, 29, 30, 31, 32, 33, 34, 35, 36, 37, 38, 39, 40, 41, 42, 43, 44, 45, 46, 47, 48, 49, 50, 51, 52, 53, 54, 55, 56, 57, 58, 59, 60, 61, 62, 63, 64, 65, 66, 67, 68, 69, 70, 71, 72, 73, 74, 75, 76, 77, 78, 79, 80, 81, 82, 83, 84, 85, 86, 87, 88, 89, 90, 91, 92, 93, 94, 95, 96, 97, 98, 99, 100, 101, 102, 103, 104, 105, 106, 107, 108, 109, 110, 111, 112, 113, 114, 115, 116, 117, 118, 119, 120, 121, 122, 123, 124, 125, 126, 127, 128, 129, 130, 131, 132, 133, 134, 135, 136, 137, 138, 139, 140, 141, 142, 143, 144, 145, 146, 147, 148, 149, 150] (by decide +kernel) (by decide +kernel)
set_option maxRecDepth 20000 in
theorem gX2_bestPoise_X2_waitWith : GoodIn wsX2_bestPoise (wsV RX2 140 RX2 yX2_waitWith wsX2_waitWith) := goodIn_app (goodIn_of _ (by decide +kernel)) ggX2_bestPoise_X2_waitWith
theorem dX2_bestPoise_0 : decode cX2_bestPoise 0 = .ok (.iload_n 1, 1) := by decide +kernel
theorem dX2_bestPoise_1 : decode cX2_bestPoise 1 = .ok (.invokestatic 116, 3) := by decide +kernel
theorem dX2_bestPoise_4 : decode cX2_bestPoise 4 = .ok (.ifCond .ne 13, 3) := by decide +kernel
theorem dX2_bestPoise_7 : decode cX2_bestPoise 7 = .ok (.new 19, 3) := by decide +kernel
theorem dX2_bestPoise_10 : decode cX2_bestPoise 10 = .ok (.dup, 1) := by decide +kernel
theorem dX2_bestPoise_11 : decode cX2_bestPoise 11 = .ok (.ldc 119, 2) := by decide +kernel
theorem dX2_bestPoise_13 : decode cX2_bestPoise 13 = .ok (.invokespecial 23, 3) := by decide +kernel
theorem dX2_bestPoise_16 : decode cX2_bestPoise 16 = .ok (.athrow, 1) := by decide +kernel
theorem dX2_bestPoise_17 : decode cX2_bestPoise 17 = .ok (.iconst 0, 1) := by decide +kernel
theorem dX2_bestPoise_18 : decode cX2_bestPoise 18 = .ok (.istore_n 2, 1) := by decide +kernel
theorem dX2_bestPoise_19 : decode cX2_bestPoise 19 = .ok (.aload_n 0, 1) := by decide +kernel
theorem dX2_bestPoise_20 : decode cX2_bestPoise 20 = .ok (.aload_n 0, 1) := by decide +kernel
theorem dX2_bestPoise_21 : decode cX2_bestPoise 21 = .ok (.getfield 10, 3) := by decide +kernel
theorem dX2_bestPoise_24 : decode cX2_bestPoise 24 = .ok (.getfield 73, 3) := by decide +kernel
theorem dX2_bestPoise_27 : decode cX2_bestPoise 27 = .ok (.iload_n 2, 1) := by decide +kernel
theorem dX2_bestPoise_28 : decode cX2_bestPoise 28 = .ok (.iload_n 1, 1) := by decide +kernel
theorem dX2_bestPoise_29 : decode cX2_bestPoise 29 = .ok (.invokevirtual 140, 3) := by decide +kernel
theorem dX2_bestPoise_32 : decode cX2_bestPoise 32 = .ok (.istore_n 3, 1) := by decide +kernel
theorem dX2_bestPoise_33 : decode cX2_bestPoise 33 = .ok (.iload_n 2, 1) := by decide +kernel
theorem dX2_bestPoise_34 : decode cX2_bestPoise 34 = .ok (.iconst 1, 1) := by decide +kernel
theorem dX2_bestPoise_35 : decode cX2_bestPoise 35 = .ok (.iadd, 1) := by decide +kernel
theorem dX2_bestPoise_36 : decode cX2_bestPoise 36 = .ok (.istore 4, 2) := by decide +kernel
theorem dX2_bestPoise_38 : decode cX2_bestPoise 38 = .ok (.iload 4, 2) := by decide +kernel
theorem dX2_bestPoise_40 : decode cX2_bestPoise 40 = .ok (.bipush 30, 2) := by decide +kernel
theorem dX2_bestPoise_42 : decode cX2_bestPoise 42 = .ok (.if_icmp .gt 37, 3) := by decide +kernel
theorem dX2_bestPoise_45 : decode cX2_bestPoise 45 = .ok (.aload_n 0, 1) := by decide +kernel
theorem dX2_bestPoise_46 : decode cX2_bestPoise 46 = .ok (.aload_n 0, 1) := by decide +kernel
theorem dX2_bestPoise_47 : decode cX2_bestPoise 47 = .ok (.getfield 10, 3) := by decide +kernel
theorem dX2_bestPoise_50 : decode cX2_bestPoise 50 = .ok (.getfield 73, 3) := by decide +kernel
theorem dX2_bestPoise_53 : decode cX2_bestPoise 53 = .ok (.iload 4, 2) := by decide +kernel
theorem dX2_bestPoise_55 : decode cX2_bestPoise 55 = .ok (.iload_n 1, 1) := by decide +kernel
theorem dX2_bestPoise_56 : decode cX2_bestPoise 56 = .ok (.invokevirtual 140, 3) := by decide +kernel
theorem dX2_bestPoise_59 : decode cX2_bestPoise 59 = .ok (.istore 5, 2) := by decide +kernel
theorem dX2_bestPoise_61 : decode cX2_bestPoise 61 = .ok (.iload 5, 2) := by decide +kernel
theorem dX2_bestPoise_63 : decode cX2_bestPoise 63 = .ok (.iload_n 3, 1) := by decide +kernel
theorem dX2_bestPoise_64 : decode cX2_bestPoise 64 = .ok (.if_icmp .ge 9, 3) := by decide +kernel
theorem dX2_bestPoise_67 : decode cX2_bestPoise 67 = .ok (.iload 5, 2) := by decide +kernel
theorem dX2_bestPoise_69 : decode cX2_bestPoise 69 = .ok (.istore_n 3, 1) := by decide +kernel
theorem dX2_bestPoise_70 : decode cX2_bestPoise 70 = .ok (.iload 4, 2) := by decide +kernel
theorem dX2_bestPoise_72 : decode cX2_bestPoise 72 = .ok (.istore_n 2, 1) := by decide +kernel
theorem dX2_bestPoise_73 : decode cX2_bestPoise 73 = .ok (.iinc 4 1, 3) := by decide +kernel
theorem dX2_bestPoise_76 : decode cX2_bestPoise 76 = .ok (.goto (-38), 3) := by decide +kernel
theorem dX2_bestPoise_79 : decode cX2_bestPoise 79 = .ok (.iload_n 2, 1) := by decide +kernel
theorem dX2_bestPoise_80 : decode cX2_bestPoise 80 = .ok (.ireturn, 1) := by decide +kernel
theorem dX2_mean_0 : decode cX2_mean 0 = .ok (.aload_n 0, 1) := by decide +kernel
theorem dX2_mean_1 : decode cX2_mean 1 = .ok (.getfield 10, 3) := by decide +kernel
theorem dX2_mean_4 : decode cX2_mean 4 = .ok (.getfield 26, 3) := by decide +kernel
theorem dX2_mean_7 : decode cX2_mean 7 = .ok (.getfield 30, 3) := by decide +kernel
theorem dX2_mean_10 : decode cX2_mean 10 = .ok (.istore_n 1, 1) := by decide +kernel
theorem dX2_mean_11 : decode cX2_mean 11 = .ok (.iload_n 1, 1) := by decide +kernel
theorem dX2_mean_12 : decode cX2_mean 12 = .ok (.ifCond .ne 5, 3) := by decide +kernel
theorem dX2_mean_15 : decode cX2_mean 15 = .ok (.dconst 0, 1) := by decide +kernel
theorem dX2_mean_16 : decode cX2_mean 16 = .ok (.dreturn, 1) := by decide +kernel
theorem dX2_mean_17 : decode cX2_mean 17 = .ok (.aload_n 0, 1) := by decide +kernel
theorem dX2_mean_18 : decode cX2_mean 18 = .ok (.getfield 10, 3) := by decide +kernel
theorem dX2_mean_21 : decode cX2_mean 21 = .ok (.getfield 137, 3) := by decide +kernel
theorem dX2_mean_24 : decode cX2_mean 24 = .ok (.i2d, 1) := by decide +kernel
theorem dX2_mean_25 : decode cX2_mean 25 = .ok (.iload_n 1, 1) := by decide +kernel
theorem dX2_mean_26 : decode cX2_mean 26 = .ok (.i2d, 1) := by decide +kernel
theorem dX2_mean_27 : decode cX2_mean 27 = .ok (.ddiv, 1) := by decide +kernel
theorem dX2_mean_28 : decode cX2_mean 28 = .ok (.dreturn, 1) := by decide +kernel
set_option maxRecDepth 20000 in
theorem ggX2_digest_X0_total : GoodIn wsX2_digest wsX0_total := goodIn_r _ [11, 12, 13, 14, 15, 16, 17, 18, 19, 20, 21, 22, 23, 24, 25, 26, 10, 27, 28, 29, 30, 31, 32, 33, 34, 35, 36, 37, 38, 39, 40, 41, 42, 43, 44, 45, 46, 47, 67, 68, 69, 70, 71, 72, 73, 74, 75, 76, 77, 78, 79, 80, 81, 82, 83, 84, 85, 86, 87, 88, 89] (by decide +kernel) (by decide +kernel)
set_option maxRecDepth 20000 in
theorem gX2_digest_X0_total : GoodIn wsX2_digest (wsV RX2 108 RX0 yX0_total wsX0_total) := goodIn_app (goodIn_of _ (by decide +kernel)) ggX2_digest_X0_total
set_option maxRecDepth 20000 in
theorem ggX2_digest_X0_factOf : GoodIn wsX2_digest wsX0_factOf := goodIn_r _ [51, 17, 52, 53, 54, 55, 12, 23, 56, 57, 58, 59, 60, 32, 61, 62, 63, 64, 67, 68, 69, 70, 71, 72, 73, 74, 75, 76, 77, 78, 79, 80, 81, 82, 83, 84, 85, 86, 87, 88, 89] (by decide +kernel) (by decide +kernel)
set_option maxRecDepth 20000 in
theorem gX2_digest_X0_factOf : GoodIn wsX2_digest (wsV RX2 103 RX0 yX0_factOf wsX0_factOf) := goodIn_app (goodIn_of _ (by decide +kernel)) ggX2_digest_X0_factOf
theorem dX2_digest_0 : decode cX2_digest 0 = .ok (.ldc2_w 144, 3) := by decide +kernel
theorem dX2_digest_3 : decode cX2_digest 3 = .ok (.lstore_n 1, 1) := by decide +kernel
theorem dX2_digest_4 : decode cX2_digest 4 = .ok (.iconst 0, 1) := by decide +kernel
theorem dX2_digest_5 : decode cX2_digest 5 = .ok (.istore_n 3, 1) := by decide +kernel
theorem dX2_digest_6 : decode cX2_digest 6 = .ok (.iload_n 3, 1) := by decide +kernel
theorem dX2_digest_7 : decode cX2_digest 7 = .ok (.bipush 12, 2) := by decide +kernel
theorem dX2_digest_9 : decode cX2_digest 9 = .ok (.if_icmp .ge 25, 3) := by decide +kernel
theorem dX2_digest_12 : decode cX2_digest 12 = .ok (.lload_n 1, 1) := by decide +kernel
theorem dX2_digest_13 : decode cX2_digest 13 = .ok (.ldc2_w 146, 3) := by decide +kernel
theorem dX2_digest_16 : decode cX2_digest 16 = .ok (.lmul, 1) := by decide +kernel
theorem dX2_digest_17 : decode cX2_digest 17 = .ok (.aload_n 0, 1) := by decide +kernel
theorem dX2_digest_18 : decode cX2_digest 18 = .ok (.getfield 10, 3) := by decide +kernel
theorem dX2_digest_21 : decode cX2_digest 21 = .ok (.iload_n 3, 1) := by decide +kernel
theorem dX2_digest_22 : decode cX2_digest 22 = .ok (.invokevirtual 108, 3) := by decide +kernel
theorem dX2_digest_25 : decode cX2_digest 25 = .ok (.i2l, 1) := by decide +kernel
theorem dX2_digest_26 : decode cX2_digest 26 = .ok (.ladd, 1) := by decide +kernel
theorem dX2_digest_27 : decode cX2_digest 27 = .ok (.lstore_n 1, 1) := by decide +kernel
theorem dX2_digest_28 : decode cX2_digest 28 = .ok (.iinc 3 1, 3) := by decide +kernel
theorem dX2_digest_31 : decode cX2_digest 31 = .ok (.goto (-25), 3) := by decide +kernel
theorem dX2_digest_34 : decode cX2_digest 34 = .ok (.iconst 0, 1) := by decide +kernel
theorem dX2_digest_35 : decode cX2_digest 35 = .ok (.istore_n 3, 1) := by decide +kernel
theorem dX2_digest_36 : decode cX2_digest 36 = .ok (.iload_n 3, 1) := by decide +kernel
theorem dX2_digest_37 : decode cX2_digest 37 = .ok (.bipush 8, 2) := by decide +kernel
theorem dX2_digest_39 : decode cX2_digest 39 = .ok (.if_icmp .ge 26, 3) := by decide +kernel
theorem dX2_digest_42 : decode cX2_digest 42 = .ok (.lload_n 1, 1) := by decide +kernel
theorem dX2_digest_43 : decode cX2_digest 43 = .ok (.ldc2_w 146, 3) := by decide +kernel
theorem dX2_digest_46 : decode cX2_digest 46 = .ok (.lmul, 1) := by decide +kernel
theorem dX2_digest_47 : decode cX2_digest 47 = .ok (.aload_n 0, 1) := by decide +kernel
theorem dX2_digest_48 : decode cX2_digest 48 = .ok (.getfield 10, 3) := by decide +kernel
theorem dX2_digest_51 : decode cX2_digest 51 = .ok (.getfield 90, 3) := by decide +kernel
theorem dX2_digest_54 : decode cX2_digest 54 = .ok (.iload_n 3, 1) := by decide +kernel
theorem dX2_digest_55 : decode cX2_digest 55 = .ok (.iaload, 1) := by decide +kernel
theorem dX2_digest_56 : decode cX2_digest 56 = .ok (.i2l, 1) := by decide +kernel
theorem dX2_digest_57 : decode cX2_digest 57 = .ok (.ladd, 1) := by decide +kernel
theorem dX2_digest_58 : decode cX2_digest 58 = .ok (.lstore_n 1, 1) := by decide +kernel
theorem dX2_digest_59 : decode cX2_digest 59 = .ok (.iinc 3 1, 3) := by decide +kernel
theorem dX2_digest_62 : decode cX2_digest 62 = .ok (.goto (-26), 3) := by decide +kernel
theorem dX2_digest_65 : decode cX2_digest 65 = .ok (.iconst 0, 1) := by decide +kernel
theorem dX2_digest_66 : decode cX2_digest 66 = .ok (.istore_n 3, 1) := by decide +kernel
theorem dX2_digest_67 : decode cX2_digest 67 = .ok (.iload_n 3, 1) := by decide +kernel
theorem dX2_digest_68 : decode cX2_digest 68 = .ok (.aload_n 0, 1) := by decide +kernel
theorem dX2_digest_69 : decode cX2_digest 69 = .ok (.getfield 10, 3) := by decide +kernel
theorem dX2_digest_72 : decode cX2_digest 72 = .ok (.getfield 26, 3) := by decide +kernel
theorem dX2_digest_75 : decode cX2_digest 75 = .ok (.getfield 30, 3) := by decide +kernel
theorem dX2_digest_78 : decode cX2_digest 78 = .ok (.if_icmp .ge 43, 3) := by decide +kernel
theorem dX2_digest_81 : decode cX2_digest 81 = .ok (.iconst 0, 1) := by decide +kernel
theorem dX2_digest_82 : decode cX2_digest 82 = .ok (.istore 4, 2) := by decide +kernel
theorem dX2_digest_84 : decode cX2_digest 84 = .ok (.iload 4, 2) := by decide +kernel
theorem dX2_digest_86 : decode cX2_digest 86 = .ok (.bipush 7, 2) := by decide +kernel
theorem dX2_digest_88 : decode cX2_digest 88 = .ok (.if_icmp .ge 27, 3) := by decide +kernel
theorem dX2_digest_91 : decode cX2_digest 91 = .ok (.lload_n 1, 1) := by decide +kernel
theorem dX2_digest_92 : decode cX2_digest 92 = .ok (.ldc2_w 146, 3) := by decide +kernel
theorem dX2_digest_95 : decode cX2_digest 95 = .ok (.lmul, 1) := by decide +kernel
theorem dX2_digest_96 : decode cX2_digest 96 = .ok (.aload_n 0, 1) := by decide +kernel
theorem dX2_digest_97 : decode cX2_digest 97 = .ok (.getfield 10, 3) := by decide +kernel
theorem dX2_digest_100 : decode cX2_digest 100 = .ok (.iload_n 3, 1) := by decide +kernel
theorem dX2_digest_101 : decode cX2_digest 101 = .ok (.iload 4, 2) := by decide +kernel
theorem dX2_digest_103 : decode cX2_digest 103 = .ok (.invokevirtual 103, 3) := by decide +kernel
theorem dX2_digest_106 : decode cX2_digest 106 = .ok (.i2l, 1) := by decide +kernel
theorem dX2_digest_107 : decode cX2_digest 107 = .ok (.ladd, 1) := by decide +kernel
theorem dX2_digest_108 : decode cX2_digest 108 = .ok (.lstore_n 1, 1) := by decide +kernel
theorem dX2_digest_109 : decode cX2_digest 109 = .ok (.iinc 4 1, 3) := by decide +kernel
theorem dX2_digest_112 : decode cX2_digest 112 = .ok (.goto (-28), 3) := by decide +kernel
theorem dX2_digest_115 : decode cX2_digest 115 = .ok (.iinc 3 1, 3) := by decide +kernel
theorem dX2_digest_118 : decode cX2_digest 118 = .ok (.goto (-51), 3) := by decide +kernel
theorem dX2_digest_121 : decode cX2_digest 121 = .ok (.lload_n 1, 1) := by decide +kernel
theorem dX2_digest_122 : decode cX2_digest 122 = .ok (.lreturn, 1) := by decide +kernel
theorem dX2_isSpan_0 : decode cX2_isSpan 0 = .ok (.iload_n 0, 1) := by decide +kernel
theorem dX2_isSpan_1 : decode cX2_isSpan 1 = .ok (.iconst 1, 1) := by decide +kernel
theorem dX2_isSpan_2 : decode cX2_isSpan 2 = .ok (.if_icmp .lt 14, 3) := by decide +kernel
theorem dX2_isSpan_5 : decode cX2_isSpan 5 = .ok (.iload_n 0, 1) := by decide +kernel
theorem dX2_isSpan_6 : decode cX2_isSpan 6 = .ok (.sipush 240, 3) := by decide +kernel
theorem dX2_isSpan_9 : decode cX2_isSpan 9 = .ok (.if_icmp .gt 7, 3) := by decide +kernel
theorem dX2_isSpan_12 : decode cX2_isSpan 12 = .ok (.iconst 1, 1) := by decide +kernel
theorem dX2_isSpan_13 : decode cX2_isSpan 13 = .ok (.goto 4, 3) := by decide +kernel
theorem dX2_isSpan_16 : decode cX2_isSpan 16 = .ok (.iconst 0, 1) := by decide +kernel
theorem dX2_isSpan_17 : decode cX2_isSpan 17 = .ok (.ireturn, 1) := by decide +kernel
set_option maxRecDepth 20000 in
theorem ggX2_waitWith_X0_copyFrom : GoodIn wsX2_waitWith wsX0_copyFrom := goodIn_r _ [10, 11, 12, 13, 14, 15, 16, 17, 18, 19, 20, 21, 22, 23, 24, 25, 26, 27, 28, 29, 30, 31, 32, 33, 34, 35, 36, 37, 38, 39, 40, 41, 42, 43, 118, 119, 120, 121, 122, 123, 124, 125, 126, 127, 128, 129, 130, 131, 132, 133, 134, 135, 136, 137, 138, 139, 140] (by decide +kernel) (by decide +kernel)
set_option maxRecDepth 20000 in
theorem gX2_waitWith_X0_copyFrom : GoodIn wsX2_waitWith (wsV RX2 128 RX0 yX0_copyFrom wsX0_copyFrom) := goodIn_app (goodIn_of _ (by decide +kernel)) ggX2_waitWith_X0_copyFrom
set_option maxRecDepth 20000 in
theorem ggX2_waitWith_X0_goOn : GoodIn wsX2_waitWith wsX0_goOn := goodIn_r _ [47, 48, 49, 50, 9, 51, 16, 22, 52, 53, 11, 54, 55, 56, 57, 23, 15, 25, 58, 59, 60, 29, 61, 42, 43, 62, 63, 64, 65, 66, 67, 68, 69, 70, 71, 72, 73, 74, 75, 76, 77, 78, 12, 79, 24, 80, 81, 82, 83, 84, 85, 86, 87, 31, 88, 89, 90, 91, 38, 41, 92, 93, 94, 95, 33, 34, 35, 96, 97, 98, 99, 13, 14, 100, 101, 102, 103, 104, 105, 106, 107, 40, 32, 108, 109, 110, 111, 17, 112, 113, 114, 115, 118, 119, 120, 121, 122, 123, 124, 125, 126, 127, 128, 129, 130, 131, 132, 133, 134, 135, 136, 137, 138, 139, 140] (by decide +kernel) (by decide +kernel)
set_option maxRecDepth 20000 in
theorem gX2_waitWith_X0_goOn : GoodIn wsX2_waitWith (wsV RX2 124 RX0 yX0_goOn wsX0_goOn) := goodIn_app (goodIn_of _ (by decide +kernel)) ggX2_waitWith_X0_goOn
theorem dX2_waitWith_0 : decode cX2_waitWith 0 = .ok (.aload_n 0, 1) := by decide +kernel
theorem dX2_waitWith_1 : decode cX2_waitWith 1 = .ok (.getfield 16, 3) := by decide +kernel
theorem dX2_waitWith_4 : decode cX2_waitWith 4 = .ok (.aload_n 0, 1) := by decide +kernel
theorem dX2_waitWith_5 : decode cX2_waitWith 5 = .ok (.getfield 10, 3) := by decide +kernel
theorem dX2_waitWith_8 : decode cX2_waitWith 8 = .ok (.invokevirtual 128, 3) := by decide +kernel
theorem dX2_waitWith_11 : decode cX2_waitWith 11 = .ok (.aload_n 0, 1) := by decide +kernel
theorem dX2_waitWith_12 : decode cX2_waitWith 12 = .ok (.getfield 16, 3) := by decide +kernel
theorem dX2_waitWith_15 : decode cX2_waitWith 15 = .ok (.iload_n 1, 1) := by decide +kernel
theorem dX2_waitWith_16 : decode cX2_waitWith 16 = .ok (.putfield 73, 3) := by decide +kernel
theorem dX2_waitWith_19 : decode cX2_waitWith 19 = .ok (.aload_n 0, 1) := by decide +kernel
theorem dX2_waitWith_20 : decode cX2_waitWith 20 = .ok (.getfield 16, 3) := by decide +kernel
theorem dX2_waitWith_23 : decode cX2_waitWith 23 = .ok (.iload_n 2, 1) := by decide +kernel
theorem dX2_waitWith_24 : decode cX2_waitWith 24 = .ok (.putfield 83, 3) := by decide +kernel
theorem dX2_waitWith_27 : decode cX2_waitWith 27 = .ok (.aload_n 0, 1) := by decide +kernel
theorem dX2_waitWith_28 : decode cX2_waitWith 28 = .ok (.getfield 16, 3) := by decide +kernel
theorem dX2_waitWith_31 : decode cX2_waitWith 31 = .ok (.iload_n 3, 1) := by decide +kernel
theorem dX2_waitWith_32 : decode cX2_waitWith 32 = .ok (.invokevirtual 124, 3) := by decide +kernel
theorem dX2_waitWith_35 : decode cX2_waitWith 35 = .ok (.aload_n 0, 1) := by decide +kernel
theorem dX2_waitWith_36 : decode cX2_waitWith 36 = .ok (.getfield 16, 3) := by decide +kernel
theorem dX2_waitWith_39 : decode cX2_waitWith 39 = .ok (.getfield 137, 3) := by decide +kernel
theorem dX2_waitWith_42 : decode cX2_waitWith 42 = .ok (.aload_n 0, 1) := by decide +kernel
theorem dX2_waitWith_43 : decode cX2_waitWith 43 = .ok (.getfield 10, 3) := by decide +kernel
theorem dX2_waitWith_46 : decode cX2_waitWith 46 = .ok (.getfield 137, 3) := by decide +kernel
theorem dX2_waitWith_49 : decode cX2_waitWith 49 = .ok (.isub, 1) := by decide +kernel
theorem dX2_waitWith_50 : decode cX2_waitWith 50 = .ok (.ireturn, 1) := by decide +kernel
theorem dJ9_floorMod_7cf53_0 : decode cJ9_floorMod_7cf53 0 = .ok (.iload_n 0, 1) := by decide +kernel
theorem dJ9_floorMod_7cf53_1 : decode cJ9_floorMod_7cf53 1 = .ok (.iload_n 1, 1) := by decide +kernel
theorem dJ9_floorMod_7cf53_2 : decode cJ9_floorMod_7cf53 2 = .ok (.irem, 1) := by decide +kernel
theorem dJ9_floorMod_7cf53_3 : decode cJ9_floorMod_7cf53 3 = .ok (.istore_n 2, 1) := by decide +kernel
theorem dJ9_floorMod_7cf53_4 : decode cJ9_floorMod_7cf53 4 = .ok (.iload_n 0, 1) := by decide +kernel
theorem dJ9_floorMod_7cf53_5 : decode cJ9_floorMod_7cf53 5 = .ok (.iload_n 1, 1) := by decide +kernel
theorem dJ9_floorMod_7cf53_6 : decode cJ9_floorMod_7cf53 6 = .ok (.ixor, 1) := by decide +kernel
theorem dJ9_floorMod_7cf53_7 : decode cJ9_floorMod_7cf53 7 = .ok (.ifCond .ge 11, 3) := by decide +kernel
theorem dJ9_floorMod_7cf53_10 : decode cJ9_floorMod_7cf53 10 = .ok (.iload_n 2, 1) := by decide +kernel
theorem dJ9_floorMod_7cf53_11 : decode cJ9_floorMod_7cf53 11 = .ok (.ifCond .eq 7, 3) := by decide +kernel
theorem dJ9_floorMod_7cf53_14 : decode cJ9_floorMod_7cf53 14 = .ok (.iload_n 2, 1) := by decide +kernel
theorem dJ9_floorMod_7cf53_15 : decode cJ9_floorMod_7cf53 15 = .ok (.iload_n 1, 1) := by decide +kernel
theorem dJ9_floorMod_7cf53_16 : decode cJ9_floorMod_7cf53 16 = .ok (.iadd, 1) := by decide +kernel
theorem dJ9_floorMod_7cf53_17 : decode cJ9_floorMod_7cf53 17 = .ok (.ireturn, 1) := by decide +kernel
theorem dJ9_floorMod_7cf53_18 : decode cJ9_floorMod_7cf53 18 = .ok (.iload_n 2, 1) := by decide +kernel
theorem dJ9_floorMod_7cf53_19 : decode cJ9_floorMod_7cf53 19 = .ok (.ireturn, 1) := by decide +kernel
theorem dJ9_max_7cf53_0 : decode cJ9_max_7cf53 0 = .ok (.iload_n 0, 1) := by decide +kernel
theorem dJ9_max_7cf53_1 : decode cJ9_max_7cf53 1 = .ok (.iload_n 1, 1) := by decide +kernel
theorem dJ9_max_7cf53_2 : decode cJ9_max_7cf53 2 = .ok (.if_icmp .lt 7, 3) := by decide +kernel
theorem dJ9_max_7cf53_5 : decode cJ9_max_7cf53 5 = .ok (.iload_n 0, 1) := by decide +kernel
theorem dJ9_max_7cf53_6 : decode cJ9_max_7cf53 6 = .ok (.goto 4, 3) := by decide +kernel
theorem dJ9_max_7cf53_9 : decode cJ9_max_7cf53 9 = .ok (.iload_n 1, 1) := by decide +kernel
theorem dJ9_max_7cf53_10 : decode cJ9_max_7cf53 10 = .ok (.ireturn, 1) := by decide +kernel
theorem dJ9_min_7cf53_0 : decode cJ9_min_7cf53 0 = .ok (.iload_n 0, 1) := by decide +kernel
theorem dJ9_min_7cf53_1 : decode cJ9_min_7cf53 1 = .ok (.iload_n 1, 1) := by decide +kernel
theorem dJ9_min_7cf53_2 : decode cJ9_min_7cf53 2 = .ok (.if_icmp .gt 7, 3) := by decide +kernel
theorem dJ9_min_7cf53_5 : decode cJ9_min_7cf53 5 = .ok (.iload_n 0, 1) := by decide +kernel
theorem dJ9_min_7cf53_6 : decode cJ9_min_7cf53 6 = .ok (.goto 4, 3) := by decide +kernel
theorem dJ9_min_7cf53_9 : decode cJ9_min_7cf53 9 = .ok (.iload_n 1, 1) := by decide +kernel
theorem dJ9_min_7cf53_10 : decode cJ9_min_7cf53 10 = .ok (.ireturn, 1) := by decide +kernel
theorem dL_below_0 : decode cL_below 0 = .ok (.iload_n 0, 1) := by decide +kernel
theorem dL_below_1 : decode cL_below 1 = .ok (.ldc 7, 2) := by decide +kernel
theorem dL_below_3 : decode cL_below 3 = .ok (.iand, 1) := by decide +kernel
theorem dL_below_4 : decode cL_below 4 = .ok (.iload_n 1, 1) := by decide +kernel
theorem dL_below_5 : decode cL_below 5 = .ok (.irem, 1) := by decide +kernel
theorem dL_below_6 : decode cL_below 6 = .ok (.ireturn, 1) := by decide +kernel
theorem dL_cell_0 : decode cL_cell 0 = .ok (.iload_n 1, 1) := by decide +kernel
theorem dL_cell_1 : decode cL_cell 1 = .ok (.aload_n 0, 1) := by decide +kernel
theorem dL_cell_2 : decode cL_cell 2 = .ok (.arraylength, 1) := by decide +kernel
theorem dL_cell_3 : decode cL_cell 3 = .ok (.if_icmp .ge 9, 3) := by decide +kernel
theorem dL_cell_6 : decode cL_cell 6 = .ok (.aload_n 0, 1) := by decide +kernel
theorem dL_cell_7 : decode cL_cell 7 = .ok (.iload_n 1, 1) := by decide +kernel
theorem dL_cell_8 : decode cL_cell 8 = .ok (.iaload, 1) := by decide +kernel
theorem dL_cell_9 : decode cL_cell 9 = .ok (.goto 9, 3) := by decide +kernel
theorem dL_cell_12 : decode cL_cell 12 = .ok (.ldc 8, 2) := by decide +kernel
theorem dL_cell_14 : decode cL_cell 14 = .ok (.iload_n 1, 1) := by decide +kernel
theorem dL_cell_15 : decode cL_cell 15 = .ok (.iconst 3, 1) := by decide +kernel
theorem dL_cell_16 : decode cL_cell 16 = .ok (.iadd, 1) := by decide +kernel
theorem dL_cell_17 : decode cL_cell 17 = .ok (.imul, 1) := by decide +kernel
theorem dL_cell_18 : decode cL_cell 18 = .ok (.ireturn, 1) := by decide +kernel
set_option maxRecDepth 20000 in
theorem ggL_bridge_X2_init : GoodIn wsL_bridge wsX2_init := goodIn_r _ [6, 7, 8, 9, 10, 11, 12, 13, 14, 15, 16, 17, 18, 19, 20, 21, 22, 23, 24, 25, 26, 27, 28, 29, 30, 31, 32, 33, 34, 35, 36, 37, 38, 39, 40, 41, 42, 43, 44, 45, 46, 47, 193, 194, 195, 196, 197, 198, 199, 200, 201, 202, 203, 191, 192, 204, 205, 206, 207, 208, 209, 210, 211, 212, 213, 214, 215] (by decide +kernel) (by decide +kernel)
set_option maxRecDepth 20000 in
theorem gL_bridge_X2_init : GoodIn wsL_bridge (wsX2_init) := ggL_bridge_X2_init
set_option maxRecDepth 20000 in
theorem ggL_bridge_L_cell : GoodIn wsL_bridge wsL_cell := goodIn_r _ [51, 52] (by decide +kernel) (by decide +kernel)
set_option maxRecDepth 20000 in
theorem gL_bridge_L_cell : GoodIn wsL_bridge (va_wsS RL 12 yL_cell wsL_cell) := goodIn_app (goodIn_of _ (by decide +kernel)) ggL_bridge_L_cell
set_option maxRecDepth 20000 in
theorem ggL_bridge_L_below : GoodIn wsL_bridge wsL_below := goodIn_r _ [55, 56] (by decide +kernel) (by decide +kernel)
set_option maxRecDepth 20000 in
theorem gL_bridge_L_below : GoodIn wsL_bridge (va_wsS RL 18 yL_below wsL_below) := goodIn_app (goodIn_of _ (by decide +kernel)) ggL_bridge_L_below
set_option maxRecDepth 20000 in
theorem ggL_bridge_X2_setCold : GoodIn wsL_bridge wsX2_setCold := goodIn_ca (goodIn_ca (goodIn_r _ [60, 61, 62, 63, 64, 13, 65, 191, 192, 193, 194, 195, 196, 197, 198, 199, 200, 201, 202, 203] (by decide +kernel) (by decide +kernel)) (goodIn_sub (fun _ h => List.mem_cons_of_mem _ (List.mem_append_left _ (List.mem_append_left _ (List.mem_append_right _ h)))) (by decide +kernel))) (goodIn_sub (fun _ h => List.mem_cons_of_mem _ (List.mem_append_left _ (List.mem_append_right _ h))) (by decide +kernel))
set_option maxRecDepth 20000 in
theorem gL_bridge_X2_setCold : GoodIn wsL_bridge (wsV RL 22 RX2 yX2_setCold wsX2_setCold) := goodIn_app (goodIn_of _ (by decide +kernel)) ggL_bridge_X2_setCold
set_option maxRecDepth 20000 in
theorem ggL_bridge_X2_poise : GoodIn wsL_bridge wsX2_poise := goodIn_ca (goodIn_ca (goodIn_r _ [69, 63, 64, 70, 71, 13, 72, 73, 191, 192, 193, 194, 195, 196, 197, 198, 199, 200, 201, 202, 203] (by decide +kernel) (by decide +kernel)) (goodIn_sub (fun _ h => List.mem_cons_of_mem _ (List.mem_append_left _ (List.mem_append_right _ h))) (by decide +kernel))) (goodIn_sub (fun _ h => List.mem_cons_of_mem _ (List.mem_append_right _ h)) (by decide +kernel))
set_option maxRecDepth 20000 in
theorem gL_bridge_X2_poise : GoodIn wsL_bridge (wsV RL 25 RX2 yX2_poise wsX2_poise) := goodIn_app (goodIn_of _ (by decide +kernel)) ggL_bridge_X2_poise
set_option maxRecDepth 20000 in
theorem ggL_bridge_X2_ring : GoodIn wsL_bridge wsX2_ring := goodIn_ca (goodIn_r _ [77, 63, 64, 13, 78, 191, 192, 193, 194, 195, 196, 197, 198, 199, 200, 201, 202, 203] (by decide +kernel) (by decide +kernel)) (goodIn_sub (fun _ h => List.mem_cons_of_mem _ (List.mem_append_left _ (List.mem_append_right _ h))) (by decide +kernel))
set_option maxRecDepth 20000 in
theorem gL_bridge_X2_ring : GoodIn wsL_bridge (wsV RL 29 RX2 yX2_ring wsX2_ring) := goodIn_app (goodIn_of _ (by decide +kernel)) ggL_bridge_X2_ring
set_option maxRecDepth 20000 in
theorem ggL_bridge_X2_come : GoodIn wsL_bridge wsX2_come := goodIn_ca (goodIn_ca (goodIn_r _ [82, 63, 64, 70, 71, 13, 83, 84, 85, 86, 87, 88, 28, 89, 36, 40, 41, 42, 43, 44, 90, 91, 92, 93, 38, 39, 46, 47, 191, 192, 193, 194, 195, 196, 197, 198, 199, 200, 201, 202, 203, 204, 205, 206, 207, 208, 209, 210, 211, 212, 213, 214, 215] (by decide +kernel) (by decide +kernel)) (goodIn_sub (fun _ h => List.mem_cons_of_mem _ (List.mem_append_left _ (List.mem_append_right _ h))) (by decide +kernel))) (goodIn_sub (fun _ h => List.mem_cons_of_mem _ (List.mem_append_right _ h)) (by decide +kernel))
set_option maxRecDepth 20000 in
theorem gL_bridge_X2_come : GoodIn wsL_bridge (wsV RL 32 RX2 yX2_come wsX2_come) := goodIn_app (goodIn_of _ (by decide +kernel)) ggL_bridge_X2_come
set_option maxRecDepth 20000 in
theorem ggL_bridge_X2_pass : GoodIn wsL_bridge wsX2_pass := goodIn_ca (goodIn_r _ [97, 63, 64, 13, 83, 98, 99, 100, 3, 101, 102, 103, 104, 12, 105, 106, 107, 108, 109, 23, 29, 110, 111, 18, 112, 113, 114, 115, 30, 22, 32, 116, 117, 118, 28, 119, 46, 47, 120, 121, 122, 123, 124, 125, 126, 127, 128, 129, 130, 131, 132, 133, 134, 135, 136, 19, 137, 31, 138, 139, 140, 141, 142, 143, 144, 145, 36, 146, 147, 148, 149, 42, 45, 90, 91, 92, 93, 38, 39, 40, 150, 151, 152, 153, 20, 21, 154, 155, 156, 157, 158, 159, 160, 161, 44, 37, 162, 163, 164, 165, 25, 166, 167, 168, 169, 191, 192, 193, 194, 195, 196, 197, 198, 199, 200, 201, 202, 203, 204, 205, 206, 207, 208, 209, 210, 211, 212, 213, 214, 215] (by decide +kernel) (by decide +kernel)) (goodIn_sub (fun _ h => List.mem_cons_of_mem _ (List.mem_append_left _ (List.mem_append_right _ h))) (by decide +kernel))
set_option maxRecDepth 20000 in
theorem gL_bridge_X2_pass : GoodIn wsL_bridge (wsV RL 36 RX2 yX2_pass wsX2_pass) := goodIn_app (goodIn_of _ (by decide +kernel)) ggL_bridge_X2_pass
set_option maxRecDepth 20000 in
theorem ggL_bridge_L_leave : GoodIn wsL_bridge wsL_leave := goodIn_ca (goodIn_ca (goodIn_r _ [172, 173, 174, 175, 176, 3, 177, 61, 62, 70, 71, 13, 83, 178, 85, 179, 143, 144, 28, 145, 36, 180, 147, 148, 149, 42, 45, 90, 91, 92, 93, 38, 39, 46, 47, 40, 181, 182, 183, 184, 43, 191, 192, 193, 194, 195, 196, 197, 198, 199, 200, 201, 202, 203, 204, 205, 206, 207, 208, 209, 210, 211, 212, 213, 214, 215] (by decide +kernel) (by decide +kernel)) (goodIn_sub (fun _ h => List.mem_cons_of_mem _ (List.mem_append_left _ (List.mem_append_left _ (List.mem_append_right _ h)))) (by decide +kernel))) (goodIn_sub (fun _ h => List.mem_cons_of_mem _ (List.mem_append_right _ h)) (by decide +kernel))
set_option maxRecDepth 20000 in
theorem gL_bridge_L_leave : GoodIn wsL_bridge (va_wsS RL 39 yL_leave wsL_leave) := goodIn_app (goodIn_of _ (by decide +kernel)) ggL_bridge_L_leave
set_option maxRecDepth 20000 in
theorem ggL_bridge_X2_crack : GoodIn wsL_bridge wsX2_crack := goodIn_r _ [188, 13, 189, 190, 140, 122, 141, 191, 192, 193, 194, 195, 196, 197, 198, 199, 200, 201, 202, 203] (by decide +kernel) (by decide +kernel)
set_option maxRecDepth 20000 in
theorem gL_bridge_X2_crack : GoodIn wsL_bridge (wsV RL 43 RX2 yX2_crack wsX2_crack) := goodIn_app (goodIn_of _ (by decide +kernel)) ggL_bridge_X2_crack
theorem dL_bridge_0 : decode cL_bridge 0 = .ok (.new 9, 3) := by decide +kernel
theorem dL_bridge_3 : decode cL_bridge 3 = .ok (.dup, 1) := by decide +kernel
theorem dL_bridge_4 : decode cL_bridge 4 = .ok (.invokespecial 11, 3) := by decide +kernel
theorem dL_bridge_7 : decode cL_bridge 7 = .ok (.astore_n 1, 1) := by decide +kernel
theorem dL_bridge_8 : decode cL_bridge 8 = .ok (.iconst 0, 1) := by decide +kernel
theorem dL_bridge_9 : decode cL_bridge 9 = .ok (.istore_n 2, 1) := by decide +kernel
theorem dL_bridge_10 : decode cL_bridge 10 = .ok (.iload_n 2, 1) := by decide +kernel
theorem dL_bridge_11 : decode cL_bridge 11 = .ok (.bipush 8, 2) := by decide +kernel
theorem dL_bridge_13 : decode cL_bridge 13 = .ok (.if_icmp .ge 31, 3) := by decide +kernel
theorem dL_bridge_16 : decode cL_bridge 16 = .ok (.aload_n 1, 1) := by decide +kernel
theorem dL_bridge_17 : decode cL_bridge 17 = .ok (.iload_n 2, 1) := by decide +kernel
theorem dL_bridge_18 : decode cL_bridge 18 = .ok (.aload_n 0, 1) := by decide +kernel
theorem dL_bridge_19 : decode cL_bridge 19 = .ok (.iconst 0, 1) := by decide +kernel
theorem dL_bridge_20 : decode cL_bridge 20 = .ok (.invokestatic 12, 3) := by decide +kernel
theorem dL_bridge_23 : decode cL_bridge 23 = .ok (.iconst 2, 1) := by decide +kernel
theorem dL_bridge_24 : decode cL_bridge 24 = .ok (.iload_n 2, 1) := by decide +kernel
theorem dL_bridge_25 : decode cL_bridge 25 = .ok (.imul, 1) := by decide +kernel
theorem dL_bridge_26 : decode cL_bridge 26 = .ok (.ishr, 1) := by decide +kernel
theorem dL_bridge_27 : decode cL_bridge 27 = .ok (.bipush 7, 2) := by decide +kernel
theorem dL_bridge_29 : decode cL_bridge 29 = .ok (.invokestatic 18, 3) := by decide +kernel
theorem dL_bridge_32 : decode cL_bridge 32 = .ok (.iconst 3, 1) := by decide +kernel
theorem dL_bridge_33 : decode cL_bridge 33 = .ok (.isub, 1) := by decide +kernel
theorem dL_bridge_34 : decode cL_bridge 34 = .ok (.invokevirtual 22, 3) := by decide +kernel
theorem dL_bridge_37 : decode cL_bridge 37 = .ok (.pop, 1) := by decide +kernel
theorem dL_bridge_38 : decode cL_bridge 38 = .ok (.iinc 2 1, 3) := by decide +kernel
theorem dL_bridge_41 : decode cL_bridge 41 = .ok (.goto (-31), 3) := by decide +kernel
theorem dL_bridge_44 : decode cL_bridge 44 = .ok (.aload_n 1, 1) := by decide +kernel
theorem dL_bridge_45 : decode cL_bridge 45 = .ok (.aload_n 0, 1) := by decide +kernel
theorem dL_bridge_46 : decode cL_bridge 46 = .ok (.iconst 1, 1) := by decide +kernel
theorem dL_bridge_47 : decode cL_bridge 47 = .ok (.invokestatic 12, 3) := by decide +kernel
theorem dL_bridge_50 : decode cL_bridge 50 = .ok (.bipush 31, 2) := by decide +kernel
theorem dL_bridge_52 : decode cL_bridge 52 = .ok (.invokestatic 18, 3) := by decide +kernel
theorem dL_bridge_55 : decode cL_bridge 55 = .ok (.invokevirtual 25, 3) := by decide +kernel
theorem dL_bridge_58 : decode cL_bridge 58 = .ok (.pop, 1) := by decide +kernel
theorem dL_bridge_59 : decode cL_bridge 59 = .ok (.aload_n 1, 1) := by decide +kernel
theorem dL_bridge_60 : decode cL_bridge 60 = .ok (.aload_n 0, 1) := by decide +kernel
theorem dL_bridge_61 : decode cL_bridge 61 = .ok (.iconst 2, 1) := by decide +kernel
theorem dL_bridge_62 : decode cL_bridge 62 = .ok (.invokestatic 12, 3) := by decide +kernel
theorem dL_bridge_65 : decode cL_bridge 65 = .ok (.bipush 9, 2) := by decide +kernel
theorem dL_bridge_67 : decode cL_bridge 67 = .ok (.invokestatic 18, 3) := by decide +kernel
theorem dL_bridge_70 : decode cL_bridge 70 = .ok (.iconst 5, 1) := by decide +kernel
theorem dL_bridge_71 : decode cL_bridge 71 = .ok (.irem, 1) := by decide +kernel
theorem dL_bridge_72 : decode cL_bridge 72 = .ok (.invokevirtual 29, 3) := by decide +kernel
theorem dL_bridge_75 : decode cL_bridge 75 = .ok (.pop, 1) := by decide +kernel
theorem dL_bridge_76 : decode cL_bridge 76 = .ok (.aload_n 0, 1) := by decide +kernel
theorem dL_bridge_77 : decode cL_bridge 77 = .ok (.iconst 3, 1) := by decide +kernel
theorem dL_bridge_78 : decode cL_bridge 78 = .ok (.invokestatic 12, 3) := by decide +kernel
theorem dL_bridge_81 : decode cL_bridge 81 = .ok (.aload_n 0, 1) := by decide +kernel
theorem dL_bridge_82 : decode cL_bridge 82 = .ok (.iconst 3, 1) := by decide +kernel
theorem dL_bridge_83 : decode cL_bridge 83 = .ok (.invokestatic 12, 3) := by decide +kernel
theorem dL_bridge_86 : decode cL_bridge 86 = .ok (.iconst 5, 1) := by decide +kernel
theorem dL_bridge_87 : decode cL_bridge 87 = .ok (.ishr, 1) := by decide +kernel
theorem dL_bridge_88 : decode cL_bridge 88 = .ok (.iconst 3, 1) := by decide +kernel
theorem dL_bridge_89 : decode cL_bridge 89 = .ok (.invokestatic 18, 3) := by decide +kernel
theorem dL_bridge_92 : decode cL_bridge 92 = .ok (.ifCond .ne 8, 3) := by decide +kernel
theorem dL_bridge_95 : decode cL_bridge 95 = .ok (.bipush 41, 2) := by decide +kernel
theorem dL_bridge_97 : decode cL_bridge 97 = .ok (.goto 5, 3) := by decide +kernel
theorem dL_bridge_100 : decode cL_bridge 100 = .ok (.bipush 15, 2) := by decide +kernel
theorem dL_bridge_102 : decode cL_bridge 102 = .ok (.invokestatic 18, 3) := by decide +kernel
theorem dL_bridge_105 : decode cL_bridge 105 = .ok (.istore_n 2, 1) := by decide +kernel
theorem dL_bridge_106 : decode cL_bridge 106 = .ok (.iconst 0, 1) := by decide +kernel
theorem dL_bridge_107 : decode cL_bridge 107 = .ok (.istore_n 3, 1) := by decide +kernel
theorem dL_bridge_108 : decode cL_bridge 108 = .ok (.iload_n 3, 1) := by decide +kernel
theorem dL_bridge_109 : decode cL_bridge 109 = .ok (.iload_n 2, 1) := by decide +kernel
theorem dL_bridge_110 : decode cL_bridge 110 = .ok (.if_icmp .ge 135, 3) := by decide +kernel
theorem dL_bridge_113 : decode cL_bridge 113 = .ok (.aload_n 0, 1) := by decide +kernel
theorem dL_bridge_114 : decode cL_bridge 114 = .ok (.iconst 4, 1) := by decide +kernel
theorem dL_bridge_115 : decode cL_bridge 115 = .ok (.iload_n 3, 1) := by decide +kernel
theorem dL_bridge_116 : decode cL_bridge 116 = .ok (.bipush 8, 2) := by decide +kernel
theorem dL_bridge_118 : decode cL_bridge 118 = .ok (.irem, 1) := by decide +kernel
theorem dL_bridge_119 : decode cL_bridge 119 = .ok (.iadd, 1) := by decide +kernel
theorem dL_bridge_120 : decode cL_bridge 120 = .ok (.invokestatic 12, 3) := by decide +kernel
theorem dL_bridge_123 : decode cL_bridge 123 = .ok (.iload_n 3, 1) := by decide +kernel
theorem dL_bridge_124 : decode cL_bridge 124 = .ok (.bipush 8, 2) := by decide +kernel
theorem dL_bridge_126 : decode cL_bridge 126 = .ok (.idiv, 1) := by decide +kernel
theorem dL_bridge_127 : decode cL_bridge 127 = .ok (.iconst 4, 1) := by decide +kernel
theorem dL_bridge_128 : decode cL_bridge 128 = .ok (.imul, 1) := by decide +kernel
theorem dL_bridge_129 : decode cL_bridge 129 = .ok (.ishr, 1) := by decide +kernel
theorem dL_bridge_130 : decode cL_bridge 130 = .ok (.bipush 19, 2) := by decide +kernel
theorem dL_bridge_132 : decode cL_bridge 132 = .ok (.iload_n 3, 1) := by decide +kernel
theorem dL_bridge_133 : decode cL_bridge 133 = .ok (.imul, 1) := by decide +kernel
theorem dL_bridge_134 : decode cL_bridge 134 = .ok (.iadd, 1) := by decide +kernel
theorem dL_bridge_135 : decode cL_bridge 135 = .ok (.istore 4, 2) := by decide +kernel
theorem dL_bridge_137 : decode cL_bridge 137 = .ok (.aload_n 1, 1) := by decide +kernel
theorem dL_bridge_138 : decode cL_bridge 138 = .ok (.iload 4, 2) := by decide +kernel
theorem dL_bridge_140 : decode cL_bridge 140 = .ok (.iconst 2, 1) := by decide +kernel
theorem dL_bridge_141 : decode cL_bridge 141 = .ok (.invokestatic 18, 3) := by decide +kernel
theorem dL_bridge_144 : decode cL_bridge 144 = .ok (.ifCond .ne 7, 3) := by decide +kernel
theorem dL_bridge_147 : decode cL_bridge 147 = .ok (.iconst 1, 1) := by decide +kernel
theorem dL_bridge_148 : decode cL_bridge 148 = .ok (.goto 4, 3) := by decide +kernel
theorem dL_bridge_151 : decode cL_bridge 151 = .ok (.iconst 0, 1) := by decide +kernel
theorem dL_bridge_152 : decode cL_bridge 152 = .ok (.iconst 1, 1) := by decide +kernel
theorem dL_bridge_153 : decode cL_bridge 153 = .ok (.iload 4, 2) := by decide +kernel
theorem dL_bridge_155 : decode cL_bridge 155 = .ok (.iconst 2, 1) := by decide +kernel
theorem dL_bridge_156 : decode cL_bridge 156 = .ok (.ishr, 1) := by decide +kernel
theorem dL_bridge_157 : decode cL_bridge 157 = .ok (.bipush 6, 2) := by decide +kernel
theorem dL_bridge_159 : decode cL_bridge 159 = .ok (.invokestatic 18, 3) := by decide +kernel
theorem dL_bridge_162 : decode cL_bridge 162 = .ok (.iadd, 1) := by decide +kernel
theorem dL_bridge_163 : decode cL_bridge 163 = .ok (.invokevirtual 32, 3) := by decide +kernel
theorem dL_bridge_166 : decode cL_bridge 166 = .ok (.pop, 1) := by decide +kernel
theorem dL_bridge_167 : decode cL_bridge 167 = .ok (.iload 4, 2) := by decide +kernel
theorem dL_bridge_169 : decode cL_bridge 169 = .ok (.iconst 4, 1) := by decide +kernel
theorem dL_bridge_170 : decode cL_bridge 170 = .ok (.ishr, 1) := by decide +kernel
theorem dL_bridge_171 : decode cL_bridge 171 = .ok (.iconst 3, 1) := by decide +kernel
theorem dL_bridge_172 : decode cL_bridge 172 = .ok (.invokestatic 18, 3) := by decide +kernel
theorem dL_bridge_175 : decode cL_bridge 175 = .ok (.ifCond .ne 36, 3) := by decide +kernel
theorem dL_bridge_178 : decode cL_bridge 178 = .ok (.aload_n 1, 1) := by decide +kernel
theorem dL_bridge_179 : decode cL_bridge 179 = .ok (.iconst 1, 1) := by decide +kernel
theorem dL_bridge_180 : decode cL_bridge 180 = .ok (.iload 4, 2) := by decide +kernel
theorem dL_bridge_182 : decode cL_bridge 182 = .ok (.iconst 5, 1) := by decide +kernel
theorem dL_bridge_183 : decode cL_bridge 183 = .ok (.ishr, 1) := by decide +kernel
theorem dL_bridge_184 : decode cL_bridge 184 = .ok (.iload 4, 2) := by decide +kernel
theorem dL_bridge_186 : decode cL_bridge 186 = .ok (.bipush 6, 2) := by decide +kernel
theorem dL_bridge_188 : decode cL_bridge 188 = .ok (.ishr, 1) := by decide +kernel
theorem dL_bridge_189 : decode cL_bridge 189 = .ok (.iconst 4, 1) := by decide +kernel
theorem dL_bridge_190 : decode cL_bridge 190 = .ok (.invokestatic 18, 3) := by decide +kernel
theorem dL_bridge_193 : decode cL_bridge 193 = .ok (.ifCond .ne 8, 3) := by decide +kernel
theorem dL_bridge_196 : decode cL_bridge 196 = .ok (.bipush 80, 2) := by decide +kernel
theorem dL_bridge_198 : decode cL_bridge 198 = .ok (.goto 5, 3) := by decide +kernel
theorem dL_bridge_201 : decode cL_bridge 201 = .ok (.bipush 12, 2) := by decide +kernel
theorem dL_bridge_203 : decode cL_bridge 203 = .ok (.invokestatic 18, 3) := by decide +kernel
theorem dL_bridge_206 : decode cL_bridge 206 = .ok (.iadd, 1) := by decide +kernel
theorem dL_bridge_207 : decode cL_bridge 207 = .ok (.invokevirtual 36, 3) := by decide +kernel
theorem dL_bridge_210 : decode cL_bridge 210 = .ok (.pop, 1) := by decide +kernel
theorem dL_bridge_211 : decode cL_bridge 211 = .ok (.iload 4, 2) := by decide +kernel
theorem dL_bridge_213 : decode cL_bridge 213 = .ok (.bipush 7, 2) := by decide +kernel
theorem dL_bridge_215 : decode cL_bridge 215 = .ok (.ishr, 1) := by decide +kernel
theorem dL_bridge_216 : decode cL_bridge 216 = .ok (.bipush 9, 2) := by decide +kernel
theorem dL_bridge_218 : decode cL_bridge 218 = .ok (.invokestatic 18, 3) := by decide +kernel
theorem dL_bridge_221 : decode cL_bridge 221 = .ok (.ifCond .ne 18, 3) := by decide +kernel
theorem dL_bridge_224 : decode cL_bridge 224 = .ok (.aload_n 1, 1) := by decide +kernel
theorem dL_bridge_225 : decode cL_bridge 225 = .ok (.iload 4, 2) := by decide +kernel
theorem dL_bridge_227 : decode cL_bridge 227 = .ok (.iconst 3, 1) := by decide +kernel
theorem dL_bridge_228 : decode cL_bridge 228 = .ok (.ishr, 1) := by decide +kernel
theorem dL_bridge_229 : decode cL_bridge 229 = .ok (.iload_n 3, 1) := by decide +kernel
theorem dL_bridge_230 : decode cL_bridge 230 = .ok (.iconst 1, 1) := by decide +kernel
theorem dL_bridge_231 : decode cL_bridge 231 = .ok (.iadd, 1) := by decide +kernel
theorem dL_bridge_232 : decode cL_bridge 232 = .ok (.invokestatic 18, 3) := by decide +kernel
theorem dL_bridge_235 : decode cL_bridge 235 = .ok (.invokestatic 39, 3) := by decide +kernel
theorem dL_bridge_238 : decode cL_bridge 238 = .ok (.pop, 1) := by decide +kernel
theorem dL_bridge_239 : decode cL_bridge 239 = .ok (.iinc 3 1, 3) := by decide +kernel
theorem dL_bridge_242 : decode cL_bridge 242 = .ok (.goto (-134), 3) := by decide +kernel
theorem dL_bridge_245 : decode cL_bridge 245 = .ok (.aload_n 0, 1) := by decide +kernel
theorem dL_bridge_246 : decode cL_bridge 246 = .ok (.bipush 12, 2) := by decide +kernel
theorem dL_bridge_248 : decode cL_bridge 248 = .ok (.invokestatic 12, 3) := by decide +kernel
theorem dL_bridge_251 : decode cL_bridge 251 = .ok (.iconst 3, 1) := by decide +kernel
theorem dL_bridge_252 : decode cL_bridge 252 = .ok (.invokestatic 18, 3) := by decide +kernel
theorem dL_bridge_255 : decode cL_bridge 255 = .ok (.ifCond .ne 20, 3) := by decide +kernel
theorem dL_bridge_258 : decode cL_bridge 258 = .ok (.aload_n 1, 1) := by decide +kernel
theorem dL_bridge_259 : decode cL_bridge 259 = .ok (.aload_n 0, 1) := by decide +kernel
theorem dL_bridge_260 : decode cL_bridge 260 = .ok (.bipush 12, 2) := by decide +kernel
theorem dL_bridge_262 : decode cL_bridge 262 = .ok (.invokestatic 12, 3) := by decide +kernel
theorem dL_bridge_265 : decode cL_bridge 265 = .ok (.iconst 2, 1) := by decide +kernel
theorem dL_bridge_266 : decode cL_bridge 266 = .ok (.ishr, 1) := by decide +kernel
theorem dL_bridge_267 : decode cL_bridge 267 = .ok (.iconst 5, 1) := by decide +kernel
theorem dL_bridge_268 : decode cL_bridge 268 = .ok (.invokestatic 18, 3) := by decide +kernel
theorem dL_bridge_271 : decode cL_bridge 271 = .ok (.invokevirtual 29, 3) := by decide +kernel
theorem dL_bridge_274 : decode cL_bridge 274 = .ok (.pop, 1) := by decide +kernel
theorem dL_bridge_275 : decode cL_bridge 275 = .ok (.aload_n 0, 1) := by decide +kernel
theorem dL_bridge_276 : decode cL_bridge 276 = .ok (.bipush 13, 2) := by decide +kernel
theorem dL_bridge_278 : decode cL_bridge 278 = .ok (.invokestatic 12, 3) := by decide +kernel
theorem dL_bridge_281 : decode cL_bridge 281 = .ok (.iconst 3, 1) := by decide +kernel
theorem dL_bridge_282 : decode cL_bridge 282 = .ok (.invokestatic 18, 3) := by decide +kernel
theorem dL_bridge_285 : decode cL_bridge 285 = .ok (.ifCond .ne 8, 3) := by decide +kernel
theorem dL_bridge_288 : decode cL_bridge 288 = .ok (.aload_n 1, 1) := by decide +kernel
theorem dL_bridge_289 : decode cL_bridge 289 = .ok (.invokevirtual 43, 3) := by decide +kernel
theorem dL_bridge_292 : decode cL_bridge 292 = .ok (.pop, 1) := by decide +kernel
theorem dL_bridge_293 : decode cL_bridge 293 = .ok (.aload_n 1, 1) := by decide +kernel
theorem dL_bridge_294 : decode cL_bridge 294 = .ok (.areturn, 1) := by decide +kernel
set_option maxRecDepth 20000 in
theorem ggL_leave_X2_leave : GoodIn wsL_leave wsX2_leave := goodIn_ca (goodIn_ca (goodIn_r _ [6, 7, 8, 9, 10, 11, 12, 13, 14, 15, 16, 17, 18, 19, 20, 21, 22, 23, 24, 25, 26, 27, 28, 29, 30, 31, 32, 33, 34, 35, 36, 37, 38, 39, 40, 41, 42, 43, 44, 45, 46, 47, 48, 49, 50, 51, 52, 53, 54, 55, 56, 57, 58, 59, 60, 61, 62, 63, 64, 65] (by decide +kernel) (by decide +kernel)) (goodIn_sub (fun _ h => List.mem_cons_of_mem _ (List.mem_append_left _ (List.mem_append_right _ h))) (by decide +kernel))) (goodIn_sub (fun _ h => List.mem_cons_of_mem _ (List.mem_append_right _ h)) (by decide +kernel))
set_option maxRecDepth 20000 in
theorem gL_leave_X2_leave : GoodIn wsL_leave (wsV RL 47 RX2 yX2_leave wsX2_leave) := goodIn_app (goodIn_of _ (by decide +kernel)) ggL_leave_X2_leave
theorem dL_leave_0 : decode cL_leave 0 = .ok (.aload_n 0, 1) := by decide +kernel
theorem dL_leave_1 : decode cL_leave 1 = .ok (.iload_n 1, 1) := by decide +kernel
theorem dL_leave_2 : decode cL_leave 2 = .ok (.invokevirtual 47, 3) := by decide +kernel
theorem dL_leave_5 : decode cL_leave 5 = .ok (.ireturn, 1) := by decide +kernel
theorem dL_leave_6 : decode cL_leave 6 = .ok (.astore_n 2, 1) := by decide +kernel
theorem dL_leave_7 : decode cL_leave 7 = .ok (.iconst (-1), 1) := by decide +kernel
theorem dL_leave_8 : decode cL_leave 8 = .ok (.ireturn, 1) := by decide +kernel
set_option maxRecDepth 20000 in
theorem ggL_poise_X2_poise : GoodIn wsL_poise wsX2_poise := goodIn_ca (goodIn_ca (goodIn_r _ [6, 7, 8, 9, 10, 11, 12, 13, 14, 15, 16, 17, 18, 19, 20, 21, 22, 23, 24, 25, 26] (by decide +kernel) (by decide +kernel)) (goodIn_sub (fun _ h => List.mem_cons_of_mem _ (List.mem_append_left _ (List.mem_append_right _ h))) (by decide +kernel))) (goodIn_sub (fun _ h => List.mem_cons_of_mem _ (List.mem_append_right _ h)) (by decide +kernel))
set_option maxRecDepth 20000 in
theorem gL_poise_X2_poise : GoodIn wsL_poise (wsV RL 25 RX2 yX2_poise wsX2_poise) := goodIn_app (goodIn_of _ (by decide +kernel)) ggL_poise_X2_poise
theorem dL_poise_0 : decode cL_poise 0 = .ok (.aload_n 0, 1) := by decide +kernel
theorem dL_poise_1 : decode cL_poise 1 = .ok (.iload_n 1, 1) := by decide +kernel
theorem dL_poise_2 : decode cL_poise 2 = .ok (.invokevirtual 25, 3) := by decide +kernel
theorem dL_poise_5 : decode cL_poise 5 = .ok (.ireturn, 1) := by decide +kernel
theorem dL_poise_6 : decode cL_poise 6 = .ok (.astore_n 2, 1) := by decide +kernel
theorem dL_poise_7 : decode cL_poise 7 = .ok (.iconst (-1), 1) := by decide +kernel
theorem dL_poise_8 : decode cL_poise 8 = .ok (.ireturn, 1) := by decide +kernel
set_option maxRecDepth 20000 in
theorem ggL_law_L_bridge : GoodIn wsL_law wsL_bridge := goodIn_ca (goodIn_ca (goodIn_ca (goodIn_r _ [12, 13, 14, 15, 16, 17, 18, 19, 20, 21, 22, 23, 24, 25, 26, 27, 28, 29, 30, 31, 32, 33, 34, 35, 0, 36, 37, 38, 39, 40, 41, 42, 43, 44, 45, 46, 47, 48, 49, 50, 51, 52, 53, 54, 55, 56, 57, 58, 59, 60, 11, 61, 62, 63, 64, 65, 66, 67, 68, 69, 70, 71, 72, 73, 74, 75, 76, 77, 78, 79, 80, 81, 82, 83, 84, 85, 86, 87, 88, 89, 90, 91, 92, 93, 94, 95, 96, 97, 98, 99, 100, 101, 102, 103, 104, 105, 106, 107, 108, 109, 110, 111, 112, 113, 114, 115, 116, 117, 118, 119, 120, 121, 122, 123, 124, 125, 126, 127, 128, 129, 130, 3, 4, 5, 131, 132, 133, 134, 135, 136, 137, 138, 139, 140, 141, 142, 143, 144, 145, 146, 7, 8, 147, 148, 149, 150, 151, 152, 153, 154, 155, 156, 157, 158, 159, 160, 161, 162, 163, 164, 165, 166, 167, 168, 169, 170, 171, 172, 173, 174, 175, 176, 177, 178, 179, 180, 181, 182, 183, 184, 185, 186, 187, 188, 189, 190, 191, 192, 193, 194, 195, 271, 272, 273, 274, 275, 276, 277, 278, 279, 280, 281, 282, 283, 284, 285, 286, 287, 288, 289, 290, 291, 292, 293, 294, 295] (by decide +kernel) (by decide +kernel)) (goodIn_sub (fun _ h => List.mem_append_left _ (List.mem_append_left _ (List.mem_append_right _ h))) (by decide +kernel))) (goodIn_sub (fun _ h => List.mem_append_left _ (List.mem_append_right _ h)) (by decide +kernel))) (goodIn_sub (fun _ h => List.mem_append_right _ h) (by decide +kernel))
set_option maxRecDepth 20000 in
theorem gL_law_L_bridge : GoodIn wsL_law (va_wsS RL 51 yL_bridge wsL_bridge) := goodIn_app (goodIn_of _ (by decide +kernel)) ggL_law_L_bridge
set_option maxRecDepth 20000 in
theorem ggL_law_X2_setCold : GoodIn wsL_law wsX2_setCold := goodIn_ca (goodIn_ca (goodIn_r _ [70, 71, 72, 73, 74, 25, 75, 271, 272, 273, 274, 275, 276, 277, 278, 279, 280, 281, 282, 283] (by decide +kernel) (by decide +kernel)) (goodIn_sub (fun _ h => List.mem_append_left _ (List.mem_append_left _ (List.mem_append_right _ h))) (by decide +kernel))) (goodIn_sub (fun _ h => List.mem_append_left _ (List.mem_append_right _ h)) (by decide +kernel))
set_option maxRecDepth 20000 in
theorem gL_law_X2_setCold : GoodIn wsL_law (wsV RL 22 RX2 yX2_setCold wsX2_setCold) := goodIn_app (goodIn_of _ (by decide +kernel)) ggL_law_X2_setCold
set_option maxRecDepth 20000 in
theorem ggL_law_L_cell : GoodIn wsL_law wsL_cell := goodIn_r _ [61, 62] (by decide +kernel) (by decide +kernel)
set_option maxRecDepth 20000 in
theorem gL_law_L_cell : GoodIn wsL_law (va_wsS RL 12 yL_cell wsL_cell) := goodIn_app (goodIn_of _ (by decide +kernel)) ggL_law_L_cell
set_option maxRecDepth 20000 in
theorem ggL_law_X2_count : GoodIn wsL_law wsX2_count := goodIn_ca (goodIn_r _ [199, 71, 72, 25, 200, 201, 202, 24, 203, 30, 31, 32, 33, 34, 40, 204, 120, 121, 205, 35, 41, 122, 123, 124, 125, 43, 126, 127, 128, 39, 129, 57, 58, 130, 3, 4, 5, 131, 132, 133, 134, 135, 136, 137, 138, 271, 272, 273, 274, 275, 276, 277, 278, 279, 280, 281, 282, 283, 284, 285, 286, 287, 288, 289, 290, 291, 292, 293, 294, 295] (by decide +kernel) (by decide +kernel)) (goodIn_sub (fun _ h => List.mem_append_left _ (List.mem_append_left _ (List.mem_append_right _ h))) (by decide +kernel))
set_option maxRecDepth 20000 in
theorem gL_law_X2_count : GoodIn wsL_law (wsV RL 55 RX2 yX2_count wsX2_count) := goodIn_app (goodIn_of _ (by decide +kernel)) ggL_law_X2_count
set_option maxRecDepth 20000 in
theorem ggL_law_L_below : GoodIn wsL_law wsL_below := goodIn_r _ [65, 66] (by decide +kernel) (by decide +kernel)
set_option maxRecDepth 20000 in
theorem gL_law_L_below : GoodIn wsL_law (va_wsS RL 18 yL_below wsL_below) := goodIn_app (goodIn_of _ (by decide +kernel)) ggL_law_L_below
set_option maxRecDepth 20000 in
theorem ggL_law_X2_come : GoodIn wsL_law wsX2_come := goodIn_ca (goodIn_ca (goodIn_r _ [92, 73, 74, 80, 81, 25, 93, 94, 95, 96, 97, 98, 39, 99, 47, 51, 52, 53, 54, 55, 100, 101, 102, 103, 49, 50, 57, 58, 271, 272, 273, 274, 275, 276, 277, 278, 279, 280, 281, 282, 283, 284, 285, 286, 287, 288, 289, 290, 291, 292, 293, 294, 295] (by decide +kernel) (by decide +kernel)) (goodIn_sub (fun _ h => List.mem_append_left _ (List.mem_append_right _ h)) (by decide +kernel))) (goodIn_sub (fun _ h => List.mem_append_right _ h) (by decide +kernel))
set_option maxRecDepth 20000 in
theorem gL_law_X2_come : GoodIn wsL_law (wsV RL 32 RX2 yX2_come wsX2_come) := goodIn_app (goodIn_of _ (by decide +kernel)) ggL_law_X2_come
set_option maxRecDepth 20000 in
theorem ggL_law_X2_traveller : GoodIn wsL_law wsX2_traveller := goodIn_ca (goodIn_r _ [209, 71, 72, 25, 93, 184, 148, 149, 39, 150, 47, 210, 211, 212, 24, 213, 40, 143, 144, 214, 215, 30, 41, 42, 216, 217, 187, 188, 189, 53, 56, 54, 271, 272, 273, 274, 275, 276, 277, 278, 279, 280, 281, 282, 283, 284, 285, 286, 287, 288, 289, 290, 291, 292, 293, 294, 295] (by decide +kernel) (by decide +kernel)) (goodIn_sub (fun _ h => List.mem_append_left _ (List.mem_append_left _ (List.mem_append_right _ h))) (by decide +kernel))
set_option maxRecDepth 20000 in
theorem gL_law_X2_traveller : GoodIn wsL_law (wsV RL 58 RX2 yX2_traveller wsX2_traveller) := goodIn_app (goodIn_of _ (by decide +kernel)) ggL_law_X2_traveller
set_option maxRecDepth 20000 in
theorem ggL_law_L_leave : GoodIn wsL_law wsL_leave := goodIn_ca (goodIn_ca (goodIn_r _ [177, 178, 179, 180, 181, 15, 182, 71, 72, 80, 81, 25, 93, 183, 95, 184, 148, 149, 39, 150, 47, 185, 152, 153, 154, 53, 56, 100, 101, 102, 103, 49, 50, 57, 58, 51, 186, 187, 188, 189, 54, 271, 272, 273, 274, 275, 276, 277, 278, 279, 280, 281, 282, 283, 284, 285, 286, 287, 288, 289, 290, 291, 292, 293, 294, 295] (by decide +kernel) (by decide +kernel)) (goodIn_sub (fun _ h => List.mem_append_left _ (List.mem_append_left _ (List.mem_append_right _ h))) (by decide +kernel))) (goodIn_sub (fun _ h => List.mem_append_right _ h) (by decide +kernel))
set_option maxRecDepth 20000 in
theorem gL_law_L_leave : GoodIn wsL_law (va_wsS RL 39 yL_leave wsL_leave) := goodIn_app (goodIn_of _ (by decide +kernel)) ggL_law_L_leave
set_option maxRecDepth 20000 in
theorem ggL_law_X2_ring : GoodIn wsL_law wsX2_ring := goodIn_ca (goodIn_r _ [87, 73, 74, 25, 88, 271, 272, 273, 274, 275, 276, 277, 278, 279, 280, 281, 282, 283] (by decide +kernel) (by decide +kernel)) (goodIn_sub (fun _ h => List.mem_append_left _ (List.mem_append_right _ h)) (by decide +kernel))
set_option maxRecDepth 20000 in
theorem gL_law_X2_ring : GoodIn wsL_law (wsV RL 29 RX2 yX2_ring wsX2_ring) := goodIn_app (goodIn_of _ (by decide +kernel)) ggL_law_X2_ring
set_option maxRecDepth 20000 in
theorem ggL_law_L_poise : GoodIn wsL_law wsL_poise := goodIn_ca (goodIn_ca (goodIn_r _ [220, 178, 76, 77, 78, 15, 79, 73, 74, 80, 81, 25, 82, 83, 271, 272, 273, 274, 275, 276, 277, 278, 279, 280, 281, 282, 283] (by decide +kernel) (by decide +kernel)) (goodIn_sub (fun _ h => List.mem_append_left _ (List.mem_append_right _ h)) (by decide +kernel))) (goodIn_sub (fun _ h => List.mem_append_right _ h) (by decide +kernel))
set_option maxRecDepth 20000 in
theorem gL_law_L_poise : GoodIn wsL_law (va_wsS RL 61 yL_poise wsL_poise) := goodIn_app (goodIn_of _ (by decide +kernel)) ggL_law_L_poise
set_option maxRecDepth 20000 in
theorem ggL_law_X2_speed : GoodIn wsL_law wsX2_speed := goodIn_r _ [224, 25, 225, 156, 157, 24, 158, 32, 33, 146, 7, 4, 8, 271, 272, 273, 274, 275, 276, 277, 278, 279, 280, 281, 282, 283] (by decide +kernel) (by decide +kernel)
set_option maxRecDepth 20000 in
theorem gL_law_X2_speed : GoodIn wsL_law (wsV RL 65 RX2 yX2_speed wsX2_speed) := goodIn_app (goodIn_of _ (by decide +kernel)) ggL_law_X2_speed
set_option maxRecDepth 20000 in
theorem ggL_law_X2_digest : GoodIn wsL_law wsX2_digest := goodIn_r _ [229, 230, 231, 25, 75, 93, 94, 200, 201, 202, 24, 203, 30, 31, 32, 33, 34, 40, 204, 120, 121, 205, 35, 41, 122, 123, 124, 125, 43, 126, 127, 128, 39, 129, 57, 58, 130, 3, 4, 5, 131, 132, 133, 134, 135, 136, 137, 138, 210, 211, 212, 213, 143, 144, 214, 215, 42, 216, 217, 187, 188, 189, 53, 56, 54, 271, 272, 273, 274, 275, 276, 277, 278, 279, 280, 281, 282, 283, 284, 285, 286, 287, 288, 289, 290, 291, 292, 293, 294, 295] (by decide +kernel) (by decide +kernel)
set_option maxRecDepth 20000 in
theorem gL_law_X2_digest : GoodIn wsL_law (wsV RL 69 RX2 yX2_digest wsX2_digest) := goodIn_app (goodIn_of _ (by decide +kernel)) ggL_law_X2_digest
set_option maxRecDepth 20000 in
theorem ggL_law_X2_foresee : GoodIn wsL_law wsX2_foresee := goodIn_ca (goodIn_ca (goodIn_r _ [235, 73, 74, 71, 72, 26, 25, 93, 108, 236, 82, 194, 109, 110, 15, 111, 237, 238, 239, 24, 240, 30, 31, 32, 33, 34, 35, 36, 241, 242, 243, 244, 40, 41, 42, 43, 245, 246, 247, 39, 248, 47, 48, 49, 50, 51, 249, 52, 53, 54, 55, 56, 57, 58, 112, 113, 114, 115, 116, 117, 118, 119, 120, 121, 122, 123, 124, 125, 126, 127, 128, 129, 130, 3, 4, 5, 131, 132, 133, 134, 135, 136, 137, 138, 139, 140, 141, 142, 143, 144, 145, 146, 7, 8, 147, 148, 149, 150, 151, 152, 153, 154, 100, 101, 102, 103, 155, 156, 157, 158, 159, 160, 161, 162, 163, 164, 165, 166, 167, 168, 169, 170, 171, 172, 173, 174, 271, 272, 273, 274, 275, 276, 277, 278, 279, 280, 281, 282, 283, 284, 285, 286, 287, 288, 289, 290, 291, 292, 293, 294, 295] (by decide +kernel) (by decide +kernel)) (goodIn_sub (fun _ h => List.mem_append_left _ (List.mem_append_right _ h)) (by decide +kernel))) (goodIn_sub (fun _ h => List.mem_append_left _ (List.mem_append_left _ (List.mem_append_right _ h))) (by decide +kernel))
set_option maxRecDepth 20000 in
theorem gL_law_X2_foresee : GoodIn wsL_law (wsV RL 73 RX2 yX2_foresee wsX2_foresee) := goodIn_app (goodIn_of _ (by decide +kernel)) ggL_law_X2_foresee
set_option maxRecDepth 20000 in
theorem ggL_law_X2_when : GoodIn wsL_law wsX2_when := goodIn_ca (goodIn_r _ [253, 71, 72, 25, 93, 26, 183, 184, 148, 149, 39, 150, 47, 237, 238, 239, 24, 240, 30, 31, 32, 33, 34, 35, 36, 241, 242, 243, 244, 40, 41, 42, 43, 245, 246, 247, 248, 48, 49, 50, 51, 249, 52, 53, 54, 55, 56, 57, 58, 254, 117, 118, 119, 120, 121, 122, 123, 124, 125, 126, 127, 128, 129, 130, 3, 4, 5, 131, 132, 133, 134, 135, 136, 137, 138, 139, 140, 141, 142, 143, 144, 145, 146, 7, 8, 147, 151, 152, 153, 154, 100, 101, 102, 103, 155, 156, 157, 158, 159, 160, 161, 162, 163, 164, 165, 166, 167, 168, 169, 170, 171, 172, 173, 174, 271, 272, 273, 274, 275, 276, 277, 278, 279, 280, 281, 282, 283, 284, 285, 286, 287, 288, 289, 290, 291, 292, 293, 294, 295] (by decide +kernel) (by decide +kernel)) (goodIn_sub (fun _ h => List.mem_append_left _ (List.mem_append_left _ (List.mem_append_right _ h))) (by decide +kernel))
set_option maxRecDepth 20000 in
theorem gL_law_X2_when : GoodIn wsL_law (wsV RL 76 RX2 yX2_when wsX2_when) := goodIn_app (goodIn_of _ (by decide +kernel)) ggL_law_X2_when
set_option maxRecDepth 20000 in
theorem ggL_law_X2_bestCode : GoodIn wsL_law wsX2_bestCode := goodIn_ca (goodIn_r _ [258, 73, 74, 25, 83, 109, 110, 15, 111, 259, 260, 261, 262, 26, 88, 236, 237, 238, 239, 24, 240, 30, 31, 32, 33, 34, 35, 36, 241, 242, 243, 244, 40, 41, 42, 43, 245, 246, 247, 39, 248, 47, 48, 49, 50, 51, 249, 52, 53, 54, 55, 56, 57, 58, 112, 113, 114, 115, 116, 117, 118, 119, 120, 121, 122, 123, 124, 125, 126, 127, 128, 129, 130, 3, 4, 5, 131, 132, 133, 134, 135, 136, 137, 138, 139, 140, 141, 142, 143, 144, 145, 146, 7, 8, 147, 148, 149, 150, 151, 152, 153, 154, 100, 101, 102, 103, 155, 156, 157, 158, 159, 160, 161, 162, 163, 164, 165, 166, 167, 168, 169, 170, 171, 172, 173, 174, 271, 272, 273, 274, 275, 276, 277, 278, 279, 280, 281, 282, 283, 284, 285, 286, 287, 288, 289, 290, 291, 292, 293, 294, 295] (by decide +kernel) (by decide +kernel)) (goodIn_sub (fun _ h => List.mem_append_left _ (List.mem_append_right _ h)) (by decide +kernel))
set_option maxRecDepth 20000 in
theorem gL_law_X2_bestCode : GoodIn wsL_law (wsV RL 79 RX2 yX2_bestCode wsX2_bestCode) := goodIn_app (goodIn_of _ (by decide +kernel)) ggL_law_X2_bestCode
set_option maxRecDepth 20000 in
theorem ggL_law_X2_bestPoise : GoodIn wsL_law wsX2_bestPoise := goodIn_ca (goodIn_r _ [266, 73, 74, 25, 88, 109, 110, 15, 111, 259, 260, 261, 262, 26, 83, 236, 237, 238, 239, 24, 240, 30, 31, 32, 33, 34, 35, 36, 241, 242, 243, 244, 40, 41, 42, 43, 245, 246, 247, 39, 248, 47, 48, 49, 50, 51, 249, 52, 53, 54, 55, 56, 57, 58, 112, 113, 114, 115, 116, 117, 118, 119, 120, 121, 122, 123, 124, 125, 126, 127, 128, 129, 130, 3, 4, 5, 131, 132, 133, 134, 135, 136, 137, 138, 139, 140, 141, 142, 143, 144, 145, 146, 7, 8, 147, 148, 149, 150, 151, 152, 153, 154, 100, 101, 102, 103, 155, 156, 157, 158, 159, 160, 161, 162, 163, 164, 165, 166, 167, 168, 169, 170, 171, 172, 173, 174, 271, 272, 273, 274, 275, 276, 277, 278, 279, 280, 281, 282, 283, 284, 285, 286, 287, 288, 289, 290, 291, 292, 293, 294, 295] (by decide +kernel) (by decide +kernel)) (goodIn_sub (fun _ h => List.mem_append_left _ (List.mem_append_right _ h)) (by decide +kernel))
set_option maxRecDepth 20000 in
theorem gL_law_X2_bestPoise : GoodIn wsL_law (wsV RL 82 RX2 yX2_bestPoise wsX2_bestPoise) := goodIn_app (goodIn_of _ (by decide +kernel)) ggL_law_X2_bestPoise
set_option maxRecDepth 20000 in
theorem ggL_law_X2_pass : GoodIn wsL_law wsX2_pass := goodIn_ca (goodIn_r _ [107, 73, 74, 25, 93, 108, 109, 110, 15, 111, 112, 113, 114, 24, 115, 116, 117, 118, 119, 35, 40, 120, 121, 30, 122, 123, 124, 125, 41, 34, 43, 126, 127, 128, 39, 129, 57, 58, 130, 3, 4, 5, 131, 132, 133, 134, 135, 136, 137, 138, 139, 140, 141, 142, 143, 31, 144, 42, 145, 146, 7, 8, 147, 148, 149, 150, 47, 151, 152, 153, 154, 53, 56, 100, 101, 102, 103, 49, 50, 51, 155, 156, 157, 158, 32, 33, 159, 160, 161, 162, 163, 164, 165, 166, 55, 48, 167, 168, 169, 170, 36, 171, 172, 173, 174, 271, 272, 273, 274, 275, 276, 277, 278, 279, 280, 281, 282, 283, 284, 285, 286, 287, 288, 289, 290, 291, 292, 293, 294, 295] (by decide +kernel) (by decide +kernel)) (goodIn_sub (fun _ h => List.mem_append_left _ (List.mem_append_right _ h)) (by decide +kernel))
set_option maxRecDepth 20000 in
theorem gL_law_X2_pass : GoodIn wsL_law (wsV RL 36 RX2 yX2_pass wsX2_pass) := goodIn_app (goodIn_of _ (by decide +kernel)) ggL_law_X2_pass
set_option maxRecDepth 20000 in
theorem ggL_law_X2_mean : GoodIn wsL_law wsX2_mean := goodIn_r _ [270, 25, 93, 94, 236, 271, 272, 273, 274, 275, 276, 277, 278, 279, 280, 281, 282, 283, 284, 285, 286, 287, 288, 289, 290, 291, 292, 293, 294, 295] (by decide +kernel) (by decide +kernel)
set_option maxRecDepth 20000 in
theorem gL_law_X2_mean : GoodIn wsL_law (wsV RL 93 RX2 yX2_mean wsX2_mean) := goodIn_app (goodIn_of _ (by decide +kernel)) ggL_law_X2_mean
theorem dL_law_0 : decode cL_law 0 = .ok (.aload_n 0, 1) := by decide +kernel
theorem dL_law_1 : decode cL_law 1 = .ok (.invokestatic 51, 3) := by decide +kernel
theorem dL_law_4 : decode cL_law 4 = .ok (.astore_n 1, 1) := by decide +kernel
theorem dL_law_5 : decode cL_law 5 = .ok (.bipush 8, 2) := by decide +kernel
theorem dL_law_7 : decode cL_law 7 = .ok (.newarray .int, 2) := by decide +kernel
theorem dL_law_9 : decode cL_law 9 = .ok (.astore_n 2, 1) := by decide +kernel
theorem dL_law_10 : decode cL_law 10 = .ok (.iconst 0, 1) := by decide +kernel
theorem dL_law_11 : decode cL_law 11 = .ok (.istore_n 3, 1) := by decide +kernel
theorem dL_law_12 : decode cL_law 12 = .ok (.iload_n 3, 1) := by decide +kernel
theorem dL_law_13 : decode cL_law 13 = .ok (.bipush 8, 2) := by decide +kernel
theorem dL_law_15 : decode cL_law 15 = .ok (.if_icmp .ge 31, 3) := by decide +kernel
theorem dL_law_18 : decode cL_law 18 = .ok (.aload_n 2, 1) := by decide +kernel
theorem dL_law_19 : decode cL_law 19 = .ok (.iload_n 3, 1) := by decide +kernel
theorem dL_law_20 : decode cL_law 20 = .ok (.aload_n 1, 1) := by decide +kernel
theorem dL_law_21 : decode cL_law 21 = .ok (.iload_n 3, 1) := by decide +kernel
theorem dL_law_22 : decode cL_law 22 = .ok (.iconst 0, 1) := by decide +kernel
theorem dL_law_23 : decode cL_law 23 = .ok (.invokevirtual 22, 3) := by decide +kernel
theorem dL_law_26 : decode cL_law 26 = .ok (.iastore, 1) := by decide +kernel
theorem dL_law_27 : decode cL_law 27 = .ok (.aload_n 1, 1) := by decide +kernel
theorem dL_law_28 : decode cL_law 28 = .ok (.iload_n 3, 1) := by decide +kernel
theorem dL_law_29 : decode cL_law 29 = .ok (.aload_n 2, 1) := by decide +kernel
theorem dL_law_30 : decode cL_law 30 = .ok (.iload_n 3, 1) := by decide +kernel
theorem dL_law_31 : decode cL_law 31 = .ok (.iaload, 1) := by decide +kernel
theorem dL_law_32 : decode cL_law 32 = .ok (.invokevirtual 22, 3) := by decide +kernel
theorem dL_law_35 : decode cL_law 35 = .ok (.ifCond .eq 5, 3) := by decide +kernel
theorem dL_law_38 : decode cL_law 38 = .ok (.iconst 0, 1) := by decide +kernel
theorem dL_law_39 : decode cL_law 39 = .ok (.ireturn, 1) := by decide +kernel
theorem dL_law_40 : decode cL_law 40 = .ok (.iinc 3 1, 3) := by decide +kernel
theorem dL_law_43 : decode cL_law 43 = .ok (.goto (-31), 3) := by decide +kernel
theorem dL_law_46 : decode cL_law 46 = .ok (.iconst 0, 1) := by decide +kernel
theorem dL_law_47 : decode cL_law 47 = .ok (.istore_n 3, 1) := by decide +kernel
theorem dL_law_48 : decode cL_law 48 = .ok (.iload_n 3, 1) := by decide +kernel
theorem dL_law_49 : decode cL_law 49 = .ok (.bipush 60, 2) := by decide +kernel
theorem dL_law_51 : decode cL_law 51 = .ok (.if_icmp .ge 1300, 3) := by decide +kernel
theorem dL_law_54 : decode cL_law 54 = .ok (.aload_n 0, 1) := by decide +kernel
theorem dL_law_55 : decode cL_law 55 = .ok (.iload_n 3, 1) := by decide +kernel
theorem dL_law_56 : decode cL_law 56 = .ok (.bipush 16, 2) := by decide +kernel
theorem dL_law_58 : decode cL_law 58 = .ok (.irem, 1) := by decide +kernel
theorem dL_law_59 : decode cL_law 59 = .ok (.invokestatic 12, 3) := by decide +kernel
theorem dL_law_62 : decode cL_law 62 = .ok (.iload_n 3, 1) := by decide +kernel
theorem dL_law_63 : decode cL_law 63 = .ok (.bipush 16, 2) := by decide +kernel
theorem dL_law_65 : decode cL_law 65 = .ok (.idiv, 1) := by decide +kernel
theorem dL_law_66 : decode cL_law 66 = .ok (.iconst 5, 1) := by decide +kernel
theorem dL_law_67 : decode cL_law 67 = .ok (.imul, 1) := by decide +kernel
theorem dL_law_68 : decode cL_law 68 = .ok (.ishr, 1) := by decide +kernel
theorem dL_law_69 : decode cL_law 69 = .ok (.istore 4, 2) := by decide +kernel
theorem dL_law_71 : decode cL_law 71 = .ok (.aload_n 1, 1) := by decide +kernel
theorem dL_law_72 : decode cL_law 72 = .ok (.iconst 5, 1) := by decide +kernel
theorem dL_law_73 : decode cL_law 73 = .ok (.invokevirtual 55, 3) := by decide +kernel
theorem dL_law_76 : decode cL_law 76 = .ok (.istore 5, 2) := by decide +kernel
theorem dL_law_78 : decode cL_law 78 = .ok (.iload 4, 2) := by decide +kernel
theorem dL_law_80 : decode cL_law 80 = .ok (.bipush 8, 2) := by decide +kernel
theorem dL_law_82 : decode cL_law 82 = .ok (.invokestatic 18, 3) := by decide +kernel
theorem dL_law_85 : decode cL_law 85 = .ok (.tableswitch 237 0 4 #[35, 35, 80, 163, 184], 35) := by decide +kernel
theorem dL_law_120 : decode cL_law 120 = .ok (.iload 5, 2) := by decide +kernel
theorem dL_law_122 : decode cL_law 122 = .ok (.bipush 40, 2) := by decide +kernel
theorem dL_law_124 : decode cL_law 124 = .ok (.if_icmp .ge 198, 3) := by decide +kernel
theorem dL_law_127 : decode cL_law 127 = .ok (.aload_n 1, 1) := by decide +kernel
theorem dL_law_128 : decode cL_law 128 = .ok (.iload 4, 2) := by decide +kernel
theorem dL_law_130 : decode cL_law 130 = .ok (.iconst 4, 1) := by decide +kernel
theorem dL_law_131 : decode cL_law 131 = .ok (.ishr, 1) := by decide +kernel
theorem dL_law_132 : decode cL_law 132 = .ok (.iconst 2, 1) := by decide +kernel
theorem dL_law_133 : decode cL_law 133 = .ok (.invokestatic 18, 3) := by decide +kernel
theorem dL_law_136 : decode cL_law 136 = .ok (.ifCond .ne 7, 3) := by decide +kernel
theorem dL_law_139 : decode cL_law 139 = .ok (.iconst 1, 1) := by decide +kernel
theorem dL_law_140 : decode cL_law 140 = .ok (.goto 4, 3) := by decide +kernel
theorem dL_law_143 : decode cL_law 143 = .ok (.iconst 0, 1) := by decide +kernel
theorem dL_law_144 : decode cL_law 144 = .ok (.iconst 1, 1) := by decide +kernel
theorem dL_law_145 : decode cL_law 145 = .ok (.iload 4, 2) := by decide +kernel
theorem dL_law_147 : decode cL_law 147 = .ok (.iconst 5, 1) := by decide +kernel
theorem dL_law_148 : decode cL_law 148 = .ok (.ishr, 1) := by decide +kernel
theorem dL_law_149 : decode cL_law 149 = .ok (.bipush 6, 2) := by decide +kernel
theorem dL_law_151 : decode cL_law 151 = .ok (.invokestatic 18, 3) := by decide +kernel
theorem dL_law_154 : decode cL_law 154 = .ok (.iadd, 1) := by decide +kernel
theorem dL_law_155 : decode cL_law 155 = .ok (.invokevirtual 32, 3) := by decide +kernel
theorem dL_law_158 : decode cL_law 158 = .ok (.iload 5, 2) := by decide +kernel
theorem dL_law_160 : decode cL_law 160 = .ok (.if_icmp .eq 162, 3) := by decide +kernel
theorem dL_law_163 : decode cL_law 163 = .ok (.iconst 0, 1) := by decide +kernel
theorem dL_law_164 : decode cL_law 164 = .ok (.ireturn, 1) := by decide +kernel
theorem dL_law_165 : decode cL_law 165 = .ok (.iload 5, 2) := by decide +kernel
theorem dL_law_167 : decode cL_law 167 = .ok (.ifCond .ne 6, 3) := by decide +kernel
theorem dL_law_170 : decode cL_law 170 = .ok (.goto 152, 3) := by decide +kernel
theorem dL_law_173 : decode cL_law 173 = .ok (.iload 4, 2) := by decide +kernel
theorem dL_law_175 : decode cL_law 175 = .ok (.iconst 4, 1) := by decide +kernel
theorem dL_law_176 : decode cL_law 176 = .ok (.ishr, 1) := by decide +kernel
theorem dL_law_177 : decode cL_law 177 = .ok (.iload 5, 2) := by decide +kernel
theorem dL_law_179 : decode cL_law 179 = .ok (.invokestatic 18, 3) := by decide +kernel
theorem dL_law_182 : decode cL_law 182 = .ok (.istore 6, 2) := by decide +kernel
theorem dL_law_184 : decode cL_law 184 = .ok (.aload_n 1, 1) := by decide +kernel
theorem dL_law_185 : decode cL_law 185 = .ok (.iload 6, 2) := by decide +kernel
theorem dL_law_187 : decode cL_law 187 = .ok (.iconst 2, 1) := by decide +kernel
theorem dL_law_188 : decode cL_law 188 = .ok (.invokevirtual 58, 3) := by decide +kernel
theorem dL_law_191 : decode cL_law 191 = .ok (.ifCond .ne 7, 3) := by decide +kernel
theorem dL_law_194 : decode cL_law 194 = .ok (.iconst 1, 1) := by decide +kernel
theorem dL_law_195 : decode cL_law 195 = .ok (.goto 4, 3) := by decide +kernel
theorem dL_law_198 : decode cL_law 198 = .ok (.iconst 0, 1) := by decide +kernel
theorem dL_law_199 : decode cL_law 199 = .ok (.istore 7, 2) := by decide +kernel
theorem dL_law_201 : decode cL_law 201 = .ok (.aload_n 1, 1) := by decide +kernel
theorem dL_law_202 : decode cL_law 202 = .ok (.iload 6, 2) := by decide +kernel
theorem dL_law_204 : decode cL_law 204 = .ok (.iconst 4, 1) := by decide +kernel
theorem dL_law_205 : decode cL_law 205 = .ok (.invokevirtual 58, 3) := by decide +kernel
theorem dL_law_208 : decode cL_law 208 = .ok (.istore 8, 2) := by decide +kernel
theorem dL_law_210 : decode cL_law 210 = .ok (.aload_n 1, 1) := by decide +kernel
theorem dL_law_211 : decode cL_law 211 = .ok (.iload 6, 2) := by decide +kernel
theorem dL_law_213 : decode cL_law 213 = .ok (.invokestatic 39, 3) := by decide +kernel
theorem dL_law_216 : decode cL_law 216 = .ok (.iload 7, 2) := by decide +kernel
theorem dL_law_218 : decode cL_law 218 = .ok (.ifCond .eq 8, 3) := by decide +kernel
theorem dL_law_221 : decode cL_law 221 = .ok (.iload 8, 2) := by decide +kernel
theorem dL_law_223 : decode cL_law 223 = .ok (.goto 4, 3) := by decide +kernel
theorem dL_law_226 : decode cL_law 226 = .ok (.iconst (-1), 1) := by decide +kernel
theorem dL_law_227 : decode cL_law 227 = .ok (.if_icmp .ne 19, 3) := by decide +kernel
theorem dL_law_230 : decode cL_law 230 = .ok (.iload 7, 2) := by decide +kernel
theorem dL_law_232 : decode cL_law 232 = .ok (.ifCond .eq 90, 3) := by decide +kernel
theorem dL_law_235 : decode cL_law 235 = .ok (.aload_n 1, 1) := by decide +kernel
theorem dL_law_236 : decode cL_law 236 = .ok (.iload 6, 2) := by decide +kernel
theorem dL_law_238 : decode cL_law 238 = .ok (.iconst 2, 1) := by decide +kernel
theorem dL_law_239 : decode cL_law 239 = .ok (.invokevirtual 58, 3) := by decide +kernel
theorem dL_law_242 : decode cL_law 242 = .ok (.iconst 3, 1) := by decide +kernel
theorem dL_law_243 : decode cL_law 243 = .ok (.if_icmp .eq 79, 3) := by decide +kernel
theorem dL_law_246 : decode cL_law 246 = .ok (.iconst 0, 1) := by decide +kernel
theorem dL_law_247 : decode cL_law 247 = .ok (.ireturn, 1) := by decide +kernel
theorem dL_law_248 : decode cL_law 248 = .ok (.aload_n 1, 1) := by decide +kernel
theorem dL_law_249 : decode cL_law 249 = .ok (.iload 4, 2) := by decide +kernel
theorem dL_law_251 : decode cL_law 251 = .ok (.iconst 4, 1) := by decide +kernel
theorem dL_law_252 : decode cL_law 252 = .ok (.ishr, 1) := by decide +kernel
theorem dL_law_253 : decode cL_law 253 = .ok (.bipush 9, 2) := by decide +kernel
theorem dL_law_255 : decode cL_law 255 = .ok (.invokestatic 18, 3) := by decide +kernel
theorem dL_law_258 : decode cL_law 258 = .ok (.iconst 5, 1) := by decide +kernel
theorem dL_law_259 : decode cL_law 259 = .ok (.irem, 1) := by decide +kernel
theorem dL_law_260 : decode cL_law 260 = .ok (.invokevirtual 29, 3) := by decide +kernel
theorem dL_law_263 : decode cL_law 263 = .ok (.iconst 4, 1) := by decide +kernel
theorem dL_law_264 : decode cL_law 264 = .ok (.if_icmp .le 58, 3) := by decide +kernel
theorem dL_law_267 : decode cL_law 267 = .ok (.iconst 0, 1) := by decide +kernel
theorem dL_law_268 : decode cL_law 268 = .ok (.ireturn, 1) := by decide +kernel
theorem dL_law_269 : decode cL_law 269 = .ok (.aload_n 1, 1) := by decide +kernel
theorem dL_law_270 : decode cL_law 270 = .ok (.iconst 1, 1) := by decide +kernel
theorem dL_law_271 : decode cL_law 271 = .ok (.invokevirtual 55, 3) := by decide +kernel
theorem dL_law_274 : decode cL_law 274 = .ok (.ifCond .eq 13, 3) := by decide +kernel
theorem dL_law_277 : decode cL_law 277 = .ok (.aload_n 1, 1) := by decide +kernel
theorem dL_law_278 : decode cL_law 278 = .ok (.iconst 1, 1) := by decide +kernel
theorem dL_law_279 : decode cL_law 279 = .ok (.invokevirtual 55, 3) := by decide +kernel
theorem dL_law_282 : decode cL_law 282 = .ok (.bipush 60, 2) := by decide +kernel
theorem dL_law_284 : decode cL_law 284 = .ok (.if_icmp .ne 7, 3) := by decide +kernel
theorem dL_law_287 : decode cL_law 287 = .ok (.iconst 1, 1) := by decide +kernel
theorem dL_law_288 : decode cL_law 288 = .ok (.goto 4, 3) := by decide +kernel
theorem dL_law_291 : decode cL_law 291 = .ok (.iconst 0, 1) := by decide +kernel
theorem dL_law_292 : decode cL_law 292 = .ok (.istore 6, 2) := by decide +kernel
theorem dL_law_294 : decode cL_law 294 = .ok (.aload_n 1, 1) := by decide +kernel
theorem dL_law_295 : decode cL_law 295 = .ok (.iload 4, 2) := by decide +kernel
theorem dL_law_297 : decode cL_law 297 = .ok (.iconst 4, 1) := by decide +kernel
theorem dL_law_298 : decode cL_law 298 = .ok (.ishr, 1) := by decide +kernel
theorem dL_law_299 : decode cL_law 299 = .ok (.bipush 31, 2) := by decide +kernel
theorem dL_law_301 : decode cL_law 301 = .ok (.invokestatic 18, 3) := by decide +kernel
theorem dL_law_304 : decode cL_law 304 = .ok (.invokestatic 61, 3) := by decide +kernel
theorem dL_law_307 : decode cL_law 307 = .ok (.ifCond .lt 7, 3) := by decide +kernel
theorem dL_law_310 : decode cL_law 310 = .ok (.iconst 1, 1) := by decide +kernel
theorem dL_law_311 : decode cL_law 311 = .ok (.goto 4, 3) := by decide +kernel
theorem dL_law_314 : decode cL_law 314 = .ok (.iconst 0, 1) := by decide +kernel
theorem dL_law_315 : decode cL_law 315 = .ok (.iload 6, 2) := by decide +kernel
theorem dL_law_317 : decode cL_law 317 = .ok (.if_icmp .eq 5, 3) := by decide +kernel
theorem dL_law_320 : decode cL_law 320 = .ok (.iconst 0, 1) := by decide +kernel
theorem dL_law_321 : decode cL_law 321 = .ok (.ireturn, 1) := by decide +kernel
theorem dL_law_322 : decode cL_law 322 = .ok (.aload_n 1, 1) := by decide +kernel
theorem dL_law_323 : decode cL_law 323 = .ok (.iconst 5, 1) := by decide +kernel
theorem dL_law_324 : decode cL_law 324 = .ok (.invokevirtual 55, 3) := by decide +kernel
theorem dL_law_327 : decode cL_law 327 = .ok (.istore 5, 2) := by decide +kernel
theorem dL_law_329 : decode cL_law 329 = .ok (.iload 5, 2) := by decide +kernel
theorem dL_law_331 : decode cL_law 331 = .ok (.bipush 7, 2) := by decide +kernel
theorem dL_law_333 : decode cL_law 333 = .ok (.multianewarray 63 2, 4) := by decide +kernel
theorem dL_law_337 : decode cL_law 337 = .ok (.astore 6, 2) := by decide +kernel
theorem dL_law_339 : decode cL_law 339 = .ok (.iconst 0, 1) := by decide +kernel
theorem dL_law_340 : decode cL_law 340 = .ok (.istore 7, 2) := by decide +kernel
theorem dL_law_342 : decode cL_law 342 = .ok (.iload 7, 2) := by decide +kernel
theorem dL_law_344 : decode cL_law 344 = .ok (.iload 5, 2) := by decide +kernel
theorem dL_law_346 : decode cL_law 346 = .ok (.if_icmp .ge 41, 3) := by decide +kernel
theorem dL_law_349 : decode cL_law 349 = .ok (.iconst 0, 1) := by decide +kernel
theorem dL_law_350 : decode cL_law 350 = .ok (.istore 8, 2) := by decide +kernel
theorem dL_law_352 : decode cL_law 352 = .ok (.iload 8, 2) := by decide +kernel
theorem dL_law_354 : decode cL_law 354 = .ok (.bipush 7, 2) := by decide +kernel
theorem dL_law_356 : decode cL_law 356 = .ok (.if_icmp .ge 25, 3) := by decide +kernel
theorem dL_law_359 : decode cL_law 359 = .ok (.aload 6, 2) := by decide +kernel
theorem dL_law_361 : decode cL_law 361 = .ok (.iload 7, 2) := by decide +kernel
theorem dL_law_363 : decode cL_law 363 = .ok (.aaload, 1) := by decide +kernel
theorem dL_law_364 : decode cL_law 364 = .ok (.iload 8, 2) := by decide +kernel
theorem dL_law_366 : decode cL_law 366 = .ok (.aload_n 1, 1) := by decide +kernel
theorem dL_law_367 : decode cL_law 367 = .ok (.iload 7, 2) := by decide +kernel
theorem dL_law_369 : decode cL_law 369 = .ok (.iload 8, 2) := by decide +kernel
theorem dL_law_371 : decode cL_law 371 = .ok (.invokevirtual 58, 3) := by decide +kernel
theorem dL_law_374 : decode cL_law 374 = .ok (.iastore, 1) := by decide +kernel
theorem dL_law_375 : decode cL_law 375 = .ok (.iinc 8 1, 3) := by decide +kernel
theorem dL_law_378 : decode cL_law 378 = .ok (.goto (-26), 3) := by decide +kernel
theorem dL_law_381 : decode cL_law 381 = .ok (.iinc 7 1, 3) := by decide +kernel
theorem dL_law_384 : decode cL_law 384 = .ok (.goto (-42), 3) := by decide +kernel
theorem dL_law_387 : decode cL_law 387 = .ok (.aload_n 1, 1) := by decide +kernel
theorem dL_law_388 : decode cL_law 388 = .ok (.iconst 0, 1) := by decide +kernel
theorem dL_law_389 : decode cL_law 389 = .ok (.invokevirtual 55, 3) := by decide +kernel
theorem dL_law_392 : decode cL_law 392 = .ok (.istore 7, 2) := by decide +kernel
theorem dL_law_394 : decode cL_law 394 = .ok (.aload_n 1, 1) := by decide +kernel
theorem dL_law_395 : decode cL_law 395 = .ok (.iconst 1, 1) := by decide +kernel
theorem dL_law_396 : decode cL_law 396 = .ok (.invokevirtual 55, 3) := by decide +kernel
theorem dL_law_399 : decode cL_law 399 = .ok (.istore 8, 2) := by decide +kernel
theorem dL_law_401 : decode cL_law 401 = .ok (.aload_n 1, 1) := by decide +kernel
theorem dL_law_402 : decode cL_law 402 = .ok (.iconst 3, 1) := by decide +kernel
theorem dL_law_403 : decode cL_law 403 = .ok (.invokevirtual 55, 3) := by decide +kernel
theorem dL_law_406 : decode cL_law 406 = .ok (.istore 9, 2) := by decide +kernel
theorem dL_law_408 : decode cL_law 408 = .ok (.aload_n 1, 1) := by decide +kernel
theorem dL_law_409 : decode cL_law 409 = .ok (.bipush 9, 2) := by decide +kernel
theorem dL_law_411 : decode cL_law 411 = .ok (.invokevirtual 55, 3) := by decide +kernel
theorem dL_law_414 : decode cL_law 414 = .ok (.istore 10, 2) := by decide +kernel
theorem dL_law_416 : decode cL_law 416 = .ok (.aload_n 1, 1) := by decide +kernel
theorem dL_law_417 : decode cL_law 417 = .ok (.bipush 10, 2) := by decide +kernel
theorem dL_law_419 : decode cL_law 419 = .ok (.invokevirtual 55, 3) := by decide +kernel
theorem dL_law_422 : decode cL_law 422 = .ok (.istore 11, 2) := by decide +kernel
theorem dL_law_424 : decode cL_law 424 = .ok (.aload_n 1, 1) := by decide +kernel
theorem dL_law_425 : decode cL_law 425 = .ok (.bipush 11, 2) := by decide +kernel
theorem dL_law_427 : decode cL_law 427 = .ok (.invokevirtual 55, 3) := by decide +kernel
theorem dL_law_430 : decode cL_law 430 = .ok (.istore 12, 2) := by decide +kernel
theorem dL_law_432 : decode cL_law 432 = .ok (.aload_n 1, 1) := by decide +kernel
theorem dL_law_433 : decode cL_law 433 = .ok (.iconst 1, 1) := by decide +kernel
theorem dL_law_434 : decode cL_law 434 = .ok (.invokevirtual 65, 3) := by decide +kernel
theorem dL_law_437 : decode cL_law 437 = .ok (.istore 13, 2) := by decide +kernel
theorem dL_law_439 : decode cL_law 439 = .ok (.aload_n 1, 1) := by decide +kernel
theorem dL_law_440 : decode cL_law 440 = .ok (.iconst 0, 1) := by decide +kernel
theorem dL_law_441 : decode cL_law 441 = .ok (.invokevirtual 65, 3) := by decide +kernel
theorem dL_law_444 : decode cL_law 444 = .ok (.istore 14, 2) := by decide +kernel
theorem dL_law_446 : decode cL_law 446 = .ok (.aload_n 1, 1) := by decide +kernel
theorem dL_law_447 : decode cL_law 447 = .ok (.invokevirtual 69, 3) := by decide +kernel
theorem dL_law_450 : decode cL_law 450 = .ok (.lstore 15, 2) := by decide +kernel
theorem dL_law_452 : decode cL_law 452 = .ok (.iconst 4, 1) := by decide +kernel
theorem dL_law_453 : decode cL_law 453 = .ok (.newarray .int, 2) := by decide +kernel
theorem dL_law_455 : decode cL_law 455 = .ok (.astore 17, 2) := by decide +kernel
theorem dL_law_457 : decode cL_law 457 = .ok (.iconst 0, 1) := by decide +kernel
theorem dL_law_458 : decode cL_law 458 = .ok (.istore 18, 2) := by decide +kernel
theorem dL_law_460 : decode cL_law 460 = .ok (.iload 18, 2) := by decide +kernel
theorem dL_law_462 : decode cL_law 462 = .ok (.iconst 4, 1) := by decide +kernel
theorem dL_law_463 : decode cL_law 463 = .ok (.if_icmp .ge 21, 3) := by decide +kernel
theorem dL_law_466 : decode cL_law 466 = .ok (.aload 17, 2) := by decide +kernel
theorem dL_law_468 : decode cL_law 468 = .ok (.iload 18, 2) := by decide +kernel
theorem dL_law_470 : decode cL_law 470 = .ok (.aload_n 1, 1) := by decide +kernel
theorem dL_law_471 : decode cL_law 471 = .ok (.iconst 1, 1) := by decide +kernel
theorem dL_law_472 : decode cL_law 472 = .ok (.iload 18, 2) := by decide +kernel
theorem dL_law_474 : decode cL_law 474 = .ok (.invokevirtual 73, 3) := by decide +kernel
theorem dL_law_477 : decode cL_law 477 = .ok (.iastore, 1) := by decide +kernel
theorem dL_law_478 : decode cL_law 478 = .ok (.iinc 18 1, 3) := by decide +kernel
theorem dL_law_481 : decode cL_law 481 = .ok (.goto (-21), 3) := by decide +kernel
theorem dL_law_484 : decode cL_law 484 = .ok (.iload 5, 2) := by decide +kernel
theorem dL_law_486 : decode cL_law 486 = .ok (.ifCond .ne 7, 3) := by decide +kernel
theorem dL_law_489 : decode cL_law 489 = .ok (.iconst 0, 1) := by decide +kernel
theorem dL_law_490 : decode cL_law 490 = .ok (.goto 12, 3) := by decide +kernel
theorem dL_law_493 : decode cL_law 493 = .ok (.iload 4, 2) := by decide +kernel
theorem dL_law_495 : decode cL_law 495 = .ok (.iconst 3, 1) := by decide +kernel
theorem dL_law_496 : decode cL_law 496 = .ok (.ishr, 1) := by decide +kernel
theorem dL_law_497 : decode cL_law 497 = .ok (.iload 5, 2) := by decide +kernel
theorem dL_law_499 : decode cL_law 499 = .ok (.invokestatic 18, 3) := by decide +kernel
theorem dL_law_502 : decode cL_law 502 = .ok (.istore 18, 2) := by decide +kernel
theorem dL_law_504 : decode cL_law 504 = .ok (.iload 5, 2) := by decide +kernel
theorem dL_law_506 : decode cL_law 506 = .ok (.ifCond .ne 7, 3) := by decide +kernel
theorem dL_law_509 : decode cL_law 509 = .ok (.iconst (-1), 1) := by decide +kernel
theorem dL_law_510 : decode cL_law 510 = .ok (.goto 9, 3) := by decide +kernel
theorem dL_law_513 : decode cL_law 513 = .ok (.aload_n 1, 1) := by decide +kernel
theorem dL_law_514 : decode cL_law 514 = .ok (.iload 18, 2) := by decide +kernel
theorem dL_law_516 : decode cL_law 516 = .ok (.invokevirtual 76, 3) := by decide +kernel
theorem dL_law_519 : decode cL_law 519 = .ok (.istore 19, 2) := by decide +kernel
theorem dL_law_521 : decode cL_law 521 = .ok (.iload_n 3, 1) := by decide +kernel
theorem dL_law_522 : decode cL_law 522 = .ok (.bipush 6, 2) := by decide +kernel
theorem dL_law_524 : decode cL_law 524 = .ok (.irem, 1) := by decide +kernel
theorem dL_law_525 : decode cL_law 525 = .ok (.ifCond .le 7, 3) := by decide +kernel
theorem dL_law_528 : decode cL_law 528 = .ok (.iconst 0, 1) := by decide +kernel
theorem dL_law_529 : decode cL_law 529 = .ok (.goto 18, 3) := by decide +kernel
theorem dL_law_532 : decode cL_law 532 = .ok (.aload_n 1, 1) := by decide +kernel
theorem dL_law_533 : decode cL_law 533 = .ok (.iconst 1, 1) := by decide +kernel
theorem dL_law_534 : decode cL_law 534 = .ok (.iload 4, 2) := by decide +kernel
theorem dL_law_536 : decode cL_law 536 = .ok (.iconst 4, 1) := by decide +kernel
theorem dL_law_537 : decode cL_law 537 = .ok (.ishr, 1) := by decide +kernel
theorem dL_law_538 : decode cL_law 538 = .ok (.bipush 60, 2) := by decide +kernel
theorem dL_law_540 : decode cL_law 540 = .ok (.invokestatic 18, 3) := by decide +kernel
theorem dL_law_543 : decode cL_law 543 = .ok (.iadd, 1) := by decide +kernel
theorem dL_law_544 : decode cL_law 544 = .ok (.invokevirtual 79, 3) := by decide +kernel
theorem dL_law_547 : decode cL_law 547 = .ok (.istore 20, 2) := by decide +kernel
theorem dL_law_549 : decode cL_law 549 = .ok (.iload_n 3, 1) := by decide +kernel
theorem dL_law_550 : decode cL_law 550 = .ok (.bipush 12, 2) := by decide +kernel
theorem dL_law_552 : decode cL_law 552 = .ok (.irem, 1) := by decide +kernel
theorem dL_law_553 : decode cL_law 553 = .ok (.ifCond .le 7, 3) := by decide +kernel
theorem dL_law_556 : decode cL_law 556 = .ok (.iconst 0, 1) := by decide +kernel
theorem dL_law_557 : decode cL_law 557 = .ok (.goto 18, 3) := by decide +kernel
theorem dL_law_560 : decode cL_law 560 = .ok (.aload_n 1, 1) := by decide +kernel
theorem dL_law_561 : decode cL_law 561 = .ok (.iconst 1, 1) := by decide +kernel
theorem dL_law_562 : decode cL_law 562 = .ok (.iload 4, 2) := by decide +kernel
theorem dL_law_564 : decode cL_law 564 = .ok (.iconst 4, 1) := by decide +kernel
theorem dL_law_565 : decode cL_law 565 = .ok (.ishr, 1) := by decide +kernel
theorem dL_law_566 : decode cL_law 566 = .ok (.bipush 60, 2) := by decide +kernel
theorem dL_law_568 : decode cL_law 568 = .ok (.invokestatic 18, 3) := by decide +kernel
theorem dL_law_571 : decode cL_law 571 = .ok (.iadd, 1) := by decide +kernel
theorem dL_law_572 : decode cL_law 572 = .ok (.invokevirtual 82, 3) := by decide +kernel
theorem dL_law_575 : decode cL_law 575 = .ok (.istore 21, 2) := by decide +kernel
theorem dL_law_577 : decode cL_law 577 = .ok (.aload_n 1, 1) := by decide +kernel
theorem dL_law_578 : decode cL_law 578 = .ok (.invokevirtual 69, 3) := by decide +kernel
theorem dL_law_581 : decode cL_law 581 = .ok (.lload 15, 2) := by decide +kernel
theorem dL_law_583 : decode cL_law 583 = .ok (.lcmp, 1) := by decide +kernel
theorem dL_law_584 : decode cL_law 584 = .ok (.ifCond .ne 127, 3) := by decide +kernel
theorem dL_law_587 : decode cL_law 587 = .ok (.iload 20, 2) := by decide +kernel
theorem dL_law_589 : decode cL_law 589 = .ok (.ifCond .lt 122, 3) := by decide +kernel
theorem dL_law_592 : decode cL_law 592 = .ok (.iload 20, 2) := by decide +kernel
theorem dL_law_594 : decode cL_law 594 = .ok (.iconst 3, 1) := by decide +kernel
theorem dL_law_595 : decode cL_law 595 = .ok (.if_icmp .gt 116, 3) := by decide +kernel
theorem dL_law_598 : decode cL_law 598 = .ok (.iload 21, 2) := by decide +kernel
theorem dL_law_600 : decode cL_law 600 = .ok (.ifCond .lt 111, 3) := by decide +kernel
theorem dL_law_603 : decode cL_law 603 = .ok (.iload 21, 2) := by decide +kernel
theorem dL_law_605 : decode cL_law 605 = .ok (.bipush 30, 2) := by decide +kernel
theorem dL_law_607 : decode cL_law 607 = .ok (.if_icmp .gt 104, 3) := by decide +kernel
theorem dL_law_610 : decode cL_law 610 = .ok (.iload 13, 2) := by decide +kernel
theorem dL_law_612 : decode cL_law 612 = .ok (.iconst 1, 1) := by decide +kernel
theorem dL_law_613 : decode cL_law 613 = .ok (.if_icmp .lt 98, 3) := by decide +kernel
theorem dL_law_616 : decode cL_law 616 = .ok (.iload 13, 2) := by decide +kernel
theorem dL_law_618 : decode cL_law 618 = .ok (.bipush 6, 2) := by decide +kernel
theorem dL_law_620 : decode cL_law 620 = .ok (.if_icmp .gt 91, 3) := by decide +kernel
theorem dL_law_623 : decode cL_law 623 = .ok (.iload 14, 2) := by decide +kernel
theorem dL_law_625 : decode cL_law 625 = .ok (.iconst 1, 1) := by decide +kernel
theorem dL_law_626 : decode cL_law 626 = .ok (.if_icmp .lt 85, 3) := by decide +kernel
theorem dL_law_629 : decode cL_law 629 = .ok (.iload 14, 2) := by decide +kernel
theorem dL_law_631 : decode cL_law 631 = .ok (.bipush 6, 2) := by decide +kernel
theorem dL_law_633 : decode cL_law 633 = .ok (.if_icmp .gt 78, 3) := by decide +kernel
theorem dL_law_636 : decode cL_law 636 = .ok (.iload 11, 2) := by decide +kernel
theorem dL_law_638 : decode cL_law 638 = .ok (.ifCond .lt 8, 3) := by decide +kernel
theorem dL_law_641 : decode cL_law 641 = .ok (.iload 12, 2) := by decide +kernel
theorem dL_law_643 : decode cL_law 643 = .ok (.ifCond .ge 68, 3) := by decide +kernel
theorem dL_law_646 : decode cL_law 646 = .ok (.iload 12, 2) := by decide +kernel
theorem dL_law_648 : decode cL_law 648 = .ok (.ifCond .lt 13, 3) := by decide +kernel
theorem dL_law_651 : decode cL_law 651 = .ok (.aload 6, 2) := by decide +kernel
theorem dL_law_653 : decode cL_law 653 = .ok (.iload 12, 2) := by decide +kernel
theorem dL_law_655 : decode cL_law 655 = .ok (.aaload, 1) := by decide +kernel
theorem dL_law_656 : decode cL_law 656 = .ok (.iconst 2, 1) := by decide +kernel
theorem dL_law_657 : decode cL_law 657 = .ok (.iaload, 1) := by decide +kernel
theorem dL_law_658 : decode cL_law 658 = .ok (.ifCond .ne 53, 3) := by decide +kernel
theorem dL_law_661 : decode cL_law 661 = .ok (.iload 5, 2) := by decide +kernel
theorem dL_law_663 : decode cL_law 663 = .ok (.ifCond .le 50, 3) := by decide +kernel
theorem dL_law_666 : decode cL_law 666 = .ok (.iload 19, 2) := by decide +kernel
theorem dL_law_668 : decode cL_law 668 = .ok (.ifCond .ne 7, 3) := by decide +kernel
theorem dL_law_671 : decode cL_law 671 = .ok (.iconst 1, 1) := by decide +kernel
theorem dL_law_672 : decode cL_law 672 = .ok (.goto 4, 3) := by decide +kernel
theorem dL_law_675 : decode cL_law 675 = .ok (.iconst 0, 1) := by decide +kernel
theorem dL_law_676 : decode cL_law 676 = .ok (.aload 6, 2) := by decide +kernel
theorem dL_law_678 : decode cL_law 678 = .ok (.iload 18, 2) := by decide +kernel
theorem dL_law_680 : decode cL_law 680 = .ok (.aaload, 1) := by decide +kernel
theorem dL_law_681 : decode cL_law 681 = .ok (.iconst 2, 1) := by decide +kernel
theorem dL_law_682 : decode cL_law 682 = .ok (.iaload, 1) := by decide +kernel
theorem dL_law_683 : decode cL_law 683 = .ok (.iconst 2, 1) := by decide +kernel
theorem dL_law_684 : decode cL_law 684 = .ok (.if_icmp .ne 7, 3) := by decide +kernel
theorem dL_law_687 : decode cL_law 687 = .ok (.iconst 1, 1) := by decide +kernel
theorem dL_law_688 : decode cL_law 688 = .ok (.goto 4, 3) := by decide +kernel
theorem dL_law_691 : decode cL_law 691 = .ok (.iconst 0, 1) := by decide +kernel
theorem dL_law_692 : decode cL_law 692 = .ok (.if_icmp .ne 19, 3) := by decide +kernel
theorem dL_law_695 : decode cL_law 695 = .ok (.iload 19, 2) := by decide +kernel
theorem dL_law_697 : decode cL_law 697 = .ok (.ifCond .lt 16, 3) := by decide +kernel
theorem dL_law_700 : decode cL_law 700 = .ok (.aload 6, 2) := by decide +kernel
theorem dL_law_702 : decode cL_law 702 = .ok (.iload 18, 2) := by decide +kernel
theorem dL_law_704 : decode cL_law 704 = .ok (.aaload, 1) := by decide +kernel
theorem dL_law_705 : decode cL_law 705 = .ok (.iconst 2, 1) := by decide +kernel
theorem dL_law_706 : decode cL_law 706 = .ok (.iaload, 1) := by decide +kernel
theorem dL_law_707 : decode cL_law 707 = .ok (.iconst 3, 1) := by decide +kernel
theorem dL_law_708 : decode cL_law 708 = .ok (.if_icmp .ne 5, 3) := by decide +kernel
theorem dL_law_711 : decode cL_law 711 = .ok (.iconst 0, 1) := by decide +kernel
theorem dL_law_712 : decode cL_law 712 = .ok (.ireturn, 1) := by decide +kernel
theorem dL_law_713 : decode cL_law 713 = .ok (.aload_n 1, 1) := by decide +kernel
theorem dL_law_714 : decode cL_law 714 = .ok (.iconst 1, 1) := by decide +kernel
theorem dL_law_715 : decode cL_law 715 = .ok (.invokevirtual 36, 3) := by decide +kernel
theorem dL_law_718 : decode cL_law 718 = .ok (.istore 22, 2) := by decide +kernel
theorem dL_law_720 : decode cL_law 720 = .ok (.aload_n 1, 1) := by decide +kernel
theorem dL_law_721 : decode cL_law 721 = .ok (.iconst 1, 1) := by decide +kernel
theorem dL_law_722 : decode cL_law 722 = .ok (.invokevirtual 55, 3) := by decide +kernel
theorem dL_law_725 : decode cL_law 725 = .ok (.istore 23, 2) := by decide +kernel
theorem dL_law_727 : decode cL_law 727 = .ok (.iload 12, 2) := by decide +kernel
theorem dL_law_729 : decode cL_law 729 = .ok (.ifCond .lt 22, 3) := by decide +kernel
theorem dL_law_732 : decode cL_law 732 = .ok (.iload 8, 2) := by decide +kernel
theorem dL_law_734 : decode cL_law 734 = .ok (.bipush 60, 2) := by decide +kernel
theorem dL_law_736 : decode cL_law 736 = .ok (.aload 6, 2) := by decide +kernel
theorem dL_law_738 : decode cL_law 738 = .ok (.iload 12, 2) := by decide +kernel
theorem dL_law_740 : decode cL_law 740 = .ok (.aaload, 1) := by decide +kernel
theorem dL_law_741 : decode cL_law 741 = .ok (.iconst 0, 1) := by decide +kernel
theorem dL_law_742 : decode cL_law 742 = .ok (.iaload, 1) := by decide +kernel
theorem dL_law_743 : decode cL_law 743 = .ok (.imul, 1) := by decide +kernel
theorem dL_law_744 : decode cL_law 744 = .ok (.if_icmp .ne 7, 3) := by decide +kernel
theorem dL_law_747 : decode cL_law 747 = .ok (.iconst 1, 1) := by decide +kernel
theorem dL_law_748 : decode cL_law 748 = .ok (.goto 4, 3) := by decide +kernel
theorem dL_law_751 : decode cL_law 751 = .ok (.iconst 0, 1) := by decide +kernel
theorem dL_law_752 : decode cL_law 752 = .ok (.istore 24, 2) := by decide +kernel
theorem dL_law_754 : decode cL_law 754 = .ok (.iload 22, 2) := by decide +kernel
theorem dL_law_756 : decode cL_law 756 = .ok (.aload 17, 2) := by decide +kernel
theorem dL_law_758 : decode cL_law 758 = .ok (.iconst 0, 1) := by decide +kernel
theorem dL_law_759 : decode cL_law 759 = .ok (.iaload, 1) := by decide +kernel
theorem dL_law_760 : decode cL_law 760 = .ok (.if_icmp .ne 58, 3) := by decide +kernel
theorem dL_law_763 : decode cL_law 763 = .ok (.aload_n 1, 1) := by decide +kernel
theorem dL_law_764 : decode cL_law 764 = .ok (.bipush 9, 2) := by decide +kernel
theorem dL_law_766 : decode cL_law 766 = .ok (.invokevirtual 55, 3) := by decide +kernel
theorem dL_law_769 : decode cL_law 769 = .ok (.iload 10, 2) := by decide +kernel
theorem dL_law_771 : decode cL_law 771 = .ok (.isub, 1) := by decide +kernel
theorem dL_law_772 : decode cL_law 772 = .ok (.aload 17, 2) := by decide +kernel
theorem dL_law_774 : decode cL_law 774 = .ok (.iconst 1, 1) := by decide +kernel
theorem dL_law_775 : decode cL_law 775 = .ok (.iaload, 1) := by decide +kernel
theorem dL_law_776 : decode cL_law 776 = .ok (.if_icmp .ne 42, 3) := by decide +kernel
theorem dL_law_779 : decode cL_law 779 = .ok (.iload 23, 2) := by decide +kernel
theorem dL_law_781 : decode cL_law 781 = .ok (.aload 17, 2) := by decide +kernel
theorem dL_law_783 : decode cL_law 783 = .ok (.iconst 2, 1) := by decide +kernel
theorem dL_law_784 : decode cL_law 784 = .ok (.iaload, 1) := by decide +kernel
theorem dL_law_785 : decode cL_law 785 = .ok (.if_icmp .ne 33, 3) := by decide +kernel
theorem dL_law_788 : decode cL_law 788 = .ok (.aload_n 1, 1) := by decide +kernel
theorem dL_law_789 : decode cL_law 789 = .ok (.iconst 3, 1) := by decide +kernel
theorem dL_law_790 : decode cL_law 790 = .ok (.invokevirtual 55, 3) := by decide +kernel
theorem dL_law_793 : decode cL_law 793 = .ok (.aload 17, 2) := by decide +kernel
theorem dL_law_795 : decode cL_law 795 = .ok (.iconst 3, 1) := by decide +kernel
theorem dL_law_796 : decode cL_law 796 = .ok (.iaload, 1) := by decide +kernel
theorem dL_law_797 : decode cL_law 797 = .ok (.if_icmp .ne 21, 3) := by decide +kernel
theorem dL_law_800 : decode cL_law 800 = .ok (.aload_n 1, 1) := by decide +kernel
theorem dL_law_801 : decode cL_law 801 = .ok (.iconst 0, 1) := by decide +kernel
theorem dL_law_802 : decode cL_law 802 = .ok (.invokevirtual 55, 3) := by decide +kernel
theorem dL_law_805 : decode cL_law 805 = .ok (.iload 7, 2) := by decide +kernel
theorem dL_law_807 : decode cL_law 807 = .ok (.iconst 1, 1) := by decide +kernel
theorem dL_law_808 : decode cL_law 808 = .ok (.iadd, 1) := by decide +kernel
theorem dL_law_809 : decode cL_law 809 = .ok (.if_icmp .ne 9, 3) := by decide +kernel
theorem dL_law_812 : decode cL_law 812 = .ok (.iload 22, 2) := by decide +kernel
theorem dL_law_814 : decode cL_law 814 = .ok (.iconst 1, 1) := by decide +kernel
theorem dL_law_815 : decode cL_law 815 = .ok (.if_icmp .le 5, 3) := by decide +kernel
theorem dL_law_818 : decode cL_law 818 = .ok (.iconst 0, 1) := by decide +kernel
theorem dL_law_819 : decode cL_law 819 = .ok (.ireturn, 1) := by decide +kernel
theorem dL_law_820 : decode cL_law 820 = .ok (.iload 8, 2) := by decide +kernel
theorem dL_law_822 : decode cL_law 822 = .ok (.istore 25, 2) := by decide +kernel
theorem dL_law_824 : decode cL_law 824 = .ok (.iload 12, 2) := by decide +kernel
theorem dL_law_826 : decode cL_law 826 = .ok (.ifCond .lt 43, 3) := by decide +kernel
theorem dL_law_829 : decode cL_law 829 = .ok (.iload 24, 2) := by decide +kernel
theorem dL_law_831 : decode cL_law 831 = .ok (.ifCond .ne 38, 3) := by decide +kernel
theorem dL_law_834 : decode cL_law 834 = .ok (.aload 6, 2) := by decide +kernel
theorem dL_law_836 : decode cL_law 836 = .ok (.iload 12, 2) := by decide +kernel
theorem dL_law_838 : decode cL_law 838 = .ok (.aaload, 1) := by decide +kernel
theorem dL_law_839 : decode cL_law 839 = .ok (.iconst 0, 1) := by decide +kernel
theorem dL_law_840 : decode cL_law 840 = .ok (.iaload, 1) := by decide +kernel
theorem dL_law_841 : decode cL_law 841 = .ok (.iconst 1, 1) := by decide +kernel
theorem dL_law_842 : decode cL_law 842 = .ok (.if_icmp .ne 16, 3) := by decide +kernel
theorem dL_law_845 : decode cL_law 845 = .ok (.bipush 60, 2) := by decide +kernel
theorem dL_law_847 : decode cL_law 847 = .ok (.iload 8, 2) := by decide +kernel
theorem dL_law_849 : decode cL_law 849 = .ok (.iload 13, 2) := by decide +kernel
theorem dL_law_851 : decode cL_law 851 = .ok (.iadd, 1) := by decide +kernel
theorem dL_law_852 : decode cL_law 852 = .ok (.invokestatic 85, 3) := by decide +kernel
theorem dL_law_855 : decode cL_law 855 = .ok (.goto 12, 3) := by decide +kernel
theorem dL_law_858 : decode cL_law 858 = .ok (.iconst 0, 1) := by decide +kernel
theorem dL_law_859 : decode cL_law 859 = .ok (.iload 8, 2) := by decide +kernel
theorem dL_law_861 : decode cL_law 861 = .ok (.iload 14, 2) := by decide +kernel
theorem dL_law_863 : decode cL_law 863 = .ok (.isub, 1) := by decide +kernel
theorem dL_law_864 : decode cL_law 864 = .ok (.invokestatic 90, 3) := by decide +kernel
theorem dL_law_867 : decode cL_law 867 = .ok (.istore 25, 2) := by decide +kernel
theorem dL_law_869 : decode cL_law 869 = .ok (.iload 7, 2) := by decide +kernel
theorem dL_law_871 : decode cL_law 871 = .ok (.bipush 60, 2) := by decide +kernel
theorem dL_law_873 : decode cL_law 873 = .ok (.irem, 1) := by decide +kernel
theorem dL_law_874 : decode cL_law 874 = .ok (.ifCond .ne 28, 3) := by decide +kernel
theorem dL_law_877 : decode cL_law 877 = .ok (.bipush 9, 2) := by decide +kernel
theorem dL_law_879 : decode cL_law 879 = .ok (.iconst 0, 1) := by decide +kernel
theorem dL_law_880 : decode cL_law 880 = .ok (.iload 9, 2) := by decide +kernel
theorem dL_law_882 : decode cL_law 882 = .ok (.aload_n 2, 1) := by decide +kernel
theorem dL_law_883 : decode cL_law 883 = .ok (.iload 7, 2) := by decide +kernel
theorem dL_law_885 : decode cL_law 885 = .ok (.bipush 60, 2) := by decide +kernel
theorem dL_law_887 : decode cL_law 887 = .ok (.idiv, 1) := by decide +kernel
theorem dL_law_888 : decode cL_law 888 = .ok (.bipush 8, 2) := by decide +kernel
theorem dL_law_890 : decode cL_law 890 = .ok (.irem, 1) := by decide +kernel
theorem dL_law_891 : decode cL_law 891 = .ok (.iaload, 1) := by decide +kernel
theorem dL_law_892 : decode cL_law 892 = .ok (.iadd, 1) := by decide +kernel
theorem dL_law_893 : decode cL_law 893 = .ok (.invokestatic 90, 3) := by decide +kernel
theorem dL_law_896 : decode cL_law 896 = .ok (.invokestatic 85, 3) := by decide +kernel
theorem dL_law_899 : decode cL_law 899 = .ok (.goto 5, 3) := by decide +kernel
theorem dL_law_902 : decode cL_law 902 = .ok (.iload 9, 2) := by decide +kernel
theorem dL_law_904 : decode cL_law 904 = .ok (.istore 26, 2) := by decide +kernel
theorem dL_law_906 : decode cL_law 906 = .ok (.iload 23, 2) := by decide +kernel
theorem dL_law_908 : decode cL_law 908 = .ok (.iload 25, 2) := by decide +kernel
theorem dL_law_910 : decode cL_law 910 = .ok (.if_icmp .ne 48, 3) := by decide +kernel
theorem dL_law_913 : decode cL_law 913 = .ok (.aload_n 1, 1) := by decide +kernel
theorem dL_law_914 : decode cL_law 914 = .ok (.iconst 3, 1) := by decide +kernel
theorem dL_law_915 : decode cL_law 915 = .ok (.invokevirtual 55, 3) := by decide +kernel
theorem dL_law_918 : decode cL_law 918 = .ok (.iload 26, 2) := by decide +kernel
theorem dL_law_920 : decode cL_law 920 = .ok (.if_icmp .ne 38, 3) := by decide +kernel
theorem dL_law_923 : decode cL_law 923 = .ok (.aload_n 1, 1) := by decide +kernel
theorem dL_law_924 : decode cL_law 924 = .ok (.iconst 1, 1) := by decide +kernel
theorem dL_law_925 : decode cL_law 925 = .ok (.invokevirtual 65, 3) := by decide +kernel
theorem dL_law_928 : decode cL_law 928 = .ok (.aload_n 1, 1) := by decide +kernel
theorem dL_law_929 : decode cL_law 929 = .ok (.iconst 0, 1) := by decide +kernel
theorem dL_law_930 : decode cL_law 930 = .ok (.invokevirtual 65, 3) := by decide +kernel
theorem dL_law_933 : decode cL_law 933 = .ok (.iadd, 1) := by decide +kernel
theorem dL_law_934 : decode cL_law 934 = .ok (.bipush 6, 2) := by decide +kernel
theorem dL_law_936 : decode cL_law 936 = .ok (.if_icmp .le 7, 3) := by decide +kernel
theorem dL_law_939 : decode cL_law 939 = .ok (.iconst 1, 1) := by decide +kernel
theorem dL_law_940 : decode cL_law 940 = .ok (.goto 4, 3) := by decide +kernel
theorem dL_law_943 : decode cL_law 943 = .ok (.iconst 0, 1) := by decide +kernel
theorem dL_law_944 : decode cL_law 944 = .ok (.iload 26, 2) := by decide +kernel
theorem dL_law_946 : decode cL_law 946 = .ok (.iconst 5, 1) := by decide +kernel
theorem dL_law_947 : decode cL_law 947 = .ok (.if_icmp .ge 7, 3) := by decide +kernel
theorem dL_law_950 : decode cL_law 950 = .ok (.iconst 1, 1) := by decide +kernel
theorem dL_law_951 : decode cL_law 951 = .ok (.goto 4, 3) := by decide +kernel
theorem dL_law_954 : decode cL_law 954 = .ok (.iconst 0, 1) := by decide +kernel
theorem dL_law_955 : decode cL_law 955 = .ok (.if_icmp .eq 5, 3) := by decide +kernel
theorem dL_law_958 : decode cL_law 958 = .ok (.iconst 0, 1) := by decide +kernel
theorem dL_law_959 : decode cL_law 959 = .ok (.ireturn, 1) := by decide +kernel
theorem dL_law_960 : decode cL_law 960 = .ok (.iconst 0, 1) := by decide +kernel
theorem dL_law_961 : decode cL_law 961 = .ok (.istore 27, 2) := by decide +kernel
theorem dL_law_963 : decode cL_law 963 = .ok (.iconst 0, 1) := by decide +kernel
theorem dL_law_964 : decode cL_law 964 = .ok (.istore 28, 2) := by decide +kernel
theorem dL_law_966 : decode cL_law 966 = .ok (.iload 28, 2) := by decide +kernel
theorem dL_law_968 : decode cL_law 968 = .ok (.iload 5, 2) := by decide +kernel
theorem dL_law_970 : decode cL_law 970 = .ok (.if_icmp .ge 324, 3) := by decide +kernel
theorem dL_law_973 : decode cL_law 973 = .ok (.aload_n 1, 1) := by decide +kernel
theorem dL_law_974 : decode cL_law 974 = .ok (.iload 28, 2) := by decide +kernel
theorem dL_law_976 : decode cL_law 976 = .ok (.iconst 2, 1) := by decide +kernel
theorem dL_law_977 : decode cL_law 977 = .ok (.invokevirtual 58, 3) := by decide +kernel
theorem dL_law_980 : decode cL_law 980 = .ok (.istore 29, 2) := by decide +kernel
theorem dL_law_982 : decode cL_law 982 = .ok (.aload_n 1, 1) := by decide +kernel
theorem dL_law_983 : decode cL_law 983 = .ok (.iload 28, 2) := by decide +kernel
theorem dL_law_985 : decode cL_law 985 = .ok (.iconst 5, 1) := by decide +kernel
theorem dL_law_986 : decode cL_law 986 = .ok (.invokevirtual 58, 3) := by decide +kernel
theorem dL_law_989 : decode cL_law 989 = .ok (.istore 30, 2) := by decide +kernel
theorem dL_law_991 : decode cL_law 991 = .ok (.iload 27, 2) := by decide +kernel
theorem dL_law_993 : decode cL_law 993 = .ok (.iload 29, 2) := by decide +kernel
theorem dL_law_995 : decode cL_law 995 = .ok (.iconst 1, 1) := by decide +kernel
theorem dL_law_996 : decode cL_law 996 = .ok (.if_icmp .ne 7, 3) := by decide +kernel
theorem dL_law_999 : decode cL_law 999 = .ok (.iconst 1, 1) := by decide +kernel
theorem dL_law_1000 : decode cL_law 1000 = .ok (.goto 4, 3) := by decide +kernel
theorem dL_law_1003 : decode cL_law 1003 = .ok (.iconst 0, 1) := by decide +kernel
theorem dL_law_1004 : decode cL_law 1004 = .ok (.iadd, 1) := by decide +kernel
theorem dL_law_1005 : decode cL_law 1005 = .ok (.istore 27, 2) := by decide +kernel
theorem dL_law_1007 : decode cL_law 1007 = .ok (.iload 28, 2) := by decide +kernel
theorem dL_law_1009 : decode cL_law 1009 = .ok (.iload 11, 2) := by decide +kernel
theorem dL_law_1011 : decode cL_law 1011 = .ok (.if_icmp .eq 15, 3) := by decide +kernel
theorem dL_law_1014 : decode cL_law 1014 = .ok (.iload 24, 2) := by decide +kernel
theorem dL_law_1016 : decode cL_law 1016 = .ok (.ifCond .eq 14, 3) := by decide +kernel
theorem dL_law_1019 : decode cL_law 1019 = .ok (.iload 28, 2) := by decide +kernel
theorem dL_law_1021 : decode cL_law 1021 = .ok (.iload 12, 2) := by decide +kernel
theorem dL_law_1023 : decode cL_law 1023 = .ok (.if_icmp .ne 7, 3) := by decide +kernel
theorem dL_law_1026 : decode cL_law 1026 = .ok (.iconst 1, 1) := by decide +kernel
theorem dL_law_1027 : decode cL_law 1027 = .ok (.goto 4, 3) := by decide +kernel
theorem dL_law_1030 : decode cL_law 1030 = .ok (.iconst 0, 1) := by decide +kernel
theorem dL_law_1031 : decode cL_law 1031 = .ok (.istore 31, 2) := by decide +kernel
theorem dL_law_1033 : decode cL_law 1033 = .ok (.iload 28, 2) := by decide +kernel
theorem dL_law_1035 : decode cL_law 1035 = .ok (.iload 11, 2) := by decide +kernel
theorem dL_law_1037 : decode cL_law 1037 = .ok (.if_icmp .ne 13, 3) := by decide +kernel
theorem dL_law_1040 : decode cL_law 1040 = .ok (.aload 6, 2) := by decide +kernel
theorem dL_law_1042 : decode cL_law 1042 = .ok (.iload 28, 2) := by decide +kernel
theorem dL_law_1044 : decode cL_law 1044 = .ok (.aaload, 1) := by decide +kernel
theorem dL_law_1045 : decode cL_law 1045 = .ok (.iconst 5, 1) := by decide +kernel
theorem dL_law_1046 : decode cL_law 1046 = .ok (.iaload, 1) := by decide +kernel
theorem dL_law_1047 : decode cL_law 1047 = .ok (.goto 10, 3) := by decide +kernel
theorem dL_law_1050 : decode cL_law 1050 = .ok (.aload 6, 2) := by decide +kernel
theorem dL_law_1052 : decode cL_law 1052 = .ok (.iload 28, 2) := by decide +kernel
theorem dL_law_1054 : decode cL_law 1054 = .ok (.aaload, 1) := by decide +kernel
theorem dL_law_1055 : decode cL_law 1055 = .ok (.iconst 1, 1) := by decide +kernel
theorem dL_law_1056 : decode cL_law 1056 = .ok (.iaload, 1) := by decide +kernel
theorem dL_law_1057 : decode cL_law 1057 = .ok (.istore 32, 2) := by decide +kernel
theorem dL_law_1059 : decode cL_law 1059 = .ok (.aload_n 1, 1) := by decide +kernel
theorem dL_law_1060 : decode cL_law 1060 = .ok (.iload 28, 2) := by decide +kernel
theorem dL_law_1062 : decode cL_law 1062 = .ok (.iconst 4, 1) := by decide +kernel
theorem dL_law_1063 : decode cL_law 1063 = .ok (.invokevirtual 58, 3) := by decide +kernel
theorem dL_law_1066 : decode cL_law 1066 = .ok (.aload 6, 2) := by decide +kernel
theorem dL_law_1068 : decode cL_law 1068 = .ok (.iload 28, 2) := by decide +kernel
theorem dL_law_1070 : decode cL_law 1070 = .ok (.aaload, 1) := by decide +kernel
theorem dL_law_1071 : decode cL_law 1071 = .ok (.iconst 4, 1) := by decide +kernel
theorem dL_law_1072 : decode cL_law 1072 = .ok (.iaload, 1) := by decide +kernel
theorem dL_law_1073 : decode cL_law 1073 = .ok (.iload 29, 2) := by decide +kernel
theorem dL_law_1075 : decode cL_law 1075 = .ok (.ifCond .ne 7, 3) := by decide +kernel
theorem dL_law_1078 : decode cL_law 1078 = .ok (.iconst 1, 1) := by decide +kernel
theorem dL_law_1079 : decode cL_law 1079 = .ok (.goto 4, 3) := by decide +kernel
theorem dL_law_1082 : decode cL_law 1082 = .ok (.iconst 0, 1) := by decide +kernel
theorem dL_law_1083 : decode cL_law 1083 = .ok (.iadd, 1) := by decide +kernel
theorem dL_law_1084 : decode cL_law 1084 = .ok (.if_icmp .ne 54, 3) := by decide +kernel
theorem dL_law_1087 : decode cL_law 1087 = .ok (.aload_n 1, 1) := by decide +kernel
theorem dL_law_1088 : decode cL_law 1088 = .ok (.iload 28, 2) := by decide +kernel
theorem dL_law_1090 : decode cL_law 1090 = .ok (.iconst 0, 1) := by decide +kernel
theorem dL_law_1091 : decode cL_law 1091 = .ok (.invokevirtual 58, 3) := by decide +kernel
theorem dL_law_1094 : decode cL_law 1094 = .ok (.aload 6, 2) := by decide +kernel
theorem dL_law_1096 : decode cL_law 1096 = .ok (.iload 28, 2) := by decide +kernel
theorem dL_law_1098 : decode cL_law 1098 = .ok (.aaload, 1) := by decide +kernel
theorem dL_law_1099 : decode cL_law 1099 = .ok (.iconst 0, 1) := by decide +kernel
theorem dL_law_1100 : decode cL_law 1100 = .ok (.iaload, 1) := by decide +kernel
theorem dL_law_1101 : decode cL_law 1101 = .ok (.if_icmp .ne 37, 3) := by decide +kernel
theorem dL_law_1104 : decode cL_law 1104 = .ok (.aload_n 1, 1) := by decide +kernel
theorem dL_law_1105 : decode cL_law 1105 = .ok (.iload 28, 2) := by decide +kernel
theorem dL_law_1107 : decode cL_law 1107 = .ok (.iconst 1, 1) := by decide +kernel
theorem dL_law_1108 : decode cL_law 1108 = .ok (.invokevirtual 58, 3) := by decide +kernel
theorem dL_law_1111 : decode cL_law 1111 = .ok (.aload 6, 2) := by decide +kernel
theorem dL_law_1113 : decode cL_law 1113 = .ok (.iload 28, 2) := by decide +kernel
theorem dL_law_1115 : decode cL_law 1115 = .ok (.aaload, 1) := by decide +kernel
theorem dL_law_1116 : decode cL_law 1116 = .ok (.iconst 1, 1) := by decide +kernel
theorem dL_law_1117 : decode cL_law 1117 = .ok (.iaload, 1) := by decide +kernel
theorem dL_law_1118 : decode cL_law 1118 = .ok (.if_icmp .ne 20, 3) := by decide +kernel
theorem dL_law_1121 : decode cL_law 1121 = .ok (.aload_n 1, 1) := by decide +kernel
theorem dL_law_1122 : decode cL_law 1122 = .ok (.iload 28, 2) := by decide +kernel
theorem dL_law_1124 : decode cL_law 1124 = .ok (.iconst 3, 1) := by decide +kernel
theorem dL_law_1125 : decode cL_law 1125 = .ok (.invokevirtual 58, 3) := by decide +kernel
theorem dL_law_1128 : decode cL_law 1128 = .ok (.aload 6, 2) := by decide +kernel
theorem dL_law_1130 : decode cL_law 1130 = .ok (.iload 28, 2) := by decide +kernel
theorem dL_law_1132 : decode cL_law 1132 = .ok (.aaload, 1) := by decide +kernel
theorem dL_law_1133 : decode cL_law 1133 = .ok (.iconst 3, 1) := by decide +kernel
theorem dL_law_1134 : decode cL_law 1134 = .ok (.iaload, 1) := by decide +kernel
theorem dL_law_1135 : decode cL_law 1135 = .ok (.if_icmp .eq 5, 3) := by decide +kernel
theorem dL_law_1138 : decode cL_law 1138 = .ok (.iconst 0, 1) := by decide +kernel
theorem dL_law_1139 : decode cL_law 1139 = .ok (.ireturn, 1) := by decide +kernel
theorem dL_law_1140 : decode cL_law 1140 = .ok (.iload 31, 2) := by decide +kernel
theorem dL_law_1142 : decode cL_law 1142 = .ok (.ifCond .eq 69, 3) := by decide +kernel
theorem dL_law_1145 : decode cL_law 1145 = .ok (.iload 29, 2) := by decide +kernel
theorem dL_law_1147 : decode cL_law 1147 = .ok (.iload 32, 2) := by decide +kernel
theorem dL_law_1149 : decode cL_law 1149 = .ok (.iconst 1, 1) := by decide +kernel
theorem dL_law_1150 : decode cL_law 1150 = .ok (.if_icmp .ne 7, 3) := by decide +kernel
theorem dL_law_1153 : decode cL_law 1153 = .ok (.iconst 2, 1) := by decide +kernel
theorem dL_law_1154 : decode cL_law 1154 = .ok (.goto 4, 3) := by decide +kernel
theorem dL_law_1157 : decode cL_law 1157 = .ok (.iconst 1, 1) := by decide +kernel
theorem dL_law_1158 : decode cL_law 1158 = .ok (.if_icmp .ne 89, 3) := by decide +kernel
theorem dL_law_1161 : decode cL_law 1161 = .ok (.iload 30, 2) := by decide +kernel
theorem dL_law_1163 : decode cL_law 1163 = .ok (.iload 32, 2) := by decide +kernel
theorem dL_law_1165 : decode cL_law 1165 = .ok (.iconst 1, 1) := by decide +kernel
theorem dL_law_1166 : decode cL_law 1166 = .ok (.isub, 1) := by decide +kernel
theorem dL_law_1167 : decode cL_law 1167 = .ok (.if_icmp .ne 80, 3) := by decide +kernel
theorem dL_law_1170 : decode cL_law 1170 = .ok (.aload_n 1, 1) := by decide +kernel
theorem dL_law_1171 : decode cL_law 1171 = .ok (.iload 28, 2) := by decide +kernel
theorem dL_law_1173 : decode cL_law 1173 = .ok (.bipush 6, 2) := by decide +kernel
theorem dL_law_1175 : decode cL_law 1175 = .ok (.invokevirtual 58, 3) := by decide +kernel
theorem dL_law_1178 : decode cL_law 1178 = .ok (.iload 32, 2) := by decide +kernel
theorem dL_law_1180 : decode cL_law 1180 = .ok (.iconst 1, 1) := by decide +kernel
theorem dL_law_1181 : decode cL_law 1181 = .ok (.if_icmp .ne 8, 3) := by decide +kernel
theorem dL_law_1184 : decode cL_law 1184 = .ok (.iload 7, 2) := by decide +kernel
theorem dL_law_1186 : decode cL_law 1186 = .ok (.goto 4, 3) := by decide +kernel
theorem dL_law_1189 : decode cL_law 1189 = .ok (.iconst (-1), 1) := by decide +kernel
theorem dL_law_1190 : decode cL_law 1190 = .ok (.if_icmp .ne 57, 3) := by decide +kernel
theorem dL_law_1193 : decode cL_law 1193 = .ok (.iload 23, 2) := by decide +kernel
theorem dL_law_1195 : decode cL_law 1195 = .ok (.bipush 60, 2) := by decide +kernel
theorem dL_law_1197 : decode cL_law 1197 = .ok (.aload 6, 2) := by decide +kernel
theorem dL_law_1199 : decode cL_law 1199 = .ok (.iload 28, 2) := by decide +kernel
theorem dL_law_1201 : decode cL_law 1201 = .ok (.aaload, 1) := by decide +kernel
theorem dL_law_1202 : decode cL_law 1202 = .ok (.iconst 0, 1) := by decide +kernel
theorem dL_law_1203 : decode cL_law 1203 = .ok (.iaload, 1) := by decide +kernel
theorem dL_law_1204 : decode cL_law 1204 = .ok (.imul, 1) := by decide +kernel
theorem dL_law_1205 : decode cL_law 1205 = .ok (.if_icmp .eq 44, 3) := by decide +kernel
theorem dL_law_1208 : decode cL_law 1208 = .ok (.goto 39, 3) := by decide +kernel
theorem dL_law_1211 : decode cL_law 1211 = .ok (.iload 29, 2) := by decide +kernel
theorem dL_law_1213 : decode cL_law 1213 = .ok (.aload 6, 2) := by decide +kernel
theorem dL_law_1215 : decode cL_law 1215 = .ok (.iload 28, 2) := by decide +kernel
theorem dL_law_1217 : decode cL_law 1217 = .ok (.aaload, 1) := by decide +kernel
theorem dL_law_1218 : decode cL_law 1218 = .ok (.iconst 2, 1) := by decide +kernel
theorem dL_law_1219 : decode cL_law 1219 = .ok (.iaload, 1) := by decide +kernel
theorem dL_law_1220 : decode cL_law 1220 = .ok (.if_icmp .ne 27, 3) := by decide +kernel
theorem dL_law_1223 : decode cL_law 1223 = .ok (.iload 30, 2) := by decide +kernel
theorem dL_law_1225 : decode cL_law 1225 = .ok (.ifCond .ne 22, 3) := by decide +kernel
theorem dL_law_1228 : decode cL_law 1228 = .ok (.aload_n 1, 1) := by decide +kernel
theorem dL_law_1229 : decode cL_law 1229 = .ok (.iload 28, 2) := by decide +kernel
theorem dL_law_1231 : decode cL_law 1231 = .ok (.bipush 6, 2) := by decide +kernel
theorem dL_law_1233 : decode cL_law 1233 = .ok (.invokevirtual 58, 3) := by decide +kernel
theorem dL_law_1236 : decode cL_law 1236 = .ok (.aload 6, 2) := by decide +kernel
theorem dL_law_1238 : decode cL_law 1238 = .ok (.iload 28, 2) := by decide +kernel
theorem dL_law_1240 : decode cL_law 1240 = .ok (.aaload, 1) := by decide +kernel
theorem dL_law_1241 : decode cL_law 1241 = .ok (.bipush 6, 2) := by decide +kernel
theorem dL_law_1243 : decode cL_law 1243 = .ok (.iaload, 1) := by decide +kernel
theorem dL_law_1244 : decode cL_law 1244 = .ok (.if_icmp .eq 5, 3) := by decide +kernel
theorem dL_law_1247 : decode cL_law 1247 = .ok (.iconst 0, 1) := by decide +kernel
theorem dL_law_1248 : decode cL_law 1248 = .ok (.ireturn, 1) := by decide +kernel
theorem dL_law_1249 : decode cL_law 1249 = .ok (.iload 28, 2) := by decide +kernel
theorem dL_law_1251 : decode cL_law 1251 = .ok (.iload 18, 2) := by decide +kernel
theorem dL_law_1253 : decode cL_law 1253 = .ok (.if_icmp .ne 35, 3) := by decide +kernel
theorem dL_law_1256 : decode cL_law 1256 = .ok (.iload 19, 2) := by decide +kernel
theorem dL_law_1258 : decode cL_law 1258 = .ok (.ifCond .le 30, 3) := by decide +kernel
theorem dL_law_1261 : decode cL_law 1261 = .ok (.iload 19, 2) := by decide +kernel
theorem dL_law_1263 : decode cL_law 1263 = .ok (.iconst 1, 1) := by decide +kernel
theorem dL_law_1264 : decode cL_law 1264 = .ok (.if_icmp .ne 7, 3) := by decide +kernel
theorem dL_law_1267 : decode cL_law 1267 = .ok (.iconst 1, 1) := by decide +kernel
theorem dL_law_1268 : decode cL_law 1268 = .ok (.goto 4, 3) := by decide +kernel
theorem dL_law_1271 : decode cL_law 1271 = .ok (.iconst 0, 1) := by decide +kernel
theorem dL_law_1272 : decode cL_law 1272 = .ok (.iload 29, 2) := by decide +kernel
theorem dL_law_1274 : decode cL_law 1274 = .ok (.iconst 2, 1) := by decide +kernel
theorem dL_law_1275 : decode cL_law 1275 = .ok (.if_icmp .ne 7, 3) := by decide +kernel
theorem dL_law_1278 : decode cL_law 1278 = .ok (.iconst 1, 1) := by decide +kernel
theorem dL_law_1279 : decode cL_law 1279 = .ok (.goto 4, 3) := by decide +kernel
theorem dL_law_1282 : decode cL_law 1282 = .ok (.iconst 0, 1) := by decide +kernel
theorem dL_law_1283 : decode cL_law 1283 = .ok (.if_icmp .eq 5, 3) := by decide +kernel
theorem dL_law_1286 : decode cL_law 1286 = .ok (.iconst 0, 1) := by decide +kernel
theorem dL_law_1287 : decode cL_law 1287 = .ok (.ireturn, 1) := by decide +kernel
theorem dL_law_1288 : decode cL_law 1288 = .ok (.iinc 28 1, 3) := by decide +kernel
theorem dL_law_1291 : decode cL_law 1291 = .ok (.goto (-325), 3) := by decide +kernel
theorem dL_law_1294 : decode cL_law 1294 = .ok (.iload 27, 2) := by decide +kernel
theorem dL_law_1296 : decode cL_law 1296 = .ok (.iconst 1, 1) := by decide +kernel
theorem dL_law_1297 : decode cL_law 1297 = .ok (.if_icmp .gt 46, 3) := by decide +kernel
theorem dL_law_1300 : decode cL_law 1300 = .ok (.iload 27, 2) := by decide +kernel
theorem dL_law_1302 : decode cL_law 1302 = .ok (.aload_n 1, 1) := by decide +kernel
theorem dL_law_1303 : decode cL_law 1303 = .ok (.bipush 10, 2) := by decide +kernel
theorem dL_law_1305 : decode cL_law 1305 = .ok (.invokevirtual 55, 3) := by decide +kernel
theorem dL_law_1308 : decode cL_law 1308 = .ok (.ifCond .lt 7, 3) := by decide +kernel
theorem dL_law_1311 : decode cL_law 1311 = .ok (.iconst 1, 1) := by decide +kernel
theorem dL_law_1312 : decode cL_law 1312 = .ok (.goto 4, 3) := by decide +kernel
theorem dL_law_1315 : decode cL_law 1315 = .ok (.iconst 0, 1) := by decide +kernel
theorem dL_law_1316 : decode cL_law 1316 = .ok (.if_icmp .ne 27, 3) := by decide +kernel
theorem dL_law_1319 : decode cL_law 1319 = .ok (.iload 5, 2) := by decide +kernel
theorem dL_law_1321 : decode cL_law 1321 = .ok (.ifCond .le 24, 3) := by decide +kernel
theorem dL_law_1324 : decode cL_law 1324 = .ok (.aload_n 1, 1) := by decide +kernel
theorem dL_law_1325 : decode cL_law 1325 = .ok (.invokevirtual 93, 3) := by decide +kernel
theorem dL_law_1328 : decode cL_law 1328 = .ok (.aload_n 1, 1) := by decide +kernel
theorem dL_law_1329 : decode cL_law 1329 = .ok (.bipush 9, 2) := by decide +kernel
theorem dL_law_1331 : decode cL_law 1331 = .ok (.invokevirtual 55, 3) := by decide +kernel
theorem dL_law_1334 : decode cL_law 1334 = .ok (.i2d, 1) := by decide +kernel
theorem dL_law_1335 : decode cL_law 1335 = .ok (.iload 5, 2) := by decide +kernel
theorem dL_law_1337 : decode cL_law 1337 = .ok (.i2d, 1) := by decide +kernel
theorem dL_law_1338 : decode cL_law 1338 = .ok (.ddiv, 1) := by decide +kernel
theorem dL_law_1339 : decode cL_law 1339 = .ok (.dcmp .l, 1) := by decide +kernel
theorem dL_law_1340 : decode cL_law 1340 = .ok (.ifCond .eq 5, 3) := by decide +kernel
theorem dL_law_1343 : decode cL_law 1343 = .ok (.iconst 0, 1) := by decide +kernel
theorem dL_law_1344 : decode cL_law 1344 = .ok (.ireturn, 1) := by decide +kernel
theorem dL_law_1345 : decode cL_law 1345 = .ok (.iinc 3 1, 3) := by decide +kernel
theorem dL_law_1348 : decode cL_law 1348 = .ok (.goto (-1300), 3) := by decide +kernel
theorem dL_law_1351 : decode cL_law 1351 = .ok (.iconst 1, 1) := by decide +kernel
theorem dL_law_1352 : decode cL_law 1352 = .ok (.ireturn, 1) := by decide +kernel
abbrev vwCl : List vw_C := [(RX0, TX0, 11), (RX1, TX1, 12), (RX2, TX2, 2)]
