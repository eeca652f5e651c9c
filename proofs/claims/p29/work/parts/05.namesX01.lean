theorem wsL_law_x0 : ∀ w ∈ (vx_atS RX5 70 "java/lang/IllegalArgumentException" ["java/lang/RuntimeException", "java/lang/Exception"]).filter goodWord, w ∈ lw_tbl := by decide +kernel
theorem wsL_law_x1 : ∀ w ∈ (vx_atS RX5 128 "java/lang/IndexOutOfBoundsException" ["java/lang/RuntimeException", "java/lang/Exception"]).filter goodWord, w ∈ lw_tbl := by decide +kernel
theorem wsL_law_x2 : ∀ w ∈ (vx_atS RX5 101 "java/lang/IllegalStateException" ["java/lang/RuntimeException", "java/lang/Exception"]).filter goodWord, w ∈ lw_tbl := by decide +kernel
theorem wsL_law_in : ∀ w ∈ wsL_law, w ∈ lw_tbl := fun w h => (List.mem_append.mp h).elim (fun h => (List.mem_append.mp h).elim (fun h => (List.mem_append.mp h).elim (fun h => wsL_law_in0 w h) (fun h => wsL_law_x0 w h)) (fun h => wsL_law_x1 w h)) (fun h => wsL_law_x2 w h)
theorem inlX0 : ∀ w ∈ wsX00, w ∈ wsL_law := fun _ h => List.mem_append_left _ (List.mem_append_left _ (List.mem_append_left _ (List.mem_append_left _ (List.mem_append_left _ (List.mem_append_left _ (List.mem_append_left _ (List.mem_append_right _ h)))))))
theorem inX0 : ∀ w ∈ wsX00, w ∈ lw_tbl := fun w h => wsL_law_in w (inlX0 w h)
theorem inlX1 : ∀ w ∈ wsX10, w ∈ wsL_law := fun _ h => List.mem_append_left _ (List.mem_append_left _ (List.mem_append_left _ (List.mem_append_left _ (List.mem_append_left _ (List.mem_append_right _ h)))))
theorem inX1 : ∀ w ∈ wsX10, w ∈ lw_tbl := fun w h => wsL_law_in w (inlX1 w h)
theorem inlX2 : ∀ w ∈ wsX20, w ∈ wsL_law := fun _ h => List.mem_append_left _ (List.mem_append_left _ (List.mem_append_left _ (List.mem_append_left _ (List.mem_append_left _ (List.mem_append_left _ (List.mem_append_right _ h))))))
theorem inX2 : ∀ w ∈ wsX20, w ∈ lw_tbl := fun w h => wsL_law_in w (inlX2 w h)
theorem inlX3 : ∀ w ∈ wsX30, w ∈ wsL_law := fun _ h => List.mem_append_left _ (List.mem_append_left _ (List.mem_append_left _ (List.mem_append_left _ (List.mem_append_left _ (List.mem_append_left _ (List.mem_append_left _ (List.mem_append_left _ (List.mem_append_right _ h))))))))
theorem inX3 : ∀ w ∈ wsX30, w ∈ lw_tbl := fun w h => wsL_law_in w (inlX3 w h)
theorem inlX4 : ∀ w ∈ wsX40, w ∈ wsL_law := fun _ h => List.mem_append_left _ (List.mem_append_left _ (List.mem_append_left _ (List.mem_append_left _ (List.mem_append_right _ h))))
theorem inX4 : ∀ w ∈ wsX40, w ∈ lw_tbl := fun w h => wsL_law_in w (inlX4 w h)
theorem inlX5 : ∀ w ∈ wsX50, w ∈ wsL_law := fun _ h => List.mem_append_left _ (List.mem_append_left _ (List.mem_append_left _ (List.mem_append_left _ (List.mem_append_left _ (List.mem_append_left _ (List.mem_append_left _ (List.mem_append_left _ (List.mem_append_left _ (List.mem_append_right _ h)))))))))
theorem inX5 : ∀ w ∈ wsX50, w ∈ lw_tbl := fun w h => wsL_law_in w (inlX5 w h)
theorem inX6 : ∀ w ∈ wsX60, w ∈ lw_tbl := by decide +kernel
theorem inJ9 : ∀ w ∈ wsJ90, w ∈ lw_tbl := by decide +kernel
theorem inJ0 : ∀ w ∈ wsJ00, w ∈ lw_tbl := by decide +kernel
theorem dX0_init_0 : decode cX0_init 0 = .ok (.aload_n 0, 1) := by decide +kernel
theorem dX0_init_1 : decode cX0_init 1 = .ok (.invokespecial 3, 3) := by decide +kernel
theorem dX0_init_4 : decode cX0_init 4 = .ok (.aload_n 0, 1) := by decide +kernel
theorem dX0_init_5 : decode cX0_init 5 = .ok (.bipush 6, 2) := by decide +kernel
theorem dX0_init_7 : decode cX0_init 7 = .ok (.anewarray 9, 3) := by decide +kernel
theorem dX0_init_10 : decode cX0_init 10 = .ok (.putfield 11, 3) := by decide +kernel
theorem dX0_init_13 : decode cX0_init 13 = .ok (.aload_n 0, 1) := by decide +kernel
theorem dX0_init_14 : decode cX0_init 14 = .ok (.iconst 0, 1) := by decide +kernel
theorem dX0_init_15 : decode cX0_init 15 = .ok (.putfield 17, 3) := by decide +kernel
theorem dX0_init_18 : decode cX0_init 18 = .ok (.return_, 1) := by decide +kernel
theorem dX0_depth_0 : decode cX0_depth 0 = .ok (.aload_n 0, 1) := by decide +kernel
theorem dX0_depth_1 : decode cX0_depth 1 = .ok (.getfield 17, 3) := by decide +kernel
theorem dX0_depth_4 : decode cX0_depth 4 = .ok (.ireturn, 1) := by decide +kernel
set_option maxRecDepth 20000 in
theorem ggX0_save_X0_dropOldest : GoodIn wsX0_save wsX0_dropOldest := goodIn_r _ [10, 2, 1, 55, 56] (by decide +kernel) (by decide +kernel)
set_option maxRecDepth 20000 in
theorem gX0_save_X0_dropOldest : GoodIn wsX0_save (wsV RX0 21 RX0 yX0_dropOldest wsX0_dropOldest) := goodIn_app (goodIn_of _ (by decide +kernel)) ggX0_save_X0_dropOldest
set_option maxRecDepth 20000 in
theorem ggX0_save_X3_init : GoodIn wsX0_save wsX3_init := goodIn_r _ [13, 14, 15, 16, 17, 18, 19, 20, 21, 22, 23, 24, 25, 26, 27, 28, 29, 30, 31, 32, 33, 34, 35, 36, 37, 60, 61, 57, 58, 59] (by decide +kernel) (by decide +kernel)
set_option maxRecDepth 20000 in
theorem gX0_save_X3_init : GoodIn wsX0_save (wsX3_init) := ggX0_save_X3_init
set_option maxRecDepth 20000 in
theorem ggX0_save_X3_copyFrom : GoodIn wsX0_save wsX3_copyFrom := goodIn_r _ [41, 20, 21, 22, 42, 43, 44, 19, 45, 27, 46, 47, 48, 49, 50, 51, 52, 53, 33, 54, 35, 36, 37, 57, 58, 59, 60, 61] (by decide +kernel) (by decide +kernel)
set_option maxRecDepth 20000 in
theorem gX0_save_X3_copyFrom : GoodIn wsX0_save (wsV RX0 25 RX3 yX3_copyFrom wsX3_copyFrom) := goodIn_app (goodIn_of _ (by decide +kernel)) ggX0_save_X3_copyFrom
theorem dX0_save_0 : decode cX0_save 0 = .ok (.aload_n 0, 1) := by decide +kernel
theorem dX0_save_1 : decode cX0_save 1 = .ok (.getfield 17, 3) := by decide +kernel
theorem dX0_save_4 : decode cX0_save 4 = .ok (.aload_n 0, 1) := by decide +kernel
theorem dX0_save_5 : decode cX0_save 5 = .ok (.getfield 11, 3) := by decide +kernel
theorem dX0_save_8 : decode cX0_save 8 = .ok (.arraylength, 1) := by decide +kernel
theorem dX0_save_9 : decode cX0_save 9 = .ok (.if_icmp .lt 7, 3) := by decide +kernel
theorem dX0_save_12 : decode cX0_save 12 = .ok (.aload_n 0, 1) := by decide +kernel
theorem dX0_save_13 : decode cX0_save 13 = .ok (.invokevirtual 21, 3) := by decide +kernel
theorem dX0_save_16 : decode cX0_save 16 = .ok (.aload_n 0, 1) := by decide +kernel
theorem dX0_save_17 : decode cX0_save 17 = .ok (.getfield 17, 3) := by decide +kernel
theorem dX0_save_20 : decode cX0_save 20 = .ok (.ifCond .lt 15, 3) := by decide +kernel
theorem dX0_save_23 : decode cX0_save 23 = .ok (.aload_n 0, 1) := by decide +kernel
theorem dX0_save_24 : decode cX0_save 24 = .ok (.getfield 17, 3) := by decide +kernel
theorem dX0_save_27 : decode cX0_save 27 = .ok (.aload_n 0, 1) := by decide +kernel
theorem dX0_save_28 : decode cX0_save 28 = .ok (.getfield 11, 3) := by decide +kernel
theorem dX0_save_31 : decode cX0_save 31 = .ok (.arraylength, 1) := by decide +kernel
theorem dX0_save_32 : decode cX0_save 32 = .ok (.if_icmp .lt 4, 3) := by decide +kernel
theorem dX0_save_35 : decode cX0_save 35 = .ok (.return_, 1) := by decide +kernel
theorem dX0_save_36 : decode cX0_save 36 = .ok (.aload_n 0, 1) := by decide +kernel
theorem dX0_save_37 : decode cX0_save 37 = .ok (.getfield 11, 3) := by decide +kernel
theorem dX0_save_40 : decode cX0_save 40 = .ok (.aload_n 0, 1) := by decide +kernel
theorem dX0_save_41 : decode cX0_save 41 = .ok (.getfield 17, 3) := by decide +kernel
theorem dX0_save_44 : decode cX0_save 44 = .ok (.aaload, 1) := by decide +kernel
theorem dX0_save_45 : decode cX0_save 45 = .ok (.astore_n 2, 1) := by decide +kernel
theorem dX0_save_46 : decode cX0_save 46 = .ok (.aload_n 2, 1) := by decide +kernel
theorem dX0_save_47 : decode cX0_save 47 = .ok (.ifnonnull 21, 3) := by decide +kernel
theorem dX0_save_50 : decode cX0_save 50 = .ok (.new 9, 3) := by decide +kernel
theorem dX0_save_53 : decode cX0_save 53 = .ok (.dup, 1) := by decide +kernel
theorem dX0_save_54 : decode cX0_save 54 = .ok (.invokespecial 24, 3) := by decide +kernel
theorem dX0_save_57 : decode cX0_save 57 = .ok (.astore_n 2, 1) := by decide +kernel
theorem dX0_save_58 : decode cX0_save 58 = .ok (.aload_n 0, 1) := by decide +kernel
theorem dX0_save_59 : decode cX0_save 59 = .ok (.getfield 11, 3) := by decide +kernel
theorem dX0_save_62 : decode cX0_save 62 = .ok (.aload_n 0, 1) := by decide +kernel
theorem dX0_save_63 : decode cX0_save 63 = .ok (.getfield 17, 3) := by decide +kernel
theorem dX0_save_66 : decode cX0_save 66 = .ok (.aload_n 2, 1) := by decide +kernel
theorem dX0_save_67 : decode cX0_save 67 = .ok (.aastore, 1) := by decide +kernel
theorem dX0_save_68 : decode cX0_save 68 = .ok (.aload_n 2, 1) := by decide +kernel
theorem dX0_save_69 : decode cX0_save 69 = .ok (.aload_n 1, 1) := by decide +kernel
theorem dX0_save_70 : decode cX0_save 70 = .ok (.invokevirtual 25, 3) := by decide +kernel
theorem dX0_save_73 : decode cX0_save 73 = .ok (.aload_n 0, 1) := by decide +kernel
theorem dX0_save_74 : decode cX0_save 74 = .ok (.dup, 1) := by decide +kernel
theorem dX0_save_75 : decode cX0_save 75 = .ok (.getfield 17, 3) := by decide +kernel
theorem dX0_save_78 : decode cX0_save 78 = .ok (.iconst 1, 1) := by decide +kernel
theorem dX0_save_79 : decode cX0_save 79 = .ok (.iadd, 1) := by decide +kernel
theorem dX0_save_80 : decode cX0_save 80 = .ok (.putfield 17, 3) := by decide +kernel
theorem dX0_save_83 : decode cX0_save 83 = .ok (.return_, 1) := by decide +kernel
theorem dX0_dropOldest_0 : decode cX0_dropOldest 0 = .ok (.aload_n 0, 1) := by decide +kernel
theorem dX0_dropOldest_1 : decode cX0_dropOldest 1 = .ok (.getfield 11, 3) := by decide +kernel
theorem dX0_dropOldest_4 : decode cX0_dropOldest 4 = .ok (.arraylength, 1) := by decide +kernel
theorem dX0_dropOldest_5 : decode cX0_dropOldest 5 = .ok (.ifCond .ne 4, 3) := by decide +kernel
theorem dX0_dropOldest_8 : decode cX0_dropOldest 8 = .ok (.return_, 1) := by decide +kernel
theorem dX0_dropOldest_9 : decode cX0_dropOldest 9 = .ok (.aload_n 0, 1) := by decide +kernel
theorem dX0_dropOldest_10 : decode cX0_dropOldest 10 = .ok (.getfield 11, 3) := by decide +kernel
theorem dX0_dropOldest_13 : decode cX0_dropOldest 13 = .ok (.iconst 0, 1) := by decide +kernel
theorem dX0_dropOldest_14 : decode cX0_dropOldest 14 = .ok (.aaload, 1) := by decide +kernel
theorem dX0_dropOldest_15 : decode cX0_dropOldest 15 = .ok (.astore_n 1, 1) := by decide +kernel
theorem dX0_dropOldest_16 : decode cX0_dropOldest 16 = .ok (.iconst 1, 1) := by decide +kernel
theorem dX0_dropOldest_17 : decode cX0_dropOldest 17 = .ok (.istore_n 2, 1) := by decide +kernel
theorem dX0_dropOldest_18 : decode cX0_dropOldest 18 = .ok (.iload_n 2, 1) := by decide +kernel
theorem dX0_dropOldest_19 : decode cX0_dropOldest 19 = .ok (.aload_n 0, 1) := by decide +kernel
theorem dX0_dropOldest_20 : decode cX0_dropOldest 20 = .ok (.getfield 11, 3) := by decide +kernel
theorem dX0_dropOldest_23 : decode cX0_dropOldest 23 = .ok (.arraylength, 1) := by decide +kernel
theorem dX0_dropOldest_24 : decode cX0_dropOldest 24 = .ok (.if_icmp .ge 23, 3) := by decide +kernel
theorem dX0_dropOldest_27 : decode cX0_dropOldest 27 = .ok (.aload_n 0, 1) := by decide +kernel
theorem dX0_dropOldest_28 : decode cX0_dropOldest 28 = .ok (.getfield 11, 3) := by decide +kernel
theorem dX0_dropOldest_31 : decode cX0_dropOldest 31 = .ok (.iload_n 2, 1) := by decide +kernel
theorem dX0_dropOldest_32 : decode cX0_dropOldest 32 = .ok (.iconst 1, 1) := by decide +kernel
theorem dX0_dropOldest_33 : decode cX0_dropOldest 33 = .ok (.isub, 1) := by decide +kernel
theorem dX0_dropOldest_34 : decode cX0_dropOldest 34 = .ok (.aload_n 0, 1) := by decide +kernel
theorem dX0_dropOldest_35 : decode cX0_dropOldest 35 = .ok (.getfield 11, 3) := by decide +kernel
theorem dX0_dropOldest_38 : decode cX0_dropOldest 38 = .ok (.iload_n 2, 1) := by decide +kernel
theorem dX0_dropOldest_39 : decode cX0_dropOldest 39 = .ok (.aaload, 1) := by decide +kernel
theorem dX0_dropOldest_40 : decode cX0_dropOldest 40 = .ok (.aastore, 1) := by decide +kernel
theorem dX0_dropOldest_41 : decode cX0_dropOldest 41 = .ok (.iinc 2 1, 3) := by decide +kernel
theorem dX0_dropOldest_44 : decode cX0_dropOldest 44 = .ok (.goto (-26), 3) := by decide +kernel
theorem dX0_dropOldest_47 : decode cX0_dropOldest 47 = .ok (.aload_n 0, 1) := by decide +kernel
theorem dX0_dropOldest_48 : decode cX0_dropOldest 48 = .ok (.getfield 11, 3) := by decide +kernel
theorem dX0_dropOldest_51 : decode cX0_dropOldest 51 = .ok (.aload_n 0, 1) := by decide +kernel
theorem dX0_dropOldest_52 : decode cX0_dropOldest 52 = .ok (.getfield 11, 3) := by decide +kernel
theorem dX0_dropOldest_55 : decode cX0_dropOldest 55 = .ok (.arraylength, 1) := by decide +kernel
theorem dX0_dropOldest_56 : decode cX0_dropOldest 56 = .ok (.iconst 1, 1) := by decide +kernel
theorem dX0_dropOldest_57 : decode cX0_dropOldest 57 = .ok (.isub, 1) := by decide +kernel
theorem dX0_dropOldest_58 : decode cX0_dropOldest 58 = .ok (.aload_n 1, 1) := by decide +kernel
theorem dX0_dropOldest_59 : decode cX0_dropOldest 59 = .ok (.aastore, 1) := by decide +kernel
theorem dX0_dropOldest_60 : decode cX0_dropOldest 60 = .ok (.aload_n 0, 1) := by decide +kernel
theorem dX0_dropOldest_61 : decode cX0_dropOldest 61 = .ok (.aload_n 0, 1) := by decide +kernel
theorem dX0_dropOldest_62 : decode cX0_dropOldest 62 = .ok (.getfield 11, 3) := by decide +kernel
theorem dX0_dropOldest_65 : decode cX0_dropOldest 65 = .ok (.arraylength, 1) := by decide +kernel
theorem dX0_dropOldest_66 : decode cX0_dropOldest 66 = .ok (.iconst 1, 1) := by decide +kernel
theorem dX0_dropOldest_67 : decode cX0_dropOldest 67 = .ok (.isub, 1) := by decide +kernel
theorem dX0_dropOldest_68 : decode cX0_dropOldest 68 = .ok (.putfield 17, 3) := by decide +kernel
theorem dX0_dropOldest_71 : decode cX0_dropOldest 71 = .ok (.return_, 1) := by decide +kernel
theorem dX0_takeLatest_0 : decode cX0_takeLatest 0 = .ok (.aload_n 0, 1) := by decide +kernel
theorem dX0_takeLatest_1 : decode cX0_takeLatest 1 = .ok (.getfield 17, 3) := by decide +kernel
theorem dX0_takeLatest_4 : decode cX0_takeLatest 4 = .ok (.ifCond .le 15, 3) := by decide +kernel
theorem dX0_takeLatest_7 : decode cX0_takeLatest 7 = .ok (.aload_n 0, 1) := by decide +kernel
theorem dX0_takeLatest_8 : decode cX0_takeLatest 8 = .ok (.getfield 17, 3) := by decide +kernel
theorem dX0_takeLatest_11 : decode cX0_takeLatest 11 = .ok (.aload_n 0, 1) := by decide +kernel
theorem dX0_takeLatest_12 : decode cX0_takeLatest 12 = .ok (.getfield 11, 3) := by decide +kernel
theorem dX0_takeLatest_15 : decode cX0_takeLatest 15 = .ok (.arraylength, 1) := by decide +kernel
theorem dX0_takeLatest_16 : decode cX0_takeLatest 16 = .ok (.if_icmp .le 5, 3) := by decide +kernel
theorem dX0_takeLatest_19 : decode cX0_takeLatest 19 = .ok (.aconst_null, 1) := by decide +kernel
theorem dX0_takeLatest_20 : decode cX0_takeLatest 20 = .ok (.areturn, 1) := by decide +kernel
theorem dX0_takeLatest_21 : decode cX0_takeLatest 21 = .ok (.aload_n 0, 1) := by decide +kernel
theorem dX0_takeLatest_22 : decode cX0_takeLatest 22 = .ok (.dup, 1) := by decide +kernel
theorem dX0_takeLatest_23 : decode cX0_takeLatest 23 = .ok (.getfield 17, 3) := by decide +kernel
theorem dX0_takeLatest_26 : decode cX0_takeLatest 26 = .ok (.iconst 1, 1) := by decide +kernel
theorem dX0_takeLatest_27 : decode cX0_takeLatest 27 = .ok (.isub, 1) := by decide +kernel
theorem dX0_takeLatest_28 : decode cX0_takeLatest 28 = .ok (.putfield 17, 3) := by decide +kernel
theorem dX0_takeLatest_31 : decode cX0_takeLatest 31 = .ok (.aload_n 0, 1) := by decide +kernel
theorem dX0_takeLatest_32 : decode cX0_takeLatest 32 = .ok (.getfield 11, 3) := by decide +kernel
theorem dX0_takeLatest_35 : decode cX0_takeLatest 35 = .ok (.aload_n 0, 1) := by decide +kernel
theorem dX0_takeLatest_36 : decode cX0_takeLatest 36 = .ok (.getfield 17, 3) := by decide +kernel
theorem dX0_takeLatest_39 : decode cX0_takeLatest 39 = .ok (.aaload, 1) := by decide +kernel
theorem dX0_takeLatest_40 : decode cX0_takeLatest 40 = .ok (.areturn, 1) := by decide +kernel
set_option maxRecDepth 20000 in
theorem ggX1_init_X2_init : GoodIn wsX1_init wsX2_init := goodIn_r _ [14, 15, 2, 3, 16, 17, 18, 19, 20, 21, 22, 23, 24] (by decide +kernel) (by decide +kernel)
set_option maxRecDepth 20000 in
theorem gX1_init_X2_init : GoodIn wsX1_init (wsX2_init) := ggX1_init_X2_init
theorem dX1_init_0 : decode cX1_init 0 = .ok (.aload_n 0, 1) := by decide +kernel
theorem dX1_init_1 : decode cX1_init 1 = .ok (.invokespecial 3, 3) := by decide +kernel
theorem dX1_init_4 : decode cX1_init 4 = .ok (.aload_n 0, 1) := by decide +kernel
theorem dX1_init_5 : decode cX1_init 5 = .ok (.new 9, 3) := by decide +kernel
theorem dX1_init_8 : decode cX1_init 8 = .ok (.dup, 1) := by decide +kernel
theorem dX1_init_9 : decode cX1_init 9 = .ok (.sipush 200, 3) := by decide +kernel
theorem dX1_init_12 : decode cX1_init 12 = .ok (.invokespecial 11, 3) := by decide +kernel
theorem dX1_init_15 : decode cX1_init 15 = .ok (.putfield 14, 3) := by decide +kernel
theorem dX1_init_18 : decode cX1_init 18 = .ok (.aload_n 0, 1) := by decide +kernel
theorem dX1_init_19 : decode cX1_init 19 = .ok (.new 9, 3) := by decide +kernel
theorem dX1_init_22 : decode cX1_init 22 = .ok (.dup, 1) := by decide +kernel
theorem dX1_init_23 : decode cX1_init 23 = .ok (.bipush 40, 2) := by decide +kernel
theorem dX1_init_25 : decode cX1_init 25 = .ok (.invokespecial 11, 3) := by decide +kernel
theorem dX1_init_28 : decode cX1_init 28 = .ok (.putfield 20, 3) := by decide +kernel
theorem dX1_init_31 : decode cX1_init 31 = .ok (.aload_n 0, 1) := by decide +kernel
theorem dX1_init_32 : decode cX1_init 32 = .ok (.iconst 1, 1) := by decide +kernel
theorem dX1_init_33 : decode cX1_init 33 = .ok (.putfield 23, 3) := by decide +kernel
theorem dX1_init_36 : decode cX1_init 36 = .ok (.aload_n 0, 1) := by decide +kernel
theorem dX1_init_37 : decode cX1_init 37 = .ok (.iconst (-1), 1) := by decide +kernel
theorem dX1_init_38 : decode cX1_init 38 = .ok (.putfield 27, 3) := by decide +kernel
theorem dX1_init_41 : decode cX1_init 41 = .ok (.aload_n 0, 1) := by decide +kernel
theorem dX1_init_42 : decode cX1_init 42 = .ok (.iconst 0, 1) := by decide +kernel
theorem dX1_init_43 : decode cX1_init 43 = .ok (.putfield 30, 3) := by decide +kernel
theorem dX1_init_46 : decode cX1_init 46 = .ok (.return_, 1) := by decide +kernel
set_option maxRecDepth 20000 in
theorem ggX1_read_X1_firstClock : GoodIn wsX1_read wsX1_firstClock := goodIn_r _ [7, 8, 9, 10, 11, 12, 13, 14, 15, 16, 17, 18, 19, 6, 20, 21, 22, 23, 24, 25, 78, 79] (by decide +kernel) (by decide +kernel)
set_option maxRecDepth 20000 in
theorem gX1_read_X1_firstClock : GoodIn wsX1_read (va_wsS RX1 33 yX1_firstClock wsX1_firstClock) := goodIn_app (goodIn_of _ (by decide +kernel)) ggX1_read_X1_firstClock
set_option maxRecDepth 20000 in
theorem ggX1_read_X1_readBits : GoodIn wsX1_read wsX1_readBits := goodIn_r _ [29, 30, 1, 31, 32, 33, 15, 34, 17, 12, 13, 14, 16, 18, 19, 6, 20, 21, 22, 23, 24, 25, 35, 36, 37, 38, 73, 74, 75, 76, 77, 78, 79] (by decide +kernel) (by decide +kernel)
set_option maxRecDepth 20000 in
theorem gX1_read_X1_readBits : GoodIn wsX1_read (wsV RX1 37 RX1 yX1_readBits wsX1_readBits) := goodIn_app (goodIn_of _ (by decide +kernel)) ggX1_read_X1_readBits
set_option maxRecDepth 20000 in
theorem ggX1_read_X1_findStart : GoodIn wsX1_read wsX1_findStart := goodIn_r _ [42, 30, 12, 13, 14, 15, 16, 17, 21, 22, 23, 24, 25, 73, 74, 75, 76, 77, 78, 79] (by decide +kernel) (by decide +kernel)
set_option maxRecDepth 20000 in
theorem gX1_read_X1_findStart : GoodIn wsX1_read (wsV RX1 41 RX1 yX1_findStart wsX1_findStart) := goodIn_app (goodIn_of _ (by decide +kernel)) ggX1_read_X1_findStart
set_option maxRecDepth 20000 in
theorem ggX1_read_X1_readLetters : GoodIn wsX1_read wsX1_readLetters := goodIn_r _ [46, 47, 2, 30, 31, 32, 33, 15, 34, 17, 12, 13, 14, 16, 48, 49, 50, 6, 51, 21, 22, 23, 24, 25, 52, 53, 54, 55, 35, 36, 37, 38, 73, 74, 75, 76, 77, 78, 79] (by decide +kernel) (by decide +kernel)
set_option maxRecDepth 20000 in
theorem gX1_read_X1_readLetters : GoodIn wsX1_read (wsV RX1 45 RX1 yX1_readLetters wsX1_readLetters) := goodIn_app (goodIn_of _ (by decide +kernel)) ggX1_read_X1_readLetters
set_option maxRecDepth 20000 in
theorem ggX1_read_X1_reasonOfBits : GoodIn wsX1_read wsX1_reasonOfBits := goodIn_r _ [59, 2, 47, 12, 13, 14, 15, 16, 17, 60, 61, 62, 6, 63, 64, 65, 66, 67, 30, 52, 53, 54, 55, 21, 22, 23, 24, 25, 48, 49, 50, 51, 68, 69, 70, 71, 72, 73, 74, 75, 76, 77, 78, 79] (by decide +kernel) (by decide +kernel)
set_option maxRecDepth 20000 in
theorem gX1_read_X1_reasonOfBits : GoodIn wsX1_read (wsV RX1 48 RX1 yX1_reasonOfBits wsX1_reasonOfBits) := goodIn_app (goodIn_of _ (by decide +kernel)) ggX1_read_X1_reasonOfBits
theorem dX1_read_0 : decode cX1_read 0 = .ok (.aload_n 0, 1) := by decide +kernel
theorem dX1_read_1 : decode cX1_read 1 = .ok (.aload_n 1, 1) := by decide +kernel
theorem dX1_read_2 : decode cX1_read 2 = .ok (.iload_n 2, 1) := by decide +kernel
theorem dX1_read_3 : decode cX1_read 3 = .ok (.invokestatic 33, 3) := by decide +kernel
theorem dX1_read_6 : decode cX1_read 6 = .ok (.putfield 30, 3) := by decide +kernel
theorem dX1_read_9 : decode cX1_read 9 = .ok (.aload_n 0, 1) := by decide +kernel
theorem dX1_read_10 : decode cX1_read 10 = .ok (.aload_n 1, 1) := by decide +kernel
theorem dX1_read_11 : decode cX1_read 11 = .ok (.iload_n 2, 1) := by decide +kernel
theorem dX1_read_12 : decode cX1_read 12 = .ok (.iload_n 3, 1) := by decide +kernel
theorem dX1_read_13 : decode cX1_read 13 = .ok (.iload 4, 2) := by decide +kernel
theorem dX1_read_15 : decode cX1_read 15 = .ok (.invokevirtual 37, 3) := by decide +kernel
theorem dX1_read_18 : decode cX1_read 18 = .ok (.istore 5, 2) := by decide +kernel
theorem dX1_read_20 : decode cX1_read 20 = .ok (.aload_n 0, 1) := by decide +kernel
theorem dX1_read_21 : decode cX1_read 21 = .ok (.aload_n 0, 1) := by decide +kernel
theorem dX1_read_22 : decode cX1_read 22 = .ok (.invokevirtual 41, 3) := by decide +kernel
theorem dX1_read_25 : decode cX1_read 25 = .ok (.putfield 27, 3) := by decide +kernel
theorem dX1_read_28 : decode cX1_read 28 = .ok (.aload_n 0, 1) := by decide +kernel
theorem dX1_read_29 : decode cX1_read 29 = .ok (.invokevirtual 45, 3) := by decide +kernel
theorem dX1_read_32 : decode cX1_read 32 = .ok (.aload_n 0, 1) := by decide +kernel
theorem dX1_read_33 : decode cX1_read 33 = .ok (.iload 5, 2) := by decide +kernel
theorem dX1_read_35 : decode cX1_read 35 = .ok (.ifCond .eq 10, 3) := by decide +kernel
theorem dX1_read_38 : decode cX1_read 38 = .ok (.aload_n 0, 1) := by decide +kernel
theorem dX1_read_39 : decode cX1_read 39 = .ok (.invokevirtual 48, 3) := by decide +kernel
theorem dX1_read_42 : decode cX1_read 42 = .ok (.goto 4, 3) := by decide +kernel
theorem dX1_read_45 : decode cX1_read 45 = .ok (.iconst 5, 1) := by decide +kernel
theorem dX1_read_46 : decode cX1_read 46 = .ok (.putfield 23, 3) := by decide +kernel
theorem dX1_read_49 : decode cX1_read 49 = .ok (.return_, 1) := by decide +kernel
set_option maxRecDepth 20000 in
theorem ggX1_isCard_X2_sameAs : GoodIn wsX1_isCard wsX2_sameAs := goodIn_r _ [7, 8, 9, 10, 11, 6, 12, 13, 14, 15, 16, 17, 23, 24] (by decide +kernel) (by decide +kernel)
set_option maxRecDepth 20000 in
theorem gX1_isCard_X2_sameAs : GoodIn wsX1_isCard (wsV RX1 51 RX2 yX2_sameAs wsX2_sameAs) := goodIn_app (goodIn_of _ (by decide +kernel)) ggX1_isCard_X2_sameAs
theorem dX1_isCard_0 : decode cX1_isCard 0 = .ok (.aload_n 0, 1) := by decide +kernel
theorem dX1_isCard_1 : decode cX1_isCard 1 = .ok (.getfield 23, 3) := by decide +kernel
theorem dX1_isCard_4 : decode cX1_isCard 4 = .ok (.ifCond .ne 18, 3) := by decide +kernel
theorem dX1_isCard_7 : decode cX1_isCard 7 = .ok (.aload_n 0, 1) := by decide +kernel
theorem dX1_isCard_8 : decode cX1_isCard 8 = .ok (.getfield 20, 3) := by decide +kernel
theorem dX1_isCard_11 : decode cX1_isCard 11 = .ok (.aload_n 1, 1) := by decide +kernel
theorem dX1_isCard_12 : decode cX1_isCard 12 = .ok (.invokevirtual 51, 3) := by decide +kernel
theorem dX1_isCard_15 : decode cX1_isCard 15 = .ok (.ifCond .eq 7, 3) := by decide +kernel
theorem dX1_isCard_18 : decode cX1_isCard 18 = .ok (.iconst 1, 1) := by decide +kernel
theorem dX1_isCard_19 : decode cX1_isCard 19 = .ok (.goto 4, 3) := by decide +kernel
theorem dX1_isCard_22 : decode cX1_isCard 22 = .ok (.iconst 0, 1) := by decide +kernel
theorem dX1_isCard_23 : decode cX1_isCard 23 = .ok (.ireturn, 1) := by decide +kernel
set_option maxRecDepth 20000 in
theorem ggX1_told_X2_size : GoodIn wsX1_told wsX2_size := goodIn_r _ [10, 11, 17, 18] (by decide +kernel) (by decide +kernel)
set_option maxRecDepth 20000 in
theorem gX1_told_X2_size : GoodIn wsX1_told (wsV RX1 55 RX2 yX2_size wsX2_size) := goodIn_app (goodIn_of _ (by decide +kernel)) ggX1_told_X2_size
theorem dX1_told_0 : decode cX1_told 0 = .ok (.iload_n 1, 1) := by decide +kernel
theorem dX1_told_1 : decode cX1_told 1 = .ok (.tableswitch 57 0 3 #[31, 36, 44, 49], 31) := by decide +kernel
theorem dX1_told_32 : decode cX1_told 32 = .ok (.aload_n 0, 1) := by decide +kernel
theorem dX1_told_33 : decode cX1_told 33 = .ok (.getfield 23, 3) := by decide +kernel
theorem dX1_told_36 : decode cX1_told 36 = .ok (.ireturn, 1) := by decide +kernel
theorem dX1_told_37 : decode cX1_told 37 = .ok (.aload_n 0, 1) := by decide +kernel
theorem dX1_told_38 : decode cX1_told 38 = .ok (.getfield 14, 3) := by decide +kernel
theorem dX1_told_41 : decode cX1_told 41 = .ok (.invokevirtual 55, 3) := by decide +kernel
theorem dX1_told_44 : decode cX1_told 44 = .ok (.ireturn, 1) := by decide +kernel
theorem dX1_told_45 : decode cX1_told 45 = .ok (.aload_n 0, 1) := by decide +kernel
theorem dX1_told_46 : decode cX1_told 46 = .ok (.getfield 27, 3) := by decide +kernel
theorem dX1_told_49 : decode cX1_told 49 = .ok (.ireturn, 1) := by decide +kernel
theorem dX1_told_50 : decode cX1_told 50 = .ok (.aload_n 0, 1) := by decide +kernel
theorem dX1_told_51 : decode cX1_told 51 = .ok (.getfield 20, 3) := by decide +kernel
theorem dX1_told_54 : decode cX1_told 54 = .ok (.invokevirtual 55, 3) := by decide +kernel
theorem dX1_told_57 : decode cX1_told 57 = .ok (.ireturn, 1) := by decide +kernel
theorem dX1_told_58 : decode cX1_told 58 = .ok (.aload_n 0, 1) := by decide +kernel
theorem dX1_told_59 : decode cX1_told 59 = .ok (.getfield 30, 3) := by decide +kernel
theorem dX1_told_62 : decode cX1_told 62 = .ok (.ireturn, 1) := by decide +kernel
set_option maxRecDepth 20000 in
theorem ggX1_timeOnTheWay_X2_size : GoodIn wsX1_timeOnTheWay wsX2_size := goodIn_r _ [5, 6, 12, 13] (by decide +kernel) (by decide +kernel)
set_option maxRecDepth 20000 in
theorem gX1_timeOnTheWay_X2_size : GoodIn wsX1_timeOnTheWay (wsV RX1 55 RX2 yX2_size wsX2_size) := goodIn_app (goodIn_of _ (by decide +kernel)) ggX1_timeOnTheWay_X2_size
set_option maxRecDepth 20000 in
theorem ggX1_timeOnTheWay_X2_at : GoodIn wsX1_timeOnTheWay wsX2_at := goodIn_r _ [10, 6, 11, 12, 13] (by decide +kernel) (by decide +kernel)
set_option maxRecDepth 20000 in
theorem gX1_timeOnTheWay_X2_at : GoodIn wsX1_timeOnTheWay (wsV RX1 58 RX2 yX2_at wsX2_at) := goodIn_app (goodIn_of _ (by decide +kernel)) ggX1_timeOnTheWay_X2_at
theorem dX1_timeOnTheWay_0 : decode cX1_timeOnTheWay 0 = .ok (.aload_n 0, 1) := by decide +kernel
theorem dX1_timeOnTheWay_1 : decode cX1_timeOnTheWay 1 = .ok (.iload_n 1, 1) := by decide +kernel
theorem dX1_timeOnTheWay_2 : decode cX1_timeOnTheWay 2 = .ok (.ifCond .eq 14, 3) := by decide +kernel
theorem dX1_timeOnTheWay_5 : decode cX1_timeOnTheWay 5 = .ok (.aload_n 0, 1) := by decide +kernel
theorem dX1_timeOnTheWay_6 : decode cX1_timeOnTheWay 6 = .ok (.invokevirtual 55, 3) := by decide +kernel
theorem dX1_timeOnTheWay_9 : decode cX1_timeOnTheWay 9 = .ok (.iconst 1, 1) := by decide +kernel
theorem dX1_timeOnTheWay_10 : decode cX1_timeOnTheWay 10 = .ok (.isub, 1) := by decide +kernel
theorem dX1_timeOnTheWay_11 : decode cX1_timeOnTheWay 11 = .ok (.iload_n 2, 1) := by decide +kernel
theorem dX1_timeOnTheWay_12 : decode cX1_timeOnTheWay 12 = .ok (.isub, 1) := by decide +kernel
theorem dX1_timeOnTheWay_13 : decode cX1_timeOnTheWay 13 = .ok (.goto 4, 3) := by decide +kernel
theorem dX1_timeOnTheWay_16 : decode cX1_timeOnTheWay 16 = .ok (.iload_n 2, 1) := by decide +kernel
theorem dX1_timeOnTheWay_17 : decode cX1_timeOnTheWay 17 = .ok (.invokevirtual 58, 3) := by decide +kernel
theorem dX1_timeOnTheWay_20 : decode cX1_timeOnTheWay 20 = .ok (.ireturn, 1) := by decide +kernel
set_option maxRecDepth 20000 in
theorem ggX1_firstClock_X2_size : GoodIn wsX1_firstClock wsX2_size := goodIn_r _ [9, 10, 20, 21] (by decide +kernel) (by decide +kernel)
set_option maxRecDepth 20000 in
theorem gX1_firstClock_X2_size : GoodIn wsX1_firstClock (wsV RX1 55 RX2 yX2_size wsX2_size) := goodIn_app (goodIn_of _ (by decide +kernel)) ggX1_firstClock_X2_size
set_option maxRecDepth 20000 in
theorem ggX1_firstClock_X1_timeOnTheWay : GoodIn wsX1_firstClock wsX1_timeOnTheWay := goodIn_r _ [14, 5, 6, 7, 8, 9, 10, 15, 16, 17, 18, 19, 20, 21] (by decide +kernel) (by decide +kernel)
set_option maxRecDepth 20000 in
theorem gX1_firstClock_X1_timeOnTheWay : GoodIn wsX1_firstClock (va_wsS RX1 68 yX1_timeOnTheWay wsX1_timeOnTheWay) := goodIn_app (goodIn_of _ (by decide +kernel)) ggX1_firstClock_X1_timeOnTheWay
theorem dX1_firstClock_0 : decode cX1_firstClock 0 = .ok (.iconst 4, 1) := by decide +kernel
theorem dX1_firstClock_1 : decode cX1_firstClock 1 = .ok (.aload_n 0, 1) := by decide +kernel
theorem dX1_firstClock_2 : decode cX1_firstClock 2 = .ok (.invokevirtual 55, 3) := by decide +kernel
theorem dX1_firstClock_5 : decode cX1_firstClock 5 = .ok (.invokestatic 62, 3) := by decide +kernel
theorem dX1_firstClock_8 : decode cX1_firstClock 8 = .ok (.istore_n 2, 1) := by decide +kernel
theorem dX1_firstClock_9 : decode cX1_firstClock 9 = .ok (.iload_n 2, 1) := by decide +kernel
theorem dX1_firstClock_10 : decode cX1_firstClock 10 = .ok (.ifCond .gt 5, 3) := by decide +kernel
theorem dX1_firstClock_13 : decode cX1_firstClock 13 = .ok (.iconst 0, 1) := by decide +kernel
theorem dX1_firstClock_14 : decode cX1_firstClock 14 = .ok (.ireturn, 1) := by decide +kernel
theorem dX1_firstClock_15 : decode cX1_firstClock 15 = .ok (.iconst 0, 1) := by decide +kernel
theorem dX1_firstClock_16 : decode cX1_firstClock 16 = .ok (.istore_n 3, 1) := by decide +kernel
theorem dX1_firstClock_17 : decode cX1_firstClock 17 = .ok (.iconst 0, 1) := by decide +kernel
theorem dX1_firstClock_18 : decode cX1_firstClock 18 = .ok (.istore 4, 2) := by decide +kernel
theorem dX1_firstClock_20 : decode cX1_firstClock 20 = .ok (.iload 4, 2) := by decide +kernel
theorem dX1_firstClock_22 : decode cX1_firstClock 22 = .ok (.iload_n 2, 1) := by decide +kernel
theorem dX1_firstClock_23 : decode cX1_firstClock 23 = .ok (.if_icmp .ge 19, 3) := by decide +kernel
theorem dX1_firstClock_26 : decode cX1_firstClock 26 = .ok (.iload_n 3, 1) := by decide +kernel
theorem dX1_firstClock_27 : decode cX1_firstClock 27 = .ok (.aload_n 0, 1) := by decide +kernel
theorem dX1_firstClock_28 : decode cX1_firstClock 28 = .ok (.iload_n 1, 1) := by decide +kernel
theorem dX1_firstClock_29 : decode cX1_firstClock 29 = .ok (.iload 4, 2) := by decide +kernel
theorem dX1_firstClock_31 : decode cX1_firstClock 31 = .ok (.invokestatic 68, 3) := by decide +kernel
theorem dX1_firstClock_34 : decode cX1_firstClock 34 = .ok (.iadd, 1) := by decide +kernel
theorem dX1_firstClock_35 : decode cX1_firstClock 35 = .ok (.istore_n 3, 1) := by decide +kernel
theorem dX1_firstClock_36 : decode cX1_firstClock 36 = .ok (.iinc 4 1, 3) := by decide +kernel
theorem dX1_firstClock_39 : decode cX1_firstClock 39 = .ok (.goto (-19), 3) := by decide +kernel
theorem dX1_firstClock_42 : decode cX1_firstClock 42 = .ok (.iload_n 3, 1) := by decide +kernel
theorem dX1_firstClock_43 : decode cX1_firstClock 43 = .ok (.iload_n 2, 1) := by decide +kernel
theorem dX1_firstClock_44 : decode cX1_firstClock 44 = .ok (.idiv, 1) := by decide +kernel
theorem dX1_firstClock_45 : decode cX1_firstClock 45 = .ok (.ireturn, 1) := by decide +kernel
set_option maxRecDepth 20000 in
theorem ggX1_readBits_X2_empty : GoodIn wsX1_readBits wsX2_empty := goodIn_r _ [7, 8, 31, 32] (by decide +kernel) (by decide +kernel)
set_option maxRecDepth 20000 in
theorem gX1_readBits_X2_empty : GoodIn wsX1_readBits (wsV RX1 72 RX2 yX2_empty wsX2_empty) := goodIn_app (goodIn_of _ (by decide +kernel)) ggX1_readBits_X2_empty
set_option maxRecDepth 20000 in
theorem ggX1_readBits_X2_size : GoodIn wsX1_readBits wsX2_size := goodIn_r _ [12, 8, 31, 32] (by decide +kernel) (by decide +kernel)
set_option maxRecDepth 20000 in
theorem gX1_readBits_X2_size : GoodIn wsX1_readBits (wsV RX1 55 RX2 yX2_size wsX2_size) := goodIn_app (goodIn_of _ (by decide +kernel)) ggX1_readBits_X2_size
set_option maxRecDepth 20000 in
theorem ggX1_readBits_X1_timeOnTheWay : GoodIn wsX1_readBits wsX1_timeOnTheWay := goodIn_r _ [16, 9, 10, 11, 6, 12, 8, 17, 18, 19, 20, 21, 31, 32] (by decide +kernel) (by decide +kernel)
set_option maxRecDepth 20000 in
theorem gX1_readBits_X1_timeOnTheWay : GoodIn wsX1_readBits (va_wsS RX1 68 yX1_timeOnTheWay wsX1_timeOnTheWay) := goodIn_app (goodIn_of _ (by decide +kernel)) ggX1_readBits_X1_timeOnTheWay
set_option maxRecDepth 20000 in
theorem ggX1_readBits_X2_add : GoodIn wsX1_readBits wsX2_add := goodIn_r _ [25, 8, 21, 31, 32] (by decide +kernel) (by decide +kernel)
set_option maxRecDepth 20000 in
theorem gX1_readBits_X2_add : GoodIn wsX1_readBits (wsV RX1 75 RX2 yX2_add wsX2_add) := goodIn_app (goodIn_of _ (by decide +kernel)) ggX1_readBits_X2_add
theorem dX1_readBits_0 : decode cX1_readBits 0 = .ok (.aload_n 0, 1) := by decide +kernel
theorem dX1_readBits_1 : decode cX1_readBits 1 = .ok (.getfield 14, 3) := by decide +kernel
theorem dX1_readBits_4 : decode cX1_readBits 4 = .ok (.invokevirtual 72, 3) := by decide +kernel
theorem dX1_readBits_7 : decode cX1_readBits 7 = .ok (.iconst 0, 1) := by decide +kernel
theorem dX1_readBits_8 : decode cX1_readBits 8 = .ok (.istore 5, 2) := by decide +kernel
theorem dX1_readBits_10 : decode cX1_readBits 10 = .ok (.iload 5, 2) := by decide +kernel
theorem dX1_readBits_12 : decode cX1_readBits 12 = .ok (.aload_n 1, 1) := by decide +kernel
theorem dX1_readBits_13 : decode cX1_readBits 13 = .ok (.invokevirtual 55, 3) := by decide +kernel
theorem dX1_readBits_16 : decode cX1_readBits 16 = .ok (.if_icmp .ge 117, 3) := by decide +kernel
theorem dX1_readBits_19 : decode cX1_readBits 19 = .ok (.aload_n 0, 1) := by decide +kernel
theorem dX1_readBits_20 : decode cX1_readBits 20 = .ok (.getfield 30, 3) := by decide +kernel
theorem dX1_readBits_23 : decode cX1_readBits 23 = .ok (.iload_n 3, 1) := by decide +kernel
theorem dX1_readBits_24 : decode cX1_readBits 24 = .ok (.imul, 1) := by decide +kernel
theorem dX1_readBits_25 : decode cX1_readBits 25 = .ok (.bipush 100, 2) := by decide +kernel
theorem dX1_readBits_27 : decode cX1_readBits 27 = .ok (.idiv, 1) := by decide +kernel
theorem dX1_readBits_28 : decode cX1_readBits 28 = .ok (.istore 6, 2) := by decide +kernel
theorem dX1_readBits_30 : decode cX1_readBits 30 = .ok (.aload_n 1, 1) := by decide +kernel
theorem dX1_readBits_31 : decode cX1_readBits 31 = .ok (.iload_n 2, 1) := by decide +kernel
theorem dX1_readBits_32 : decode cX1_readBits 32 = .ok (.iload 5, 2) := by decide +kernel
theorem dX1_readBits_34 : decode cX1_readBits 34 = .ok (.invokestatic 68, 3) := by decide +kernel
theorem dX1_readBits_37 : decode cX1_readBits 37 = .ok (.istore 7, 2) := by decide +kernel
theorem dX1_readBits_39 : decode cX1_readBits 39 = .ok (.iinc 5 1, 3) := by decide +kernel
theorem dX1_readBits_42 : decode cX1_readBits 42 = .ok (.iload 7, 2) := by decide +kernel
theorem dX1_readBits_44 : decode cX1_readBits 44 = .ok (.iload 6, 2) := by decide +kernel
theorem dX1_readBits_46 : decode cX1_readBits 46 = .ok (.if_icmp .lt 15, 3) := by decide +kernel
theorem dX1_readBits_49 : decode cX1_readBits 49 = .ok (.aload_n 0, 1) := by decide +kernel
theorem dX1_readBits_50 : decode cX1_readBits 50 = .ok (.getfield 14, 3) := by decide +kernel
theorem dX1_readBits_53 : decode cX1_readBits 53 = .ok (.iconst 0, 1) := by decide +kernel
theorem dX1_readBits_54 : decode cX1_readBits 54 = .ok (.invokevirtual 75, 3) := by decide +kernel
theorem dX1_readBits_57 : decode cX1_readBits 57 = .ok (.pop, 1) := by decide +kernel
theorem dX1_readBits_58 : decode cX1_readBits 58 = .ok (.goto 49, 3) := by decide +kernel
theorem dX1_readBits_61 : decode cX1_readBits 61 = .ok (.aload_n 1, 1) := by decide +kernel
theorem dX1_readBits_62 : decode cX1_readBits 62 = .ok (.iload_n 2, 1) := by decide +kernel
theorem dX1_readBits_63 : decode cX1_readBits 63 = .ok (.iload 5, 2) := by decide +kernel
theorem dX1_readBits_65 : decode cX1_readBits 65 = .ok (.invokestatic 68, 3) := by decide +kernel
theorem dX1_readBits_68 : decode cX1_readBits 68 = .ok (.istore 8, 2) := by decide +kernel
theorem dX1_readBits_70 : decode cX1_readBits 70 = .ok (.iload 5, 2) := by decide +kernel
theorem dX1_readBits_72 : decode cX1_readBits 72 = .ok (.aload_n 1, 1) := by decide +kernel
theorem dX1_readBits_73 : decode cX1_readBits 73 = .ok (.invokevirtual 55, 3) := by decide +kernel
theorem dX1_readBits_76 : decode cX1_readBits 76 = .ok (.if_icmp .ge 10, 3) := by decide +kernel
theorem dX1_readBits_79 : decode cX1_readBits 79 = .ok (.iload 8, 2) := by decide +kernel
theorem dX1_readBits_81 : decode cX1_readBits 81 = .ok (.iload 6, 2) := by decide +kernel
theorem dX1_readBits_83 : decode cX1_readBits 83 = .ok (.if_icmp .lt 5, 3) := by decide +kernel
theorem dX1_readBits_86 : decode cX1_readBits 86 = .ok (.iconst 0, 1) := by decide +kernel
theorem dX1_readBits_87 : decode cX1_readBits 87 = .ok (.ireturn, 1) := by decide +kernel
theorem dX1_readBits_88 : decode cX1_readBits 88 = .ok (.iinc 5 1, 3) := by decide +kernel
theorem dX1_readBits_91 : decode cX1_readBits 91 = .ok (.iload 7, 2) := by decide +kernel
theorem dX1_readBits_93 : decode cX1_readBits 93 = .ok (.iload 8, 2) := by decide +kernel
theorem dX1_readBits_95 : decode cX1_readBits 95 = .ok (.iadd, 1) := by decide +kernel
theorem dX1_readBits_96 : decode cX1_readBits 96 = .ok (.istore 7, 2) := by decide +kernel
theorem dX1_readBits_98 : decode cX1_readBits 98 = .ok (.aload_n 0, 1) := by decide +kernel
theorem dX1_readBits_99 : decode cX1_readBits 99 = .ok (.getfield 14, 3) := by decide +kernel
theorem dX1_readBits_102 : decode cX1_readBits 102 = .ok (.iconst 1, 1) := by decide +kernel
theorem dX1_readBits_103 : decode cX1_readBits 103 = .ok (.invokevirtual 75, 3) := by decide +kernel
theorem dX1_readBits_106 : decode cX1_readBits 106 = .ok (.pop, 1) := by decide +kernel
theorem dX1_readBits_107 : decode cX1_readBits 107 = .ok (.aload_n 0, 1) := by decide +kernel
theorem dX1_readBits_108 : decode cX1_readBits 108 = .ok (.aload_n 0, 1) := by decide +kernel
theorem dX1_readBits_109 : decode cX1_readBits 109 = .ok (.getfield 30, 3) := by decide +kernel
theorem dX1_readBits_112 : decode cX1_readBits 112 = .ok (.bipush 100, 2) := by decide +kernel
theorem dX1_readBits_114 : decode cX1_readBits 114 = .ok (.iload 4, 2) := by decide +kernel
theorem dX1_readBits_116 : decode cX1_readBits 116 = .ok (.isub, 1) := by decide +kernel
theorem dX1_readBits_117 : decode cX1_readBits 117 = .ok (.imul, 1) := by decide +kernel
theorem dX1_readBits_118 : decode cX1_readBits 118 = .ok (.iload 7, 2) := by decide +kernel
theorem dX1_readBits_120 : decode cX1_readBits 120 = .ok (.iload 4, 2) := by decide +kernel
theorem dX1_readBits_122 : decode cX1_readBits 122 = .ok (.imul, 1) := by decide +kernel
theorem dX1_readBits_123 : decode cX1_readBits 123 = .ok (.iadd, 1) := by decide +kernel
theorem dX1_readBits_124 : decode cX1_readBits 124 = .ok (.bipush 100, 2) := by decide +kernel
theorem dX1_readBits_126 : decode cX1_readBits 126 = .ok (.idiv, 1) := by decide +kernel
theorem dX1_readBits_127 : decode cX1_readBits 127 = .ok (.putfield 30, 3) := by decide +kernel
theorem dX1_readBits_130 : decode cX1_readBits 130 = .ok (.goto (-120), 3) := by decide +kernel
theorem dX1_readBits_133 : decode cX1_readBits 133 = .ok (.iconst 1, 1) := by decide +kernel
theorem dX1_readBits_134 : decode cX1_readBits 134 = .ok (.ireturn, 1) := by decide +kernel
set_option maxRecDepth 20000 in
theorem ggX1_findStart_X2_size : GoodIn wsX1_findStart wsX2_size := goodIn_r _ [6, 7, 18, 19] (by decide +kernel) (by decide +kernel)
set_option maxRecDepth 20000 in
theorem gX1_findStart_X2_size : GoodIn wsX1_findStart (wsV RX1 55 RX2 yX2_size wsX2_size) := goodIn_app (goodIn_of _ (by decide +kernel)) ggX1_findStart_X2_size
set_option maxRecDepth 20000 in
theorem ggX1_findStart_X2_at : GoodIn wsX1_findStart wsX2_at := goodIn_r _ [11, 7, 12, 18, 19] (by decide +kernel) (by decide +kernel)
set_option maxRecDepth 20000 in
theorem gX1_findStart_X2_at : GoodIn wsX1_findStart (wsV RX1 58 RX2 yX2_at wsX2_at) := goodIn_app (goodIn_of _ (by decide +kernel)) ggX1_findStart_X2_at
theorem dX1_findStart_0 : decode cX1_findStart 0 = .ok (.iconst 0, 1) := by decide +kernel
theorem dX1_findStart_1 : decode cX1_findStart 1 = .ok (.istore_n 1, 1) := by decide +kernel
theorem dX1_findStart_2 : decode cX1_findStart 2 = .ok (.iconst 0, 1) := by decide +kernel
theorem dX1_findStart_3 : decode cX1_findStart 3 = .ok (.istore_n 2, 1) := by decide +kernel
theorem dX1_findStart_4 : decode cX1_findStart 4 = .ok (.iload_n 2, 1) := by decide +kernel
theorem dX1_findStart_5 : decode cX1_findStart 5 = .ok (.aload_n 0, 1) := by decide +kernel
theorem dX1_findStart_6 : decode cX1_findStart 6 = .ok (.getfield 14, 3) := by decide +kernel
theorem dX1_findStart_9 : decode cX1_findStart 9 = .ok (.invokevirtual 55, 3) := by decide +kernel
theorem dX1_findStart_12 : decode cX1_findStart 12 = .ok (.if_icmp .ge 40, 3) := by decide +kernel
theorem dX1_findStart_15 : decode cX1_findStart 15 = .ok (.iload_n 1, 1) := by decide +kernel
theorem dX1_findStart_16 : decode cX1_findStart 16 = .ok (.iconst 1, 1) := by decide +kernel
theorem dX1_findStart_17 : decode cX1_findStart 17 = .ok (.ishl, 1) := by decide +kernel
theorem dX1_findStart_18 : decode cX1_findStart 18 = .ok (.aload_n 0, 1) := by decide +kernel
theorem dX1_findStart_19 : decode cX1_findStart 19 = .ok (.getfield 14, 3) := by decide +kernel
theorem dX1_findStart_22 : decode cX1_findStart 22 = .ok (.iload_n 2, 1) := by decide +kernel
theorem dX1_findStart_23 : decode cX1_findStart 23 = .ok (.invokevirtual 58, 3) := by decide +kernel
theorem dX1_findStart_26 : decode cX1_findStart 26 = .ok (.ior, 1) := by decide +kernel
theorem dX1_findStart_27 : decode cX1_findStart 27 = .ok (.bipush 31, 2) := by decide +kernel
theorem dX1_findStart_29 : decode cX1_findStart 29 = .ok (.iand, 1) := by decide +kernel
theorem dX1_findStart_30 : decode cX1_findStart 30 = .ok (.istore_n 1, 1) := by decide +kernel
theorem dX1_findStart_31 : decode cX1_findStart 31 = .ok (.iload_n 2, 1) := by decide +kernel
theorem dX1_findStart_32 : decode cX1_findStart 32 = .ok (.iconst 4, 1) := by decide +kernel
theorem dX1_findStart_33 : decode cX1_findStart 33 = .ok (.if_icmp .lt 13, 3) := by decide +kernel
theorem dX1_findStart_36 : decode cX1_findStart 36 = .ok (.iload_n 1, 1) := by decide +kernel
theorem dX1_findStart_37 : decode cX1_findStart 37 = .ok (.bipush 26, 2) := by decide +kernel
theorem dX1_findStart_39 : decode cX1_findStart 39 = .ok (.if_icmp .ne 7, 3) := by decide +kernel
theorem dX1_findStart_42 : decode cX1_findStart 42 = .ok (.iload_n 2, 1) := by decide +kernel
theorem dX1_findStart_43 : decode cX1_findStart 43 = .ok (.iconst 4, 1) := by decide +kernel
theorem dX1_findStart_44 : decode cX1_findStart 44 = .ok (.isub, 1) := by decide +kernel
theorem dX1_findStart_45 : decode cX1_findStart 45 = .ok (.ireturn, 1) := by decide +kernel
theorem dX1_findStart_46 : decode cX1_findStart 46 = .ok (.iinc 2 1, 3) := by decide +kernel
theorem dX1_findStart_49 : decode cX1_findStart 49 = .ok (.goto (-45), 3) := by decide +kernel
theorem dX1_findStart_52 : decode cX1_findStart 52 = .ok (.iconst (-1), 1) := by decide +kernel
theorem dX1_findStart_53 : decode cX1_findStart 53 = .ok (.ireturn, 1) := by decide +kernel
set_option maxRecDepth 20000 in
theorem ggX1_hasGroup_X2_size : GoodIn wsX1_hasGroup wsX2_size := goodIn_r _ [6, 7, 13, 14] (by decide +kernel) (by decide +kernel)
set_option maxRecDepth 20000 in
theorem gX1_hasGroup_X2_size : GoodIn wsX1_hasGroup (wsV RX1 55 RX2 yX2_size wsX2_size) := goodIn_app (goodIn_of _ (by decide +kernel)) ggX1_hasGroup_X2_size
theorem dX1_hasGroup_0 : decode cX1_hasGroup 0 = .ok (.iload_n 1, 1) := by decide +kernel
theorem dX1_hasGroup_1 : decode cX1_hasGroup 1 = .ok (.ifCond .lt 20, 3) := by decide +kernel
theorem dX1_hasGroup_4 : decode cX1_hasGroup 4 = .ok (.iload_n 1, 1) := by decide +kernel
theorem dX1_hasGroup_5 : decode cX1_hasGroup 5 = .ok (.aload_n 0, 1) := by decide +kernel
theorem dX1_hasGroup_6 : decode cX1_hasGroup 6 = .ok (.getfield 14, 3) := by decide +kernel
theorem dX1_hasGroup_9 : decode cX1_hasGroup 9 = .ok (.invokevirtual 55, 3) := by decide +kernel
theorem dX1_hasGroup_12 : decode cX1_hasGroup 12 = .ok (.iconst 5, 1) := by decide +kernel
theorem dX1_hasGroup_13 : decode cX1_hasGroup 13 = .ok (.isub, 1) := by decide +kernel
theorem dX1_hasGroup_14 : decode cX1_hasGroup 14 = .ok (.if_icmp .gt 7, 3) := by decide +kernel
theorem dX1_hasGroup_17 : decode cX1_hasGroup 17 = .ok (.iconst 1, 1) := by decide +kernel
theorem dX1_hasGroup_18 : decode cX1_hasGroup 18 = .ok (.goto 4, 3) := by decide +kernel
theorem dX1_hasGroup_21 : decode cX1_hasGroup 21 = .ok (.iconst 0, 1) := by decide +kernel
theorem dX1_hasGroup_22 : decode cX1_hasGroup 22 = .ok (.ireturn, 1) := by decide +kernel
set_option maxRecDepth 20000 in
theorem ggX1_numberAt_X2_at : GoodIn wsX1_numberAt wsX2_at := goodIn_r _ [6, 7, 8, 14, 15] (by decide +kernel) (by decide +kernel)
set_option maxRecDepth 20000 in
theorem gX1_numberAt_X2_at : GoodIn wsX1_numberAt (wsV RX1 58 RX2 yX2_at wsX2_at) := goodIn_app (goodIn_of _ (by decide +kernel)) ggX1_numberAt_X2_at
theorem dX1_numberAt_0 : decode cX1_numberAt 0 = .ok (.iconst 0, 1) := by decide +kernel
theorem dX1_numberAt_1 : decode cX1_numberAt 1 = .ok (.istore_n 2, 1) := by decide +kernel
theorem dX1_numberAt_2 : decode cX1_numberAt 2 = .ok (.iconst 0, 1) := by decide +kernel
theorem dX1_numberAt_3 : decode cX1_numberAt 3 = .ok (.istore_n 3, 1) := by decide +kernel
theorem dX1_numberAt_4 : decode cX1_numberAt 4 = .ok (.iload_n 3, 1) := by decide +kernel
theorem dX1_numberAt_5 : decode cX1_numberAt 5 = .ok (.iconst 4, 1) := by decide +kernel
theorem dX1_numberAt_6 : decode cX1_numberAt 6 = .ok (.if_icmp .ge 24, 3) := by decide +kernel
theorem dX1_numberAt_9 : decode cX1_numberAt 9 = .ok (.iload_n 2, 1) := by decide +kernel
theorem dX1_numberAt_10 : decode cX1_numberAt 10 = .ok (.aload_n 0, 1) := by decide +kernel
theorem dX1_numberAt_11 : decode cX1_numberAt 11 = .ok (.getfield 14, 3) := by decide +kernel
theorem dX1_numberAt_14 : decode cX1_numberAt 14 = .ok (.iload_n 1, 1) := by decide +kernel
theorem dX1_numberAt_15 : decode cX1_numberAt 15 = .ok (.iload_n 3, 1) := by decide +kernel
theorem dX1_numberAt_16 : decode cX1_numberAt 16 = .ok (.iadd, 1) := by decide +kernel
theorem dX1_numberAt_17 : decode cX1_numberAt 17 = .ok (.invokevirtual 58, 3) := by decide +kernel
theorem dX1_numberAt_20 : decode cX1_numberAt 20 = .ok (.iload_n 3, 1) := by decide +kernel
theorem dX1_numberAt_21 : decode cX1_numberAt 21 = .ok (.ishl, 1) := by decide +kernel
theorem dX1_numberAt_22 : decode cX1_numberAt 22 = .ok (.iadd, 1) := by decide +kernel
theorem dX1_numberAt_23 : decode cX1_numberAt 23 = .ok (.istore_n 2, 1) := by decide +kernel
theorem dX1_numberAt_24 : decode cX1_numberAt 24 = .ok (.iinc 3 1, 3) := by decide +kernel
theorem dX1_numberAt_27 : decode cX1_numberAt 27 = .ok (.goto (-23), 3) := by decide +kernel
theorem dX1_numberAt_30 : decode cX1_numberAt 30 = .ok (.iload_n 2, 1) := by decide +kernel
theorem dX1_numberAt_31 : decode cX1_numberAt 31 = .ok (.ireturn, 1) := by decide +kernel
set_option maxRecDepth 20000 in
theorem ggX1_isOdd_X2_at : GoodIn wsX1_isOdd wsX2_at := goodIn_r _ [6, 7, 8, 14, 15] (by decide +kernel) (by decide +kernel)
set_option maxRecDepth 20000 in
theorem gX1_isOdd_X2_at : GoodIn wsX1_isOdd (wsV RX1 58 RX2 yX2_at wsX2_at) := goodIn_app (goodIn_of _ (by decide +kernel)) ggX1_isOdd_X2_at
theorem dX1_isOdd_0 : decode cX1_isOdd 0 = .ok (.iconst 0, 1) := by decide +kernel
theorem dX1_isOdd_1 : decode cX1_isOdd 1 = .ok (.istore_n 2, 1) := by decide +kernel
theorem dX1_isOdd_2 : decode cX1_isOdd 2 = .ok (.iconst 0, 1) := by decide +kernel
theorem dX1_isOdd_3 : decode cX1_isOdd 3 = .ok (.istore_n 3, 1) := by decide +kernel
theorem dX1_isOdd_4 : decode cX1_isOdd 4 = .ok (.iload_n 3, 1) := by decide +kernel
theorem dX1_isOdd_5 : decode cX1_isOdd 5 = .ok (.iconst 5, 1) := by decide +kernel
theorem dX1_isOdd_6 : decode cX1_isOdd 6 = .ok (.if_icmp .ge 22, 3) := by decide +kernel
theorem dX1_isOdd_9 : decode cX1_isOdd 9 = .ok (.iload_n 2, 1) := by decide +kernel
theorem dX1_isOdd_10 : decode cX1_isOdd 10 = .ok (.aload_n 0, 1) := by decide +kernel
theorem dX1_isOdd_11 : decode cX1_isOdd 11 = .ok (.getfield 14, 3) := by decide +kernel
theorem dX1_isOdd_14 : decode cX1_isOdd 14 = .ok (.iload_n 1, 1) := by decide +kernel
theorem dX1_isOdd_15 : decode cX1_isOdd 15 = .ok (.iload_n 3, 1) := by decide +kernel
theorem dX1_isOdd_16 : decode cX1_isOdd 16 = .ok (.iadd, 1) := by decide +kernel
theorem dX1_isOdd_17 : decode cX1_isOdd 17 = .ok (.invokevirtual 58, 3) := by decide +kernel
theorem dX1_isOdd_20 : decode cX1_isOdd 20 = .ok (.iadd, 1) := by decide +kernel
theorem dX1_isOdd_21 : decode cX1_isOdd 21 = .ok (.istore_n 2, 1) := by decide +kernel
theorem dX1_isOdd_22 : decode cX1_isOdd 22 = .ok (.iinc 3 1, 3) := by decide +kernel
theorem dX1_isOdd_25 : decode cX1_isOdd 25 = .ok (.goto (-21), 3) := by decide +kernel
theorem dX1_isOdd_28 : decode cX1_isOdd 28 = .ok (.iload_n 2, 1) := by decide +kernel
theorem dX1_isOdd_29 : decode cX1_isOdd 29 = .ok (.iconst 1, 1) := by decide +kernel
theorem dX1_isOdd_30 : decode cX1_isOdd 30 = .ok (.iand, 1) := by decide +kernel
theorem dX1_isOdd_31 : decode cX1_isOdd 31 = .ok (.iconst 1, 1) := by decide +kernel
theorem dX1_isOdd_32 : decode cX1_isOdd 32 = .ok (.if_icmp .ne 7, 3) := by decide +kernel
theorem dX1_isOdd_35 : decode cX1_isOdd 35 = .ok (.iconst 1, 1) := by decide +kernel
theorem dX1_isOdd_36 : decode cX1_isOdd 36 = .ok (.goto 4, 3) := by decide +kernel
theorem dX1_isOdd_39 : decode cX1_isOdd 39 = .ok (.iconst 0, 1) := by decide +kernel
theorem dX1_isOdd_40 : decode cX1_isOdd 40 = .ok (.ireturn, 1) := by decide +kernel
theorem dX1_placeOf_0 : decode cX1_placeOf 0 = .ok (.aload_n 0, 1) := by decide +kernel
theorem dX1_placeOf_1 : decode cX1_placeOf 1 = .ok (.getfield 27, 3) := by decide +kernel
theorem dX1_placeOf_4 : decode cX1_placeOf 4 = .ok (.iconst 5, 1) := by decide +kernel
theorem dX1_placeOf_5 : decode cX1_placeOf 5 = .ok (.iload_n 1, 1) := by decide +kernel
theorem dX1_placeOf_6 : decode cX1_placeOf 6 = .ok (.iconst 1, 1) := by decide +kernel
theorem dX1_placeOf_7 : decode cX1_placeOf 7 = .ok (.iadd, 1) := by decide +kernel
theorem dX1_placeOf_8 : decode cX1_placeOf 8 = .ok (.imul, 1) := by decide +kernel
theorem dX1_placeOf_9 : decode cX1_placeOf 9 = .ok (.iadd, 1) := by decide +kernel
theorem dX1_placeOf_10 : decode cX1_placeOf 10 = .ok (.ireturn, 1) := by decide +kernel
set_option maxRecDepth 20000 in
theorem ggX1_readLetters_X2_empty : GoodIn wsX1_readLetters wsX2_empty := goodIn_r _ [8, 9, 37, 38] (by decide +kernel) (by decide +kernel)
set_option maxRecDepth 20000 in
theorem gX1_readLetters_X2_empty : GoodIn wsX1_readLetters (wsV RX1 72 RX2 yX2_empty wsX2_empty) := goodIn_app (goodIn_of _ (by decide +kernel)) ggX1_readLetters_X2_empty
set_option maxRecDepth 20000 in
theorem ggX1_readLetters_X2_size : GoodIn wsX1_readLetters wsX2_size := goodIn_r _ [13, 9, 37, 38] (by decide +kernel) (by decide +kernel)
set_option maxRecDepth 20000 in
theorem gX1_readLetters_X2_size : GoodIn wsX1_readLetters (wsV RX1 55 RX2 yX2_size wsX2_size) := goodIn_app (goodIn_of _ (by decide +kernel)) ggX1_readLetters_X2_size
set_option maxRecDepth 20000 in
theorem ggX1_readLetters_X1_numberAt : GoodIn wsX1_readLetters wsX1_numberAt := goodIn_r _ [18, 3, 19, 20, 21, 7, 22, 9, 23, 32, 33, 34, 35, 36, 37, 38] (by decide +kernel) (by decide +kernel)
set_option maxRecDepth 20000 in
theorem gX1_readLetters_X1_numberAt : GoodIn wsX1_readLetters (wsV RX1 79 RX1 yX1_numberAt wsX1_numberAt) := goodIn_app (goodIn_of _ (by decide +kernel)) ggX1_readLetters_X1_numberAt
set_option maxRecDepth 20000 in
theorem ggX1_readLetters_X1_isOdd : GoodIn wsX1_readLetters wsX1_isOdd := goodIn_r _ [27, 3, 19, 20, 21, 7, 22, 9, 23, 32, 33, 34, 35, 36, 37, 38] (by decide +kernel) (by decide +kernel)
set_option maxRecDepth 20000 in
theorem gX1_readLetters_X1_isOdd : GoodIn wsX1_readLetters (wsV RX1 82 RX1 yX1_isOdd wsX1_isOdd) := goodIn_app (goodIn_of _ (by decide +kernel)) ggX1_readLetters_X1_isOdd
set_option maxRecDepth 20000 in
theorem ggX1_readLetters_X2_add : GoodIn wsX1_readLetters wsX2_add := goodIn_r _ [31, 9, 23, 37, 38] (by decide +kernel) (by decide +kernel)
set_option maxRecDepth 20000 in
theorem gX1_readLetters_X2_add : GoodIn wsX1_readLetters (wsV RX1 75 RX2 yX2_add wsX2_add) := goodIn_app (goodIn_of _ (by decide +kernel)) ggX1_readLetters_X2_add
theorem dX1_readLetters_0 : decode cX1_readLetters 0 = .ok (.aload_n 0, 1) := by decide +kernel
theorem dX1_readLetters_1 : decode cX1_readLetters 1 = .ok (.getfield 20, 3) := by decide +kernel
theorem dX1_readLetters_4 : decode cX1_readLetters 4 = .ok (.invokevirtual 72, 3) := by decide +kernel
theorem dX1_readLetters_7 : decode cX1_readLetters 7 = .ok (.aload_n 0, 1) := by decide +kernel
theorem dX1_readLetters_8 : decode cX1_readLetters 8 = .ok (.getfield 27, 3) := by decide +kernel
theorem dX1_readLetters_11 : decode cX1_readLetters 11 = .ok (.iconst (-1), 1) := by decide +kernel
theorem dX1_readLetters_12 : decode cX1_readLetters 12 = .ok (.if_icmp .ne 4, 3) := by decide +kernel
theorem dX1_readLetters_15 : decode cX1_readLetters 15 = .ok (.return_, 1) := by decide +kernel
theorem dX1_readLetters_16 : decode cX1_readLetters 16 = .ok (.aload_n 0, 1) := by decide +kernel
theorem dX1_readLetters_17 : decode cX1_readLetters 17 = .ok (.getfield 27, 3) := by decide +kernel
theorem dX1_readLetters_20 : decode cX1_readLetters 20 = .ok (.iconst 5, 1) := by decide +kernel
theorem dX1_readLetters_21 : decode cX1_readLetters 21 = .ok (.iadd, 1) := by decide +kernel
theorem dX1_readLetters_22 : decode cX1_readLetters 22 = .ok (.istore_n 1, 1) := by decide +kernel
theorem dX1_readLetters_23 : decode cX1_readLetters 23 = .ok (.iload_n 1, 1) := by decide +kernel
theorem dX1_readLetters_24 : decode cX1_readLetters 24 = .ok (.aload_n 0, 1) := by decide +kernel
theorem dX1_readLetters_25 : decode cX1_readLetters 25 = .ok (.getfield 14, 3) := by decide +kernel
theorem dX1_readLetters_28 : decode cX1_readLetters 28 = .ok (.invokevirtual 55, 3) := by decide +kernel
theorem dX1_readLetters_31 : decode cX1_readLetters 31 = .ok (.iconst 5, 1) := by decide +kernel
theorem dX1_readLetters_32 : decode cX1_readLetters 32 = .ok (.isub, 1) := by decide +kernel
theorem dX1_readLetters_33 : decode cX1_readLetters 33 = .ok (.if_icmp .gt 39, 3) := by decide +kernel
theorem dX1_readLetters_36 : decode cX1_readLetters 36 = .ok (.aload_n 0, 1) := by decide +kernel
theorem dX1_readLetters_37 : decode cX1_readLetters 37 = .ok (.iload_n 1, 1) := by decide +kernel
theorem dX1_readLetters_38 : decode cX1_readLetters 38 = .ok (.invokevirtual 79, 3) := by decide +kernel
theorem dX1_readLetters_41 : decode cX1_readLetters 41 = .ok (.istore_n 2, 1) := by decide +kernel
theorem dX1_readLetters_42 : decode cX1_readLetters 42 = .ok (.iload_n 2, 1) := by decide +kernel
theorem dX1_readLetters_43 : decode cX1_readLetters 43 = .ok (.bipush 15, 2) := by decide +kernel
theorem dX1_readLetters_45 : decode cX1_readLetters 45 = .ok (.if_icmp .eq 11, 3) := by decide +kernel
theorem dX1_readLetters_48 : decode cX1_readLetters 48 = .ok (.aload_n 0, 1) := by decide +kernel
theorem dX1_readLetters_49 : decode cX1_readLetters 49 = .ok (.iload_n 1, 1) := by decide +kernel
theorem dX1_readLetters_50 : decode cX1_readLetters 50 = .ok (.invokevirtual 82, 3) := by decide +kernel
theorem dX1_readLetters_53 : decode cX1_readLetters 53 = .ok (.ifCond .ne 4, 3) := by decide +kernel
theorem dX1_readLetters_56 : decode cX1_readLetters 56 = .ok (.return_, 1) := by decide +kernel
theorem dX1_readLetters_57 : decode cX1_readLetters 57 = .ok (.aload_n 0, 1) := by decide +kernel
theorem dX1_readLetters_58 : decode cX1_readLetters 58 = .ok (.getfield 20, 3) := by decide +kernel
theorem dX1_readLetters_61 : decode cX1_readLetters 61 = .ok (.iload_n 2, 1) := by decide +kernel
theorem dX1_readLetters_62 : decode cX1_readLetters 62 = .ok (.invokevirtual 75, 3) := by decide +kernel
theorem dX1_readLetters_65 : decode cX1_readLetters 65 = .ok (.pop, 1) := by decide +kernel
theorem dX1_readLetters_66 : decode cX1_readLetters 66 = .ok (.iinc 1 5, 3) := by decide +kernel
theorem dX1_readLetters_69 : decode cX1_readLetters 69 = .ok (.goto (-46), 3) := by decide +kernel
theorem dX1_readLetters_72 : decode cX1_readLetters 72 = .ok (.return_, 1) := by decide +kernel
set_option maxRecDepth 20000 in
theorem ggX1_reasonOfBits_X2_size : GoodIn wsX1_reasonOfBits wsX2_size := goodIn_r _ [7, 8, 42, 43] (by decide +kernel) (by decide +kernel)
set_option maxRecDepth 20000 in
theorem gX1_reasonOfBits_X2_size : GoodIn wsX1_reasonOfBits (wsV RX1 55 RX2 yX2_size wsX2_size) := goodIn_app (goodIn_of _ (by decide +kernel)) ggX1_reasonOfBits_X2_size
set_option maxRecDepth 20000 in
theorem ggX1_reasonOfBits_X1_placeOf : GoodIn wsX1_reasonOfBits wsX1_placeOf := goodIn_r _ [13, 1, 37, 38, 39, 40, 41] (by decide +kernel) (by decide +kernel)
set_option maxRecDepth 20000 in
theorem gX1_reasonOfBits_X1_placeOf : GoodIn wsX1_reasonOfBits (wsV RX1 85 RX1 yX1_placeOf wsX1_placeOf) := goodIn_app (goodIn_of _ (by decide +kernel)) ggX1_reasonOfBits_X1_placeOf
set_option maxRecDepth 20000 in
theorem ggX1_reasonOfBits_X1_hasGroup : GoodIn wsX1_reasonOfBits wsX1_hasGroup := goodIn_r _ [17, 18, 3, 4, 5, 6, 7, 8, 37, 38, 39, 40, 41, 42, 43] (by decide +kernel) (by decide +kernel)
set_option maxRecDepth 20000 in
theorem gX1_reasonOfBits_X1_hasGroup : GoodIn wsX1_reasonOfBits (wsV RX1 88 RX1 yX1_hasGroup wsX1_hasGroup) := goodIn_app (goodIn_of _ (by decide +kernel)) ggX1_reasonOfBits_X1_hasGroup
set_option maxRecDepth 20000 in
theorem ggX1_reasonOfBits_X1_isOdd : GoodIn wsX1_reasonOfBits wsX1_isOdd := goodIn_r _ [22, 18, 23, 24, 25, 6, 26, 8, 27, 37, 38, 39, 40, 41, 42, 43] (by decide +kernel) (by decide +kernel)
set_option maxRecDepth 20000 in
theorem gX1_reasonOfBits_X1_isOdd : GoodIn wsX1_reasonOfBits (wsV RX1 82 RX1 yX1_isOdd wsX1_isOdd) := goodIn_app (goodIn_of _ (by decide +kernel)) ggX1_reasonOfBits_X1_isOdd
set_option maxRecDepth 20000 in
theorem ggX1_reasonOfBits_X1_numberAt : GoodIn wsX1_reasonOfBits wsX1_numberAt := goodIn_r _ [31, 18, 23, 24, 25, 6, 26, 8, 27, 37, 38, 39, 40, 41, 42, 43] (by decide +kernel) (by decide +kernel)
set_option maxRecDepth 20000 in
theorem gX1_reasonOfBits_X1_numberAt : GoodIn wsX1_reasonOfBits (wsV RX1 79 RX1 yX1_numberAt wsX1_numberAt) := goodIn_app (goodIn_of _ (by decide +kernel)) ggX1_reasonOfBits_X1_numberAt
set_option maxRecDepth 20000 in
theorem ggX1_reasonOfBits_X5_checkOf : GoodIn wsX1_reasonOfBits wsX5_checkOf := goodIn_r _ [34, 35, 4, 5, 6, 7, 8, 36, 24, 25, 26, 27, 42, 43] (by decide +kernel) (by decide +kernel)
set_option maxRecDepth 20000 in
theorem gX1_reasonOfBits_X5_checkOf_n91 : GoodIn wsX1_reasonOfBits (wsX5_checkOf) := ggX1_reasonOfBits_X5_checkOf
theorem dX1_reasonOfBits_0 : decode cX1_reasonOfBits 0 = .ok (.aload_n 0, 1) := by decide +kernel
theorem dX1_reasonOfBits_1 : decode cX1_reasonOfBits 1 = .ok (.getfield 27, 3) := by decide +kernel
theorem dX1_reasonOfBits_4 : decode cX1_reasonOfBits 4 = .ok (.iconst (-1), 1) := by decide +kernel
theorem dX1_reasonOfBits_5 : decode cX1_reasonOfBits 5 = .ok (.if_icmp .ne 5, 3) := by decide +kernel
theorem dX1_reasonOfBits_8 : decode cX1_reasonOfBits 8 = .ok (.iconst 1, 1) := by decide +kernel
theorem dX1_reasonOfBits_9 : decode cX1_reasonOfBits 9 = .ok (.ireturn, 1) := by decide +kernel
theorem dX1_reasonOfBits_10 : decode cX1_reasonOfBits 10 = .ok (.aload_n 0, 1) := by decide +kernel
theorem dX1_reasonOfBits_11 : decode cX1_reasonOfBits 11 = .ok (.aload_n 0, 1) := by decide +kernel
theorem dX1_reasonOfBits_12 : decode cX1_reasonOfBits 12 = .ok (.getfield 20, 3) := by decide +kernel
theorem dX1_reasonOfBits_15 : decode cX1_reasonOfBits 15 = .ok (.invokevirtual 55, 3) := by decide +kernel
theorem dX1_reasonOfBits_18 : decode cX1_reasonOfBits 18 = .ok (.invokevirtual 85, 3) := by decide +kernel
theorem dX1_reasonOfBits_21 : decode cX1_reasonOfBits 21 = .ok (.istore_n 1, 1) := by decide +kernel
theorem dX1_reasonOfBits_22 : decode cX1_reasonOfBits 22 = .ok (.aload_n 0, 1) := by decide +kernel
theorem dX1_reasonOfBits_23 : decode cX1_reasonOfBits 23 = .ok (.iload_n 1, 1) := by decide +kernel
theorem dX1_reasonOfBits_24 : decode cX1_reasonOfBits 24 = .ok (.invokevirtual 88, 3) := by decide +kernel
theorem dX1_reasonOfBits_27 : decode cX1_reasonOfBits 27 = .ok (.ifCond .ne 5, 3) := by decide +kernel
theorem dX1_reasonOfBits_30 : decode cX1_reasonOfBits 30 = .ok (.iconst 3, 1) := by decide +kernel
theorem dX1_reasonOfBits_31 : decode cX1_reasonOfBits 31 = .ok (.ireturn, 1) := by decide +kernel
theorem dX1_reasonOfBits_32 : decode cX1_reasonOfBits 32 = .ok (.aload_n 0, 1) := by decide +kernel
theorem dX1_reasonOfBits_33 : decode cX1_reasonOfBits 33 = .ok (.iload_n 1, 1) := by decide +kernel
theorem dX1_reasonOfBits_34 : decode cX1_reasonOfBits 34 = .ok (.invokevirtual 82, 3) := by decide +kernel
theorem dX1_reasonOfBits_37 : decode cX1_reasonOfBits 37 = .ok (.ifCond .ne 5, 3) := by decide +kernel
theorem dX1_reasonOfBits_40 : decode cX1_reasonOfBits 40 = .ok (.iconst 2, 1) := by decide +kernel
theorem dX1_reasonOfBits_41 : decode cX1_reasonOfBits 41 = .ok (.ireturn, 1) := by decide +kernel
theorem dX1_reasonOfBits_42 : decode cX1_reasonOfBits 42 = .ok (.iload_n 1, 1) := by decide +kernel
theorem dX1_reasonOfBits_43 : decode cX1_reasonOfBits 43 = .ok (.iconst 5, 1) := by decide +kernel
theorem dX1_reasonOfBits_44 : decode cX1_reasonOfBits 44 = .ok (.iadd, 1) := by decide +kernel
theorem dX1_reasonOfBits_45 : decode cX1_reasonOfBits 45 = .ok (.istore_n 2, 1) := by decide +kernel
theorem dX1_reasonOfBits_46 : decode cX1_reasonOfBits 46 = .ok (.aload_n 0, 1) := by decide +kernel
theorem dX1_reasonOfBits_47 : decode cX1_reasonOfBits 47 = .ok (.iload_n 2, 1) := by decide +kernel
theorem dX1_reasonOfBits_48 : decode cX1_reasonOfBits 48 = .ok (.invokevirtual 88, 3) := by decide +kernel
theorem dX1_reasonOfBits_51 : decode cX1_reasonOfBits 51 = .ok (.ifCond .ne 5, 3) := by decide +kernel
theorem dX1_reasonOfBits_54 : decode cX1_reasonOfBits 54 = .ok (.iconst 3, 1) := by decide +kernel
theorem dX1_reasonOfBits_55 : decode cX1_reasonOfBits 55 = .ok (.ireturn, 1) := by decide +kernel
theorem dX1_reasonOfBits_56 : decode cX1_reasonOfBits 56 = .ok (.aload_n 0, 1) := by decide +kernel
theorem dX1_reasonOfBits_57 : decode cX1_reasonOfBits 57 = .ok (.iload_n 2, 1) := by decide +kernel
theorem dX1_reasonOfBits_58 : decode cX1_reasonOfBits 58 = .ok (.invokevirtual 82, 3) := by decide +kernel
theorem dX1_reasonOfBits_61 : decode cX1_reasonOfBits 61 = .ok (.ifCond .ne 5, 3) := by decide +kernel
theorem dX1_reasonOfBits_64 : decode cX1_reasonOfBits 64 = .ok (.iconst 2, 1) := by decide +kernel
theorem dX1_reasonOfBits_65 : decode cX1_reasonOfBits 65 = .ok (.ireturn, 1) := by decide +kernel
theorem dX1_reasonOfBits_66 : decode cX1_reasonOfBits 66 = .ok (.aload_n 0, 1) := by decide +kernel
theorem dX1_reasonOfBits_67 : decode cX1_reasonOfBits 67 = .ok (.iload_n 2, 1) := by decide +kernel
theorem dX1_reasonOfBits_68 : decode cX1_reasonOfBits 68 = .ok (.invokevirtual 79, 3) := by decide +kernel
theorem dX1_reasonOfBits_71 : decode cX1_reasonOfBits 71 = .ok (.aload_n 0, 1) := by decide +kernel
theorem dX1_reasonOfBits_72 : decode cX1_reasonOfBits 72 = .ok (.getfield 20, 3) := by decide +kernel
theorem dX1_reasonOfBits_75 : decode cX1_reasonOfBits 75 = .ok (.invokestatic 91, 3) := by decide +kernel
theorem dX1_reasonOfBits_78 : decode cX1_reasonOfBits 78 = .ok (.if_icmp .eq 5, 3) := by decide +kernel
theorem dX1_reasonOfBits_81 : decode cX1_reasonOfBits 81 = .ok (.iconst 4, 1) := by decide +kernel
theorem dX1_reasonOfBits_82 : decode cX1_reasonOfBits 82 = .ok (.ireturn, 1) := by decide +kernel
theorem dX1_reasonOfBits_83 : decode cX1_reasonOfBits 83 = .ok (.aload_n 0, 1) := by decide +kernel
theorem dX1_reasonOfBits_84 : decode cX1_reasonOfBits 84 = .ok (.getfield 20, 3) := by decide +kernel
theorem dX1_reasonOfBits_87 : decode cX1_reasonOfBits 87 = .ok (.invokevirtual 55, 3) := by decide +kernel
theorem dX1_reasonOfBits_90 : decode cX1_reasonOfBits 90 = .ok (.ifCond .ne 8, 3) := by decide +kernel
theorem dX1_reasonOfBits_93 : decode cX1_reasonOfBits 93 = .ok (.bipush 6, 2) := by decide +kernel
theorem dX1_reasonOfBits_95 : decode cX1_reasonOfBits 95 = .ok (.goto 4, 3) := by decide +kernel
theorem dX1_reasonOfBits_98 : decode cX1_reasonOfBits 98 = .ok (.iconst 0, 1) := by decide +kernel
theorem dX1_reasonOfBits_99 : decode cX1_reasonOfBits 99 = .ok (.ireturn, 1) := by decide +kernel
set_option maxRecDepth 20000 in
theorem ggX1_groupsAheadOfOddEnd_X2_size : GoodIn wsX1_groupsAheadOfOddEnd wsX2_size := goodIn_r _ [7, 8, 28, 29] (by decide +kernel) (by decide +kernel)
set_option maxRecDepth 20000 in
theorem gX1_groupsAheadOfOddEnd_X2_size : GoodIn wsX1_groupsAheadOfOddEnd (wsV RX1 55 RX2 yX2_size wsX2_size) := goodIn_app (goodIn_of _ (by decide +kernel)) ggX1_groupsAheadOfOddEnd_X2_size
set_option maxRecDepth 20000 in
theorem ggX1_groupsAheadOfOddEnd_X1_numberAt : GoodIn wsX1_groupsAheadOfOddEnd wsX1_numberAt := goodIn_r _ [13, 2, 14, 15, 16, 6, 17, 8, 18, 23, 24, 25, 26, 27, 28, 29] (by decide +kernel) (by decide +kernel)
set_option maxRecDepth 20000 in
theorem gX1_groupsAheadOfOddEnd_X1_numberAt : GoodIn wsX1_groupsAheadOfOddEnd (wsV RX1 79 RX1 yX1_numberAt wsX1_numberAt) := goodIn_app (goodIn_of _ (by decide +kernel)) ggX1_groupsAheadOfOddEnd_X1_numberAt
set_option maxRecDepth 20000 in
theorem ggX1_groupsAheadOfOddEnd_X1_isOdd : GoodIn wsX1_groupsAheadOfOddEnd wsX1_isOdd := goodIn_r _ [22, 2, 14, 15, 16, 6, 17, 8, 18, 23, 24, 25, 26, 27, 28, 29] (by decide +kernel) (by decide +kernel)
set_option maxRecDepth 20000 in
theorem gX1_groupsAheadOfOddEnd_X1_isOdd : GoodIn wsX1_groupsAheadOfOddEnd (wsV RX1 82 RX1 yX1_isOdd wsX1_isOdd) := goodIn_app (goodIn_of _ (by decide +kernel)) ggX1_groupsAheadOfOddEnd_X1_isOdd
theorem dX1_groupsAheadOfOddEnd_0 : decode cX1_groupsAheadOfOddEnd 0 = .ok (.iconst 0, 1) := by decide +kernel
theorem dX1_groupsAheadOfOddEnd_1 : decode cX1_groupsAheadOfOddEnd 1 = .ok (.istore_n 1, 1) := by decide +kernel
theorem dX1_groupsAheadOfOddEnd_2 : decode cX1_groupsAheadOfOddEnd 2 = .ok (.aload_n 0, 1) := by decide +kernel
theorem dX1_groupsAheadOfOddEnd_3 : decode cX1_groupsAheadOfOddEnd 3 = .ok (.getfield 27, 3) := by decide +kernel
theorem dX1_groupsAheadOfOddEnd_6 : decode cX1_groupsAheadOfOddEnd 6 = .ok (.iconst 5, 1) := by decide +kernel
theorem dX1_groupsAheadOfOddEnd_7 : decode cX1_groupsAheadOfOddEnd 7 = .ok (.iadd, 1) := by decide +kernel
theorem dX1_groupsAheadOfOddEnd_8 : decode cX1_groupsAheadOfOddEnd 8 = .ok (.istore_n 2, 1) := by decide +kernel
theorem dX1_groupsAheadOfOddEnd_9 : decode cX1_groupsAheadOfOddEnd 9 = .ok (.iload_n 2, 1) := by decide +kernel
theorem dX1_groupsAheadOfOddEnd_10 : decode cX1_groupsAheadOfOddEnd 10 = .ok (.aload_n 0, 1) := by decide +kernel
theorem dX1_groupsAheadOfOddEnd_11 : decode cX1_groupsAheadOfOddEnd 11 = .ok (.getfield 14, 3) := by decide +kernel
theorem dX1_groupsAheadOfOddEnd_14 : decode cX1_groupsAheadOfOddEnd 14 = .ok (.invokevirtual 55, 3) := by decide +kernel
theorem dX1_groupsAheadOfOddEnd_17 : decode cX1_groupsAheadOfOddEnd 17 = .ok (.iconst 5, 1) := by decide +kernel
theorem dX1_groupsAheadOfOddEnd_18 : decode cX1_groupsAheadOfOddEnd 18 = .ok (.isub, 1) := by decide +kernel
theorem dX1_groupsAheadOfOddEnd_19 : decode cX1_groupsAheadOfOddEnd 19 = .ok (.if_icmp .gt 32, 3) := by decide +kernel
theorem dX1_groupsAheadOfOddEnd_22 : decode cX1_groupsAheadOfOddEnd 22 = .ok (.aload_n 0, 1) := by decide +kernel
theorem dX1_groupsAheadOfOddEnd_23 : decode cX1_groupsAheadOfOddEnd 23 = .ok (.iload_n 2, 1) := by decide +kernel
theorem dX1_groupsAheadOfOddEnd_24 : decode cX1_groupsAheadOfOddEnd 24 = .ok (.invokevirtual 79, 3) := by decide +kernel
theorem dX1_groupsAheadOfOddEnd_27 : decode cX1_groupsAheadOfOddEnd 27 = .ok (.bipush 15, 2) := by decide +kernel
theorem dX1_groupsAheadOfOddEnd_29 : decode cX1_groupsAheadOfOddEnd 29 = .ok (.if_icmp .ne 13, 3) := by decide +kernel
theorem dX1_groupsAheadOfOddEnd_32 : decode cX1_groupsAheadOfOddEnd 32 = .ok (.aload_n 0, 1) := by decide +kernel
theorem dX1_groupsAheadOfOddEnd_33 : decode cX1_groupsAheadOfOddEnd 33 = .ok (.iload_n 2, 1) := by decide +kernel
theorem dX1_groupsAheadOfOddEnd_34 : decode cX1_groupsAheadOfOddEnd 34 = .ok (.invokevirtual 82, 3) := by decide +kernel
theorem dX1_groupsAheadOfOddEnd_37 : decode cX1_groupsAheadOfOddEnd 37 = .ok (.ifCond .eq 5, 3) := by decide +kernel
theorem dX1_groupsAheadOfOddEnd_40 : decode cX1_groupsAheadOfOddEnd 40 = .ok (.iload_n 1, 1) := by decide +kernel
theorem dX1_groupsAheadOfOddEnd_41 : decode cX1_groupsAheadOfOddEnd 41 = .ok (.ireturn, 1) := by decide +kernel
theorem dX1_groupsAheadOfOddEnd_42 : decode cX1_groupsAheadOfOddEnd 42 = .ok (.iinc 1 1, 3) := by decide +kernel
theorem dX1_groupsAheadOfOddEnd_45 : decode cX1_groupsAheadOfOddEnd 45 = .ok (.iinc 2 5, 3) := by decide +kernel
theorem dX1_groupsAheadOfOddEnd_48 : decode cX1_groupsAheadOfOddEnd 48 = .ok (.goto (-39), 3) := by decide +kernel
theorem dX1_groupsAheadOfOddEnd_51 : decode cX1_groupsAheadOfOddEnd 51 = .ok (.iconst (-1), 1) := by decide +kernel
theorem dX1_groupsAheadOfOddEnd_52 : decode cX1_groupsAheadOfOddEnd 52 = .ok (.ireturn, 1) := by decide +kernel
set_option maxRecDepth 20000 in
theorem ggX1_repairablePlace_X1_groupsAheadOfOddEnd : GoodIn wsX1_repairablePlace wsX1_groupsAheadOfOddEnd := goodIn_r _ [6, 7, 8, 9, 10, 11, 12, 13, 14, 15, 16, 17, 5, 18, 19, 20, 21, 22, 23, 24, 25, 26, 27, 36, 37, 38, 39, 40, 41, 42] (by decide +kernel) (by decide +kernel)
set_option maxRecDepth 20000 in
theorem gX1_repairablePlace_X1_groupsAheadOfOddEnd : GoodIn wsX1_repairablePlace (wsV RX1 95 RX1 yX1_groupsAheadOfOddEnd wsX1_groupsAheadOfOddEnd) := goodIn_app (goodIn_of _ (by decide +kernel)) ggX1_repairablePlace_X1_groupsAheadOfOddEnd
set_option maxRecDepth 20000 in
theorem ggX1_repairablePlace_X1_placeOf : GoodIn wsX1_repairablePlace wsX1_placeOf := goodIn_r _ [31, 7, 36, 37, 38, 39, 40] (by decide +kernel) (by decide +kernel)
set_option maxRecDepth 20000 in
theorem gX1_repairablePlace_X1_placeOf : GoodIn wsX1_repairablePlace (wsV RX1 85 RX1 yX1_placeOf wsX1_placeOf) := goodIn_app (goodIn_of _ (by decide +kernel)) ggX1_repairablePlace_X1_placeOf
set_option maxRecDepth 20000 in
theorem ggX1_repairablePlace_X1_hasGroup : GoodIn wsX1_repairablePlace wsX1_hasGroup := goodIn_r _ [35, 8, 9, 10, 11, 12, 13, 14, 36, 37, 38, 39, 40, 41, 42] (by decide +kernel) (by decide +kernel)
set_option maxRecDepth 20000 in
theorem gX1_repairablePlace_X1_hasGroup : GoodIn wsX1_repairablePlace (wsV RX1 88 RX1 yX1_hasGroup wsX1_hasGroup) := goodIn_app (goodIn_of _ (by decide +kernel)) ggX1_repairablePlace_X1_hasGroup
set_option maxRecDepth 20000 in
theorem ggX1_repairablePlace_X1_isOdd : GoodIn wsX1_repairablePlace wsX1_isOdd := goodIn_r _ [27, 8, 19, 20, 21, 12, 22, 14, 23, 36, 37, 38, 39, 40, 41, 42] (by decide +kernel) (by decide +kernel)
set_option maxRecDepth 20000 in
theorem gX1_repairablePlace_X1_isOdd : GoodIn wsX1_repairablePlace (wsV RX1 82 RX1 yX1_isOdd wsX1_isOdd) := goodIn_app (goodIn_of _ (by decide +kernel)) ggX1_repairablePlace_X1_isOdd
theorem dX1_repairablePlace_0 : decode cX1_repairablePlace 0 = .ok (.aload_n 0, 1) := by decide +kernel
theorem dX1_repairablePlace_1 : decode cX1_repairablePlace 1 = .ok (.getfield 23, 3) := by decide +kernel
theorem dX1_repairablePlace_4 : decode cX1_repairablePlace 4 = .ok (.iconst 2, 1) := by decide +kernel
theorem dX1_repairablePlace_5 : decode cX1_repairablePlace 5 = .ok (.if_icmp .eq 5, 3) := by decide +kernel
theorem dX1_repairablePlace_8 : decode cX1_repairablePlace 8 = .ok (.iconst (-1), 1) := by decide +kernel
theorem dX1_repairablePlace_9 : decode cX1_repairablePlace 9 = .ok (.ireturn, 1) := by decide +kernel
theorem dX1_repairablePlace_10 : decode cX1_repairablePlace 10 = .ok (.aload_n 0, 1) := by decide +kernel
theorem dX1_repairablePlace_11 : decode cX1_repairablePlace 11 = .ok (.invokevirtual 95, 3) := by decide +kernel
theorem dX1_repairablePlace_14 : decode cX1_repairablePlace 14 = .ok (.istore_n 1, 1) := by decide +kernel
theorem dX1_repairablePlace_15 : decode cX1_repairablePlace 15 = .ok (.aload_n 0, 1) := by decide +kernel
theorem dX1_repairablePlace_16 : decode cX1_repairablePlace 16 = .ok (.iload_n 1, 1) := by decide +kernel
theorem dX1_repairablePlace_17 : decode cX1_repairablePlace 17 = .ok (.iconst 1, 1) := by decide +kernel
theorem dX1_repairablePlace_18 : decode cX1_repairablePlace 18 = .ok (.iadd, 1) := by decide +kernel
theorem dX1_repairablePlace_19 : decode cX1_repairablePlace 19 = .ok (.invokevirtual 85, 3) := by decide +kernel
theorem dX1_repairablePlace_22 : decode cX1_repairablePlace 22 = .ok (.istore_n 2, 1) := by decide +kernel
theorem dX1_repairablePlace_23 : decode cX1_repairablePlace 23 = .ok (.iload_n 1, 1) := by decide +kernel
theorem dX1_repairablePlace_24 : decode cX1_repairablePlace 24 = .ok (.iconst (-1), 1) := by decide +kernel
theorem dX1_repairablePlace_25 : decode cX1_repairablePlace 25 = .ok (.if_icmp .eq 19, 3) := by decide +kernel
theorem dX1_repairablePlace_28 : decode cX1_repairablePlace 28 = .ok (.aload_n 0, 1) := by decide +kernel
theorem dX1_repairablePlace_29 : decode cX1_repairablePlace 29 = .ok (.iload_n 2, 1) := by decide +kernel
theorem dX1_repairablePlace_30 : decode cX1_repairablePlace 30 = .ok (.invokevirtual 88, 3) := by decide +kernel
theorem dX1_repairablePlace_33 : decode cX1_repairablePlace 33 = .ok (.ifCond .eq 11, 3) := by decide +kernel
theorem dX1_repairablePlace_36 : decode cX1_repairablePlace 36 = .ok (.aload_n 0, 1) := by decide +kernel
theorem dX1_repairablePlace_37 : decode cX1_repairablePlace 37 = .ok (.iload_n 2, 1) := by decide +kernel
theorem dX1_repairablePlace_38 : decode cX1_repairablePlace 38 = .ok (.invokevirtual 82, 3) := by decide +kernel
theorem dX1_repairablePlace_41 : decode cX1_repairablePlace 41 = .ok (.ifCond .ne 5, 3) := by decide +kernel
theorem dX1_repairablePlace_44 : decode cX1_repairablePlace 44 = .ok (.iconst (-1), 1) := by decide +kernel
theorem dX1_repairablePlace_45 : decode cX1_repairablePlace 45 = .ok (.ireturn, 1) := by decide +kernel
theorem dX1_repairablePlace_46 : decode cX1_repairablePlace 46 = .ok (.iconst (-1), 1) := by decide +kernel
theorem dX1_repairablePlace_47 : decode cX1_repairablePlace 47 = .ok (.istore_n 3, 1) := by decide +kernel
theorem dX1_repairablePlace_48 : decode cX1_repairablePlace 48 = .ok (.iconst 0, 1) := by decide +kernel
theorem dX1_repairablePlace_49 : decode cX1_repairablePlace 49 = .ok (.istore 4, 2) := by decide +kernel
theorem dX1_repairablePlace_51 : decode cX1_repairablePlace 51 = .ok (.iload 4, 2) := by decide +kernel
theorem dX1_repairablePlace_53 : decode cX1_repairablePlace 53 = .ok (.iload_n 1, 1) := by decide +kernel
theorem dX1_repairablePlace_54 : decode cX1_repairablePlace 54 = .ok (.if_icmp .ge 32, 3) := by decide +kernel
theorem dX1_repairablePlace_57 : decode cX1_repairablePlace 57 = .ok (.aload_n 0, 1) := by decide +kernel
theorem dX1_repairablePlace_58 : decode cX1_repairablePlace 58 = .ok (.aload_n 0, 1) := by decide +kernel
theorem dX1_repairablePlace_59 : decode cX1_repairablePlace 59 = .ok (.iload 4, 2) := by decide +kernel
theorem dX1_repairablePlace_61 : decode cX1_repairablePlace 61 = .ok (.invokevirtual 85, 3) := by decide +kernel
theorem dX1_repairablePlace_64 : decode cX1_repairablePlace 64 = .ok (.invokevirtual 82, 3) := by decide +kernel
theorem dX1_repairablePlace_67 : decode cX1_repairablePlace 67 = .ok (.ifCond .ne 13, 3) := by decide +kernel
theorem dX1_repairablePlace_70 : decode cX1_repairablePlace 70 = .ok (.iload_n 3, 1) := by decide +kernel
theorem dX1_repairablePlace_71 : decode cX1_repairablePlace 71 = .ok (.iconst (-1), 1) := by decide +kernel
theorem dX1_repairablePlace_72 : decode cX1_repairablePlace 72 = .ok (.if_icmp .eq 5, 3) := by decide +kernel
theorem dX1_repairablePlace_75 : decode cX1_repairablePlace 75 = .ok (.iconst (-1), 1) := by decide +kernel
theorem dX1_repairablePlace_76 : decode cX1_repairablePlace 76 = .ok (.ireturn, 1) := by decide +kernel
theorem dX1_repairablePlace_77 : decode cX1_repairablePlace 77 = .ok (.iload 4, 2) := by decide +kernel
theorem dX1_repairablePlace_79 : decode cX1_repairablePlace 79 = .ok (.istore_n 3, 1) := by decide +kernel
theorem dX1_repairablePlace_80 : decode cX1_repairablePlace 80 = .ok (.iinc 4 1, 3) := by decide +kernel
theorem dX1_repairablePlace_83 : decode cX1_repairablePlace 83 = .ok (.goto (-32), 3) := by decide +kernel
theorem dX1_repairablePlace_86 : decode cX1_repairablePlace 86 = .ok (.iload_n 3, 1) := by decide +kernel
theorem dX1_repairablePlace_87 : decode cX1_repairablePlace 87 = .ok (.ireturn, 1) := by decide +kernel
set_option maxRecDepth 20000 in
theorem ggX1_repairedNumber_X1_groupsAheadOfOddEnd : GoodIn wsX1_repairedNumber wsX1_groupsAheadOfOddEnd := goodIn_r _ [5, 6, 7, 8, 9, 10, 11, 12, 13, 14, 15, 16, 4, 17, 18, 19, 20, 21, 22, 23, 24, 25, 26, 31, 32, 33, 34, 35, 36, 37] (by decide +kernel) (by decide +kernel)
set_option maxRecDepth 20000 in
theorem gX1_repairedNumber_X1_groupsAheadOfOddEnd : GoodIn wsX1_repairedNumber (wsV RX1 95 RX1 yX1_groupsAheadOfOddEnd wsX1_groupsAheadOfOddEnd) := goodIn_app (goodIn_of _ (by decide +kernel)) ggX1_repairedNumber_X1_groupsAheadOfOddEnd
set_option maxRecDepth 20000 in
theorem ggX1_repairedNumber_X1_placeOf : GoodIn wsX1_repairedNumber wsX1_placeOf := goodIn_r _ [30, 6, 31, 32, 33, 34, 35] (by decide +kernel) (by decide +kernel)
set_option maxRecDepth 20000 in
theorem gX1_repairedNumber_X1_placeOf : GoodIn wsX1_repairedNumber (wsV RX1 85 RX1 yX1_placeOf wsX1_placeOf) := goodIn_app (goodIn_of _ (by decide +kernel)) ggX1_repairedNumber_X1_placeOf
set_option maxRecDepth 20000 in
theorem ggX1_repairedNumber_X1_numberAt : GoodIn wsX1_repairedNumber wsX1_numberAt := goodIn_r _ [17, 7, 18, 19, 20, 11, 21, 13, 22, 31, 32, 33, 34, 35, 36, 37] (by decide +kernel) (by decide +kernel)
set_option maxRecDepth 20000 in
theorem gX1_repairedNumber_X1_numberAt : GoodIn wsX1_repairedNumber (wsV RX1 79 RX1 yX1_numberAt wsX1_numberAt) := goodIn_app (goodIn_of _ (by decide +kernel)) ggX1_repairedNumber_X1_numberAt
theorem dX1_repairedNumber_0 : decode cX1_repairedNumber 0 = .ok (.aload_n 0, 1) := by decide +kernel
theorem dX1_repairedNumber_1 : decode cX1_repairedNumber 1 = .ok (.invokevirtual 95, 3) := by decide +kernel
theorem dX1_repairedNumber_4 : decode cX1_repairedNumber 4 = .ok (.istore_n 2, 1) := by decide +kernel
theorem dX1_repairedNumber_5 : decode cX1_repairedNumber 5 = .ok (.bipush 11, 2) := by decide +kernel
theorem dX1_repairedNumber_7 : decode cX1_repairedNumber 7 = .ok (.istore_n 3, 1) := by decide +kernel
theorem dX1_repairedNumber_8 : decode cX1_repairedNumber 8 = .ok (.iconst 0, 1) := by decide +kernel
theorem dX1_repairedNumber_9 : decode cX1_repairedNumber 9 = .ok (.istore 4, 2) := by decide +kernel
theorem dX1_repairedNumber_11 : decode cX1_repairedNumber 11 = .ok (.iload 4, 2) := by decide +kernel
theorem dX1_repairedNumber_13 : decode cX1_repairedNumber 13 = .ok (.iload_n 2, 1) := by decide +kernel
theorem dX1_repairedNumber_14 : decode cX1_repairedNumber 14 = .ok (.iconst 1, 1) := by decide +kernel
theorem dX1_repairedNumber_15 : decode cX1_repairedNumber 15 = .ok (.iadd, 1) := by decide +kernel
theorem dX1_repairedNumber_16 : decode cX1_repairedNumber 16 = .ok (.if_icmp .gt 28, 3) := by decide +kernel
theorem dX1_repairedNumber_19 : decode cX1_repairedNumber 19 = .ok (.iload 4, 2) := by decide +kernel
theorem dX1_repairedNumber_21 : decode cX1_repairedNumber 21 = .ok (.iload_n 1, 1) := by decide +kernel
theorem dX1_repairedNumber_22 : decode cX1_repairedNumber 22 = .ok (.if_icmp .eq 16, 3) := by decide +kernel
theorem dX1_repairedNumber_25 : decode cX1_repairedNumber 25 = .ok (.iload_n 3, 1) := by decide +kernel
theorem dX1_repairedNumber_26 : decode cX1_repairedNumber 26 = .ok (.aload_n 0, 1) := by decide +kernel
theorem dX1_repairedNumber_27 : decode cX1_repairedNumber 27 = .ok (.aload_n 0, 1) := by decide +kernel
theorem dX1_repairedNumber_28 : decode cX1_repairedNumber 28 = .ok (.iload 4, 2) := by decide +kernel
theorem dX1_repairedNumber_30 : decode cX1_repairedNumber 30 = .ok (.invokevirtual 85, 3) := by decide +kernel
theorem dX1_repairedNumber_33 : decode cX1_repairedNumber 33 = .ok (.invokevirtual 79, 3) := by decide +kernel
theorem dX1_repairedNumber_36 : decode cX1_repairedNumber 36 = .ok (.ixor, 1) := by decide +kernel
theorem dX1_repairedNumber_37 : decode cX1_repairedNumber 37 = .ok (.istore_n 3, 1) := by decide +kernel
theorem dX1_repairedNumber_38 : decode cX1_repairedNumber 38 = .ok (.iinc 4 1, 3) := by decide +kernel
theorem dX1_repairedNumber_41 : decode cX1_repairedNumber 41 = .ok (.goto (-30), 3) := by decide +kernel
theorem dX1_repairedNumber_44 : decode cX1_repairedNumber 44 = .ok (.iload_n 3, 1) := by decide +kernel
theorem dX1_repairedNumber_45 : decode cX1_repairedNumber 45 = .ok (.ireturn, 1) := by decide +kernel
