theorem dX2_init_0 : decode cX2_init 0 = .ok (.aload_n 0, 1) := by decide +kernel
theorem dX2_init_1 : decode cX2_init 1 = .ok (.invokespecial 3, 3) := by decide +kernel
theorem dX2_init_4 : decode cX2_init 4 = .ok (.aload_n 0, 1) := by decide +kernel
theorem dX2_init_5 : decode cX2_init 5 = .ok (.iconst 0, 1) := by decide +kernel
theorem dX2_init_6 : decode cX2_init 6 = .ok (.putfield 9, 3) := by decide +kernel
theorem dX2_init_9 : decode cX2_init 9 = .ok (.aload_n 0, 1) := by decide +kernel
theorem dX2_init_10 : decode cX2_init 10 = .ok (.iconst 0, 1) := by decide +kernel
theorem dX2_init_11 : decode cX2_init 11 = .ok (.iload_n 1, 1) := by decide +kernel
theorem dX2_init_12 : decode cX2_init 12 = .ok (.invokestatic 15, 3) := by decide +kernel
theorem dX2_init_15 : decode cX2_init 15 = .ok (.newarray .int, 2) := by decide +kernel
theorem dX2_init_17 : decode cX2_init 17 = .ok (.putfield 21, 3) := by decide +kernel
theorem dX2_init_20 : decode cX2_init 20 = .ok (.return_, 1) := by decide +kernel
theorem dX2_size_0 : decode cX2_size 0 = .ok (.aload_n 0, 1) := by decide +kernel
theorem dX2_size_1 : decode cX2_size 1 = .ok (.getfield 9, 3) := by decide +kernel
theorem dX2_size_4 : decode cX2_size 4 = .ok (.ireturn, 1) := by decide +kernel
theorem dX2_has_0 : decode cX2_has 0 = .ok (.iload_n 1, 1) := by decide +kernel
theorem dX2_has_1 : decode cX2_has 1 = .ok (.ifCond .lt 15, 3) := by decide +kernel
theorem dX2_has_4 : decode cX2_has 4 = .ok (.iload_n 1, 1) := by decide +kernel
theorem dX2_has_5 : decode cX2_has 5 = .ok (.aload_n 0, 1) := by decide +kernel
theorem dX2_has_6 : decode cX2_has 6 = .ok (.getfield 9, 3) := by decide +kernel
theorem dX2_has_9 : decode cX2_has 9 = .ok (.if_icmp .ge 7, 3) := by decide +kernel
theorem dX2_has_12 : decode cX2_has 12 = .ok (.iconst 1, 1) := by decide +kernel
theorem dX2_has_13 : decode cX2_has 13 = .ok (.goto 4, 3) := by decide +kernel
theorem dX2_has_16 : decode cX2_has 16 = .ok (.iconst 0, 1) := by decide +kernel
theorem dX2_has_17 : decode cX2_has 17 = .ok (.ireturn, 1) := by decide +kernel
theorem dX2_at_0 : decode cX2_at 0 = .ok (.iload_n 1, 1) := by decide +kernel
theorem dX2_at_1 : decode cX2_at 1 = .ok (.ifCond .lt 29, 3) := by decide +kernel
theorem dX2_at_4 : decode cX2_at 4 = .ok (.iload_n 1, 1) := by decide +kernel
theorem dX2_at_5 : decode cX2_at 5 = .ok (.aload_n 0, 1) := by decide +kernel
theorem dX2_at_6 : decode cX2_at 6 = .ok (.getfield 9, 3) := by decide +kernel
theorem dX2_at_9 : decode cX2_at 9 = .ok (.if_icmp .ge 21, 3) := by decide +kernel
theorem dX2_at_12 : decode cX2_at 12 = .ok (.iload_n 1, 1) := by decide +kernel
theorem dX2_at_13 : decode cX2_at 13 = .ok (.aload_n 0, 1) := by decide +kernel
theorem dX2_at_14 : decode cX2_at 14 = .ok (.getfield 21, 3) := by decide +kernel
theorem dX2_at_17 : decode cX2_at 17 = .ok (.arraylength, 1) := by decide +kernel
theorem dX2_at_18 : decode cX2_at 18 = .ok (.if_icmp .ge 12, 3) := by decide +kernel
theorem dX2_at_21 : decode cX2_at 21 = .ok (.aload_n 0, 1) := by decide +kernel
theorem dX2_at_22 : decode cX2_at 22 = .ok (.getfield 21, 3) := by decide +kernel
theorem dX2_at_25 : decode cX2_at 25 = .ok (.iload_n 1, 1) := by decide +kernel
theorem dX2_at_26 : decode cX2_at 26 = .ok (.iaload, 1) := by decide +kernel
theorem dX2_at_27 : decode cX2_at 27 = .ok (.goto 4, 3) := by decide +kernel
theorem dX2_at_30 : decode cX2_at 30 = .ok (.iconst (-1), 1) := by decide +kernel
theorem dX2_at_31 : decode cX2_at 31 = .ok (.ireturn, 1) := by decide +kernel
theorem dX2_put_0 : decode cX2_put 0 = .ok (.iload_n 1, 1) := by decide +kernel
theorem dX2_put_1 : decode cX2_put 1 = .ok (.ifCond .lt 27, 3) := by decide +kernel
theorem dX2_put_4 : decode cX2_put 4 = .ok (.iload_n 1, 1) := by decide +kernel
theorem dX2_put_5 : decode cX2_put 5 = .ok (.aload_n 0, 1) := by decide +kernel
theorem dX2_put_6 : decode cX2_put 6 = .ok (.getfield 9, 3) := by decide +kernel
theorem dX2_put_9 : decode cX2_put 9 = .ok (.if_icmp .ge 19, 3) := by decide +kernel
theorem dX2_put_12 : decode cX2_put 12 = .ok (.iload_n 1, 1) := by decide +kernel
theorem dX2_put_13 : decode cX2_put 13 = .ok (.aload_n 0, 1) := by decide +kernel
theorem dX2_put_14 : decode cX2_put 14 = .ok (.getfield 21, 3) := by decide +kernel
theorem dX2_put_17 : decode cX2_put 17 = .ok (.arraylength, 1) := by decide +kernel
theorem dX2_put_18 : decode cX2_put 18 = .ok (.if_icmp .ge 10, 3) := by decide +kernel
theorem dX2_put_21 : decode cX2_put 21 = .ok (.aload_n 0, 1) := by decide +kernel
theorem dX2_put_22 : decode cX2_put 22 = .ok (.getfield 21, 3) := by decide +kernel
theorem dX2_put_25 : decode cX2_put 25 = .ok (.iload_n 1, 1) := by decide +kernel
theorem dX2_put_26 : decode cX2_put 26 = .ok (.iload_n 2, 1) := by decide +kernel
theorem dX2_put_27 : decode cX2_put 27 = .ok (.iastore, 1) := by decide +kernel
theorem dX2_put_28 : decode cX2_put 28 = .ok (.return_, 1) := by decide +kernel
theorem dX2_add_0 : decode cX2_add 0 = .ok (.aload_n 0, 1) := by decide +kernel
theorem dX2_add_1 : decode cX2_add 1 = .ok (.getfield 9, 3) := by decide +kernel
theorem dX2_add_4 : decode cX2_add 4 = .ok (.ifCond .lt 15, 3) := by decide +kernel
theorem dX2_add_7 : decode cX2_add 7 = .ok (.aload_n 0, 1) := by decide +kernel
theorem dX2_add_8 : decode cX2_add 8 = .ok (.getfield 9, 3) := by decide +kernel
theorem dX2_add_11 : decode cX2_add 11 = .ok (.aload_n 0, 1) := by decide +kernel
theorem dX2_add_12 : decode cX2_add 12 = .ok (.getfield 21, 3) := by decide +kernel
theorem dX2_add_15 : decode cX2_add 15 = .ok (.arraylength, 1) := by decide +kernel
theorem dX2_add_16 : decode cX2_add 16 = .ok (.if_icmp .lt 5, 3) := by decide +kernel
theorem dX2_add_19 : decode cX2_add 19 = .ok (.iconst 0, 1) := by decide +kernel
theorem dX2_add_20 : decode cX2_add 20 = .ok (.ireturn, 1) := by decide +kernel
theorem dX2_add_21 : decode cX2_add 21 = .ok (.aload_n 0, 1) := by decide +kernel
theorem dX2_add_22 : decode cX2_add 22 = .ok (.getfield 21, 3) := by decide +kernel
theorem dX2_add_25 : decode cX2_add 25 = .ok (.aload_n 0, 1) := by decide +kernel
theorem dX2_add_26 : decode cX2_add 26 = .ok (.getfield 9, 3) := by decide +kernel
theorem dX2_add_29 : decode cX2_add 29 = .ok (.iload_n 1, 1) := by decide +kernel
theorem dX2_add_30 : decode cX2_add 30 = .ok (.iastore, 1) := by decide +kernel
theorem dX2_add_31 : decode cX2_add 31 = .ok (.aload_n 0, 1) := by decide +kernel
theorem dX2_add_32 : decode cX2_add 32 = .ok (.dup, 1) := by decide +kernel
theorem dX2_add_33 : decode cX2_add 33 = .ok (.getfield 9, 3) := by decide +kernel
theorem dX2_add_36 : decode cX2_add 36 = .ok (.iconst 1, 1) := by decide +kernel
theorem dX2_add_37 : decode cX2_add 37 = .ok (.iadd, 1) := by decide +kernel
theorem dX2_add_38 : decode cX2_add 38 = .ok (.putfield 9, 3) := by decide +kernel
theorem dX2_add_41 : decode cX2_add 41 = .ok (.iconst 1, 1) := by decide +kernel
theorem dX2_add_42 : decode cX2_add 42 = .ok (.ireturn, 1) := by decide +kernel
set_option maxRecDepth 20000 in
theorem ggX2_insert_X2_add : GoodIn wsX2_insert wsX2_add := goodIn_r _ [6, 1, 7, 16, 17] (by decide +kernel) (by decide +kernel)
set_option maxRecDepth 20000 in
theorem gX2_insert_X2_add : GoodIn wsX2_insert (wsV RX2 25 RX2 yX2_add wsX2_add) := goodIn_app (goodIn_of _ (by decide +kernel)) ggX2_insert_X2_add
set_option maxRecDepth 20000 in
theorem ggX2_insert_X2_at : GoodIn wsX2_insert wsX2_at := goodIn_r _ [11, 1, 7, 16, 17] (by decide +kernel) (by decide +kernel)
set_option maxRecDepth 20000 in
theorem gX2_insert_X2_at : GoodIn wsX2_insert (wsV RX2 29 RX2 yX2_at wsX2_at) := goodIn_app (goodIn_of _ (by decide +kernel)) ggX2_insert_X2_at
set_option maxRecDepth 20000 in
theorem ggX2_insert_X2_put : GoodIn wsX2_insert wsX2_put := goodIn_r _ [15, 1, 7, 16, 17] (by decide +kernel) (by decide +kernel)
set_option maxRecDepth 20000 in
theorem gX2_insert_X2_put : GoodIn wsX2_insert (wsV RX2 33 RX2 yX2_put wsX2_put) := goodIn_app (goodIn_of _ (by decide +kernel)) ggX2_insert_X2_put
theorem dX2_insert_0 : decode cX2_insert 0 = .ok (.aload_n 0, 1) := by decide +kernel
theorem dX2_insert_1 : decode cX2_insert 1 = .ok (.iload_n 2, 1) := by decide +kernel
theorem dX2_insert_2 : decode cX2_insert 2 = .ok (.invokevirtual 25, 3) := by decide +kernel
theorem dX2_insert_5 : decode cX2_insert 5 = .ok (.ifCond .ne 4, 3) := by decide +kernel
theorem dX2_insert_8 : decode cX2_insert 8 = .ok (.return_, 1) := by decide +kernel
theorem dX2_insert_9 : decode cX2_insert 9 = .ok (.aload_n 0, 1) := by decide +kernel
theorem dX2_insert_10 : decode cX2_insert 10 = .ok (.getfield 9, 3) := by decide +kernel
theorem dX2_insert_13 : decode cX2_insert 13 = .ok (.iconst 1, 1) := by decide +kernel
theorem dX2_insert_14 : decode cX2_insert 14 = .ok (.isub, 1) := by decide +kernel
theorem dX2_insert_15 : decode cX2_insert 15 = .ok (.istore_n 3, 1) := by decide +kernel
theorem dX2_insert_16 : decode cX2_insert 16 = .ok (.iload_n 3, 1) := by decide +kernel
theorem dX2_insert_17 : decode cX2_insert 17 = .ok (.iload_n 1, 1) := by decide +kernel
theorem dX2_insert_18 : decode cX2_insert 18 = .ok (.if_icmp .le 21, 3) := by decide +kernel
theorem dX2_insert_21 : decode cX2_insert 21 = .ok (.aload_n 0, 1) := by decide +kernel
theorem dX2_insert_22 : decode cX2_insert 22 = .ok (.iload_n 3, 1) := by decide +kernel
theorem dX2_insert_23 : decode cX2_insert 23 = .ok (.aload_n 0, 1) := by decide +kernel
theorem dX2_insert_24 : decode cX2_insert 24 = .ok (.iload_n 3, 1) := by decide +kernel
theorem dX2_insert_25 : decode cX2_insert 25 = .ok (.iconst 1, 1) := by decide +kernel
theorem dX2_insert_26 : decode cX2_insert 26 = .ok (.isub, 1) := by decide +kernel
theorem dX2_insert_27 : decode cX2_insert 27 = .ok (.invokevirtual 29, 3) := by decide +kernel
theorem dX2_insert_30 : decode cX2_insert 30 = .ok (.invokevirtual 33, 3) := by decide +kernel
theorem dX2_insert_33 : decode cX2_insert 33 = .ok (.iinc 3 (-1), 3) := by decide +kernel
theorem dX2_insert_36 : decode cX2_insert 36 = .ok (.goto (-20), 3) := by decide +kernel
theorem dX2_insert_39 : decode cX2_insert 39 = .ok (.aload_n 0, 1) := by decide +kernel
theorem dX2_insert_40 : decode cX2_insert 40 = .ok (.iload_n 1, 1) := by decide +kernel
theorem dX2_insert_41 : decode cX2_insert 41 = .ok (.iload_n 2, 1) := by decide +kernel
theorem dX2_insert_42 : decode cX2_insert 42 = .ok (.invokevirtual 33, 3) := by decide +kernel
theorem dX2_insert_45 : decode cX2_insert 45 = .ok (.return_, 1) := by decide +kernel
set_option maxRecDepth 20000 in
theorem ggX2_remove_X2_has : GoodIn wsX2_remove wsX2_has := goodIn_r _ [6, 1, 16, 17] (by decide +kernel) (by decide +kernel)
set_option maxRecDepth 20000 in
theorem gX2_remove_X2_has : GoodIn wsX2_remove (wsV RX2 37 RX2 yX2_has wsX2_has) := goodIn_app (goodIn_of _ (by decide +kernel)) ggX2_remove_X2_has
set_option maxRecDepth 20000 in
theorem ggX2_remove_X2_at : GoodIn wsX2_remove wsX2_at := goodIn_r _ [10, 1, 11, 16, 17] (by decide +kernel) (by decide +kernel)
set_option maxRecDepth 20000 in
theorem gX2_remove_X2_at : GoodIn wsX2_remove (wsV RX2 29 RX2 yX2_at wsX2_at) := goodIn_app (goodIn_of _ (by decide +kernel)) ggX2_remove_X2_at
set_option maxRecDepth 20000 in
theorem ggX2_remove_X2_put : GoodIn wsX2_remove wsX2_put := goodIn_r _ [15, 1, 11, 16, 17] (by decide +kernel) (by decide +kernel)
set_option maxRecDepth 20000 in
theorem gX2_remove_X2_put : GoodIn wsX2_remove (wsV RX2 33 RX2 yX2_put wsX2_put) := goodIn_app (goodIn_of _ (by decide +kernel)) ggX2_remove_X2_put
theorem dX2_remove_0 : decode cX2_remove 0 = .ok (.aload_n 0, 1) := by decide +kernel
theorem dX2_remove_1 : decode cX2_remove 1 = .ok (.iload_n 1, 1) := by decide +kernel
theorem dX2_remove_2 : decode cX2_remove 2 = .ok (.invokevirtual 37, 3) := by decide +kernel
theorem dX2_remove_5 : decode cX2_remove 5 = .ok (.ifCond .ne 4, 3) := by decide +kernel
theorem dX2_remove_8 : decode cX2_remove 8 = .ok (.return_, 1) := by decide +kernel
theorem dX2_remove_9 : decode cX2_remove 9 = .ok (.iload_n 1, 1) := by decide +kernel
theorem dX2_remove_10 : decode cX2_remove 10 = .ok (.istore_n 2, 1) := by decide +kernel
theorem dX2_remove_11 : decode cX2_remove 11 = .ok (.iload_n 2, 1) := by decide +kernel
theorem dX2_remove_12 : decode cX2_remove 12 = .ok (.aload_n 0, 1) := by decide +kernel
theorem dX2_remove_13 : decode cX2_remove 13 = .ok (.getfield 9, 3) := by decide +kernel
theorem dX2_remove_16 : decode cX2_remove 16 = .ok (.iconst 1, 1) := by decide +kernel
theorem dX2_remove_17 : decode cX2_remove 17 = .ok (.isub, 1) := by decide +kernel
theorem dX2_remove_18 : decode cX2_remove 18 = .ok (.if_icmp .ge 21, 3) := by decide +kernel
theorem dX2_remove_21 : decode cX2_remove 21 = .ok (.aload_n 0, 1) := by decide +kernel
theorem dX2_remove_22 : decode cX2_remove 22 = .ok (.iload_n 2, 1) := by decide +kernel
theorem dX2_remove_23 : decode cX2_remove 23 = .ok (.aload_n 0, 1) := by decide +kernel
theorem dX2_remove_24 : decode cX2_remove 24 = .ok (.iload_n 2, 1) := by decide +kernel
theorem dX2_remove_25 : decode cX2_remove 25 = .ok (.iconst 1, 1) := by decide +kernel
theorem dX2_remove_26 : decode cX2_remove 26 = .ok (.iadd, 1) := by decide +kernel
theorem dX2_remove_27 : decode cX2_remove 27 = .ok (.invokevirtual 29, 3) := by decide +kernel
theorem dX2_remove_30 : decode cX2_remove 30 = .ok (.invokevirtual 33, 3) := by decide +kernel
theorem dX2_remove_33 : decode cX2_remove 33 = .ok (.iinc 2 1, 3) := by decide +kernel
theorem dX2_remove_36 : decode cX2_remove 36 = .ok (.goto (-25), 3) := by decide +kernel
theorem dX2_remove_39 : decode cX2_remove 39 = .ok (.aload_n 0, 1) := by decide +kernel
theorem dX2_remove_40 : decode cX2_remove 40 = .ok (.dup, 1) := by decide +kernel
theorem dX2_remove_41 : decode cX2_remove 41 = .ok (.getfield 9, 3) := by decide +kernel
theorem dX2_remove_44 : decode cX2_remove 44 = .ok (.iconst 1, 1) := by decide +kernel
theorem dX2_remove_45 : decode cX2_remove 45 = .ok (.isub, 1) := by decide +kernel
theorem dX2_remove_46 : decode cX2_remove 46 = .ok (.putfield 9, 3) := by decide +kernel
theorem dX2_remove_49 : decode cX2_remove 49 = .ok (.return_, 1) := by decide +kernel
theorem dX2_empty_0 : decode cX2_empty 0 = .ok (.aload_n 0, 1) := by decide +kernel
theorem dX2_empty_1 : decode cX2_empty 1 = .ok (.iconst 0, 1) := by decide +kernel
theorem dX2_empty_2 : decode cX2_empty 2 = .ok (.putfield 9, 3) := by decide +kernel
theorem dX2_empty_5 : decode cX2_empty 5 = .ok (.return_, 1) := by decide +kernel
set_option maxRecDepth 20000 in
theorem ggX2_copyFrom_X2_size : GoodIn wsX2_copyFrom wsX2_size := goodIn_r _ [6, 1, 16, 17] (by decide +kernel) (by decide +kernel)
set_option maxRecDepth 20000 in
theorem gX2_copyFrom_X2_size : GoodIn wsX2_copyFrom (wsV RX2 40 RX2 yX2_size wsX2_size) := goodIn_app (goodIn_of _ (by decide +kernel)) ggX2_copyFrom_X2_size
set_option maxRecDepth 20000 in
theorem ggX2_copyFrom_X2_at : GoodIn wsX2_copyFrom wsX2_at := goodIn_r _ [10, 1, 11, 16, 17] (by decide +kernel) (by decide +kernel)
set_option maxRecDepth 20000 in
theorem gX2_copyFrom_X2_at : GoodIn wsX2_copyFrom (wsV RX2 29 RX2 yX2_at wsX2_at) := goodIn_app (goodIn_of _ (by decide +kernel)) ggX2_copyFrom_X2_at
set_option maxRecDepth 20000 in
theorem ggX2_copyFrom_X2_add : GoodIn wsX2_copyFrom wsX2_add := goodIn_r _ [15, 1, 11, 16, 17] (by decide +kernel) (by decide +kernel)
set_option maxRecDepth 20000 in
theorem gX2_copyFrom_X2_add : GoodIn wsX2_copyFrom (wsV RX2 25 RX2 yX2_add wsX2_add) := goodIn_app (goodIn_of _ (by decide +kernel)) ggX2_copyFrom_X2_add
theorem dX2_copyFrom_0 : decode cX2_copyFrom 0 = .ok (.aload_n 0, 1) := by decide +kernel
theorem dX2_copyFrom_1 : decode cX2_copyFrom 1 = .ok (.iconst 0, 1) := by decide +kernel
theorem dX2_copyFrom_2 : decode cX2_copyFrom 2 = .ok (.putfield 9, 3) := by decide +kernel
theorem dX2_copyFrom_5 : decode cX2_copyFrom 5 = .ok (.iconst 0, 1) := by decide +kernel
theorem dX2_copyFrom_6 : decode cX2_copyFrom 6 = .ok (.istore_n 2, 1) := by decide +kernel
theorem dX2_copyFrom_7 : decode cX2_copyFrom 7 = .ok (.iload_n 2, 1) := by decide +kernel
theorem dX2_copyFrom_8 : decode cX2_copyFrom 8 = .ok (.aload_n 1, 1) := by decide +kernel
theorem dX2_copyFrom_9 : decode cX2_copyFrom 9 = .ok (.invokevirtual 40, 3) := by decide +kernel
theorem dX2_copyFrom_12 : decode cX2_copyFrom 12 = .ok (.if_icmp .ge 19, 3) := by decide +kernel
theorem dX2_copyFrom_15 : decode cX2_copyFrom 15 = .ok (.aload_n 0, 1) := by decide +kernel
theorem dX2_copyFrom_16 : decode cX2_copyFrom 16 = .ok (.aload_n 1, 1) := by decide +kernel
theorem dX2_copyFrom_17 : decode cX2_copyFrom 17 = .ok (.iload_n 2, 1) := by decide +kernel
theorem dX2_copyFrom_18 : decode cX2_copyFrom 18 = .ok (.invokevirtual 29, 3) := by decide +kernel
theorem dX2_copyFrom_21 : decode cX2_copyFrom 21 = .ok (.invokevirtual 25, 3) := by decide +kernel
theorem dX2_copyFrom_24 : decode cX2_copyFrom 24 = .ok (.pop, 1) := by decide +kernel
theorem dX2_copyFrom_25 : decode cX2_copyFrom 25 = .ok (.iinc 2 1, 3) := by decide +kernel
theorem dX2_copyFrom_28 : decode cX2_copyFrom 28 = .ok (.goto (-21), 3) := by decide +kernel
theorem dX2_copyFrom_31 : decode cX2_copyFrom 31 = .ok (.return_, 1) := by decide +kernel
set_option maxRecDepth 20000 in
theorem ggX2_reverse_X2_at : GoodIn wsX2_reverse wsX2_at := goodIn_r _ [6, 1, 7, 12, 13] (by decide +kernel) (by decide +kernel)
set_option maxRecDepth 20000 in
theorem gX2_reverse_X2_at : GoodIn wsX2_reverse (wsV RX2 29 RX2 yX2_at wsX2_at) := goodIn_app (goodIn_of _ (by decide +kernel)) ggX2_reverse_X2_at
set_option maxRecDepth 20000 in
theorem ggX2_reverse_X2_put : GoodIn wsX2_reverse wsX2_put := goodIn_r _ [11, 1, 7, 12, 13] (by decide +kernel) (by decide +kernel)
set_option maxRecDepth 20000 in
theorem gX2_reverse_X2_put : GoodIn wsX2_reverse (wsV RX2 33 RX2 yX2_put wsX2_put) := goodIn_app (goodIn_of _ (by decide +kernel)) ggX2_reverse_X2_put
theorem dX2_reverse_0 : decode cX2_reverse 0 = .ok (.iconst 0, 1) := by decide +kernel
theorem dX2_reverse_1 : decode cX2_reverse 1 = .ok (.istore_n 1, 1) := by decide +kernel
theorem dX2_reverse_2 : decode cX2_reverse 2 = .ok (.iload_n 1, 1) := by decide +kernel
theorem dX2_reverse_3 : decode cX2_reverse 3 = .ok (.aload_n 0, 1) := by decide +kernel
theorem dX2_reverse_4 : decode cX2_reverse 4 = .ok (.getfield 9, 3) := by decide +kernel
theorem dX2_reverse_7 : decode cX2_reverse 7 = .ok (.iconst 2, 1) := by decide +kernel
theorem dX2_reverse_8 : decode cX2_reverse 8 = .ok (.idiv, 1) := by decide +kernel
theorem dX2_reverse_9 : decode cX2_reverse 9 = .ok (.if_icmp .ge 45, 3) := by decide +kernel
theorem dX2_reverse_12 : decode cX2_reverse 12 = .ok (.aload_n 0, 1) := by decide +kernel
theorem dX2_reverse_13 : decode cX2_reverse 13 = .ok (.iload_n 1, 1) := by decide +kernel
theorem dX2_reverse_14 : decode cX2_reverse 14 = .ok (.invokevirtual 29, 3) := by decide +kernel
theorem dX2_reverse_17 : decode cX2_reverse 17 = .ok (.istore_n 2, 1) := by decide +kernel
theorem dX2_reverse_18 : decode cX2_reverse 18 = .ok (.aload_n 0, 1) := by decide +kernel
theorem dX2_reverse_19 : decode cX2_reverse 19 = .ok (.iload_n 1, 1) := by decide +kernel
theorem dX2_reverse_20 : decode cX2_reverse 20 = .ok (.aload_n 0, 1) := by decide +kernel
theorem dX2_reverse_21 : decode cX2_reverse 21 = .ok (.aload_n 0, 1) := by decide +kernel
theorem dX2_reverse_22 : decode cX2_reverse 22 = .ok (.getfield 9, 3) := by decide +kernel
theorem dX2_reverse_25 : decode cX2_reverse 25 = .ok (.iconst 1, 1) := by decide +kernel
theorem dX2_reverse_26 : decode cX2_reverse 26 = .ok (.isub, 1) := by decide +kernel
theorem dX2_reverse_27 : decode cX2_reverse 27 = .ok (.iload_n 1, 1) := by decide +kernel
theorem dX2_reverse_28 : decode cX2_reverse 28 = .ok (.isub, 1) := by decide +kernel
theorem dX2_reverse_29 : decode cX2_reverse 29 = .ok (.invokevirtual 29, 3) := by decide +kernel
theorem dX2_reverse_32 : decode cX2_reverse 32 = .ok (.invokevirtual 33, 3) := by decide +kernel
theorem dX2_reverse_35 : decode cX2_reverse 35 = .ok (.aload_n 0, 1) := by decide +kernel
theorem dX2_reverse_36 : decode cX2_reverse 36 = .ok (.aload_n 0, 1) := by decide +kernel
theorem dX2_reverse_37 : decode cX2_reverse 37 = .ok (.getfield 9, 3) := by decide +kernel
theorem dX2_reverse_40 : decode cX2_reverse 40 = .ok (.iconst 1, 1) := by decide +kernel
theorem dX2_reverse_41 : decode cX2_reverse 41 = .ok (.isub, 1) := by decide +kernel
theorem dX2_reverse_42 : decode cX2_reverse 42 = .ok (.iload_n 1, 1) := by decide +kernel
theorem dX2_reverse_43 : decode cX2_reverse 43 = .ok (.isub, 1) := by decide +kernel
theorem dX2_reverse_44 : decode cX2_reverse 44 = .ok (.iload_n 2, 1) := by decide +kernel
theorem dX2_reverse_45 : decode cX2_reverse 45 = .ok (.invokevirtual 33, 3) := by decide +kernel
theorem dX2_reverse_48 : decode cX2_reverse 48 = .ok (.iinc 1 1, 3) := by decide +kernel
theorem dX2_reverse_51 : decode cX2_reverse 51 = .ok (.goto (-49), 3) := by decide +kernel
theorem dX2_reverse_54 : decode cX2_reverse 54 = .ok (.return_, 1) := by decide +kernel
set_option maxRecDepth 20000 in
theorem ggX2_sum_X2_at : GoodIn wsX2_sum wsX2_at := goodIn_r _ [6, 1, 7, 8, 9] (by decide +kernel) (by decide +kernel)
set_option maxRecDepth 20000 in
theorem gX2_sum_X2_at : GoodIn wsX2_sum (wsV RX2 29 RX2 yX2_at wsX2_at) := goodIn_app (goodIn_of _ (by decide +kernel)) ggX2_sum_X2_at
theorem dX2_sum_0 : decode cX2_sum 0 = .ok (.iconst 0, 1) := by decide +kernel
theorem dX2_sum_1 : decode cX2_sum 1 = .ok (.istore_n 1, 1) := by decide +kernel
theorem dX2_sum_2 : decode cX2_sum 2 = .ok (.iconst 0, 1) := by decide +kernel
theorem dX2_sum_3 : decode cX2_sum 3 = .ok (.istore_n 2, 1) := by decide +kernel
theorem dX2_sum_4 : decode cX2_sum 4 = .ok (.iload_n 2, 1) := by decide +kernel
theorem dX2_sum_5 : decode cX2_sum 5 = .ok (.aload_n 0, 1) := by decide +kernel
theorem dX2_sum_6 : decode cX2_sum 6 = .ok (.getfield 9, 3) := by decide +kernel
theorem dX2_sum_9 : decode cX2_sum 9 = .ok (.if_icmp .ge 17, 3) := by decide +kernel
theorem dX2_sum_12 : decode cX2_sum 12 = .ok (.iload_n 1, 1) := by decide +kernel
theorem dX2_sum_13 : decode cX2_sum 13 = .ok (.aload_n 0, 1) := by decide +kernel
theorem dX2_sum_14 : decode cX2_sum 14 = .ok (.iload_n 2, 1) := by decide +kernel
theorem dX2_sum_15 : decode cX2_sum 15 = .ok (.invokevirtual 29, 3) := by decide +kernel
theorem dX2_sum_18 : decode cX2_sum 18 = .ok (.iadd, 1) := by decide +kernel
theorem dX2_sum_19 : decode cX2_sum 19 = .ok (.istore_n 1, 1) := by decide +kernel
theorem dX2_sum_20 : decode cX2_sum 20 = .ok (.iinc 2 1, 3) := by decide +kernel
theorem dX2_sum_23 : decode cX2_sum 23 = .ok (.goto (-19), 3) := by decide +kernel
theorem dX2_sum_26 : decode cX2_sum 26 = .ok (.iload_n 1, 1) := by decide +kernel
theorem dX2_sum_27 : decode cX2_sum 27 = .ok (.ireturn, 1) := by decide +kernel
set_option maxRecDepth 20000 in
theorem ggX2_least_X2_at : GoodIn wsX2_least wsX2_at := goodIn_r _ [10, 1, 11, 12, 13] (by decide +kernel) (by decide +kernel)
set_option maxRecDepth 20000 in
theorem gX2_least_X2_at : GoodIn wsX2_least (wsV RX2 29 RX2 yX2_at wsX2_at) := goodIn_app (goodIn_of _ (by decide +kernel)) ggX2_least_X2_at
theorem dX2_least_0 : decode cX2_least 0 = .ok (.aload_n 0, 1) := by decide +kernel
theorem dX2_least_1 : decode cX2_least 1 = .ok (.getfield 9, 3) := by decide +kernel
theorem dX2_least_4 : decode cX2_least 4 = .ok (.ifCond .ne 7, 3) := by decide +kernel
theorem dX2_least_7 : decode cX2_least 7 = .ok (.iconst 0, 1) := by decide +kernel
theorem dX2_least_8 : decode cX2_least 8 = .ok (.goto 8, 3) := by decide +kernel
theorem dX2_least_11 : decode cX2_least 11 = .ok (.aload_n 0, 1) := by decide +kernel
theorem dX2_least_12 : decode cX2_least 12 = .ok (.iconst 0, 1) := by decide +kernel
theorem dX2_least_13 : decode cX2_least 13 = .ok (.invokevirtual 29, 3) := by decide +kernel
theorem dX2_least_16 : decode cX2_least 16 = .ok (.istore_n 1, 1) := by decide +kernel
theorem dX2_least_17 : decode cX2_least 17 = .ok (.iconst 1, 1) := by decide +kernel
theorem dX2_least_18 : decode cX2_least 18 = .ok (.istore_n 2, 1) := by decide +kernel
theorem dX2_least_19 : decode cX2_least 19 = .ok (.iload_n 2, 1) := by decide +kernel
theorem dX2_least_20 : decode cX2_least 20 = .ok (.aload_n 0, 1) := by decide +kernel
theorem dX2_least_21 : decode cX2_least 21 = .ok (.getfield 9, 3) := by decide +kernel
theorem dX2_least_24 : decode cX2_least 24 = .ok (.if_icmp .ge 19, 3) := by decide +kernel
theorem dX2_least_27 : decode cX2_least 27 = .ok (.iload_n 1, 1) := by decide +kernel
theorem dX2_least_28 : decode cX2_least 28 = .ok (.aload_n 0, 1) := by decide +kernel
theorem dX2_least_29 : decode cX2_least 29 = .ok (.iload_n 2, 1) := by decide +kernel
theorem dX2_least_30 : decode cX2_least 30 = .ok (.invokevirtual 29, 3) := by decide +kernel
theorem dX2_least_33 : decode cX2_least 33 = .ok (.invokestatic 43, 3) := by decide +kernel
theorem dX2_least_36 : decode cX2_least 36 = .ok (.istore_n 1, 1) := by decide +kernel
theorem dX2_least_37 : decode cX2_least 37 = .ok (.iinc 2 1, 3) := by decide +kernel
theorem dX2_least_40 : decode cX2_least 40 = .ok (.goto (-21), 3) := by decide +kernel
theorem dX2_least_43 : decode cX2_least 43 = .ok (.iload_n 1, 1) := by decide +kernel
theorem dX2_least_44 : decode cX2_least 44 = .ok (.ireturn, 1) := by decide +kernel
set_option maxRecDepth 20000 in
theorem ggX2_greatest_X2_at : GoodIn wsX2_greatest wsX2_at := goodIn_r _ [10, 1, 11, 12, 13] (by decide +kernel) (by decide +kernel)
set_option maxRecDepth 20000 in
theorem gX2_greatest_X2_at : GoodIn wsX2_greatest (wsV RX2 29 RX2 yX2_at wsX2_at) := goodIn_app (goodIn_of _ (by decide +kernel)) ggX2_greatest_X2_at
theorem dX2_greatest_0 : decode cX2_greatest 0 = .ok (.aload_n 0, 1) := by decide +kernel
theorem dX2_greatest_1 : decode cX2_greatest 1 = .ok (.getfield 9, 3) := by decide +kernel
theorem dX2_greatest_4 : decode cX2_greatest 4 = .ok (.ifCond .ne 7, 3) := by decide +kernel
theorem dX2_greatest_7 : decode cX2_greatest 7 = .ok (.iconst 0, 1) := by decide +kernel
theorem dX2_greatest_8 : decode cX2_greatest 8 = .ok (.goto 8, 3) := by decide +kernel
theorem dX2_greatest_11 : decode cX2_greatest 11 = .ok (.aload_n 0, 1) := by decide +kernel
theorem dX2_greatest_12 : decode cX2_greatest 12 = .ok (.iconst 0, 1) := by decide +kernel
theorem dX2_greatest_13 : decode cX2_greatest 13 = .ok (.invokevirtual 29, 3) := by decide +kernel
theorem dX2_greatest_16 : decode cX2_greatest 16 = .ok (.istore_n 1, 1) := by decide +kernel
theorem dX2_greatest_17 : decode cX2_greatest 17 = .ok (.iconst 1, 1) := by decide +kernel
theorem dX2_greatest_18 : decode cX2_greatest 18 = .ok (.istore_n 2, 1) := by decide +kernel
theorem dX2_greatest_19 : decode cX2_greatest 19 = .ok (.iload_n 2, 1) := by decide +kernel
theorem dX2_greatest_20 : decode cX2_greatest 20 = .ok (.aload_n 0, 1) := by decide +kernel
theorem dX2_greatest_21 : decode cX2_greatest 21 = .ok (.getfield 9, 3) := by decide +kernel
theorem dX2_greatest_24 : decode cX2_greatest 24 = .ok (.if_icmp .ge 19, 3) := by decide +kernel
theorem dX2_greatest_27 : decode cX2_greatest 27 = .ok (.iload_n 1, 1) := by decide +kernel
theorem dX2_greatest_28 : decode cX2_greatest 28 = .ok (.aload_n 0, 1) := by decide +kernel
theorem dX2_greatest_29 : decode cX2_greatest 29 = .ok (.iload_n 2, 1) := by decide +kernel
theorem dX2_greatest_30 : decode cX2_greatest 30 = .ok (.invokevirtual 29, 3) := by decide +kernel
theorem dX2_greatest_33 : decode cX2_greatest 33 = .ok (.invokestatic 15, 3) := by decide +kernel
theorem dX2_greatest_36 : decode cX2_greatest 36 = .ok (.istore_n 1, 1) := by decide +kernel
theorem dX2_greatest_37 : decode cX2_greatest 37 = .ok (.iinc 2 1, 3) := by decide +kernel
theorem dX2_greatest_40 : decode cX2_greatest 40 = .ok (.goto (-21), 3) := by decide +kernel
theorem dX2_greatest_43 : decode cX2_greatest 43 = .ok (.iload_n 1, 1) := by decide +kernel
theorem dX2_greatest_44 : decode cX2_greatest 44 = .ok (.ireturn, 1) := by decide +kernel
set_option maxRecDepth 20000 in
theorem ggX2_sameAs_X2_size : GoodIn wsX2_sameAs wsX2_size := goodIn_r _ [6, 1, 12, 13] (by decide +kernel) (by decide +kernel)
set_option maxRecDepth 20000 in
theorem gX2_sameAs_X2_size : GoodIn wsX2_sameAs (wsV RX2 40 RX2 yX2_size wsX2_size) := goodIn_app (goodIn_of _ (by decide +kernel)) ggX2_sameAs_X2_size
set_option maxRecDepth 20000 in
theorem ggX2_sameAs_X2_at : GoodIn wsX2_sameAs wsX2_at := goodIn_r _ [10, 1, 11, 12, 13] (by decide +kernel) (by decide +kernel)
set_option maxRecDepth 20000 in
theorem gX2_sameAs_X2_at : GoodIn wsX2_sameAs (wsV RX2 29 RX2 yX2_at wsX2_at) := goodIn_app (goodIn_of _ (by decide +kernel)) ggX2_sameAs_X2_at
theorem dX2_sameAs_0 : decode cX2_sameAs 0 = .ok (.aload_n 0, 1) := by decide +kernel
theorem dX2_sameAs_1 : decode cX2_sameAs 1 = .ok (.getfield 9, 3) := by decide +kernel
theorem dX2_sameAs_4 : decode cX2_sameAs 4 = .ok (.aload_n 1, 1) := by decide +kernel
theorem dX2_sameAs_5 : decode cX2_sameAs 5 = .ok (.invokevirtual 40, 3) := by decide +kernel
theorem dX2_sameAs_8 : decode cX2_sameAs 8 = .ok (.if_icmp .eq 5, 3) := by decide +kernel
theorem dX2_sameAs_11 : decode cX2_sameAs 11 = .ok (.iconst 0, 1) := by decide +kernel
theorem dX2_sameAs_12 : decode cX2_sameAs 12 = .ok (.ireturn, 1) := by decide +kernel
theorem dX2_sameAs_13 : decode cX2_sameAs 13 = .ok (.iconst 0, 1) := by decide +kernel
theorem dX2_sameAs_14 : decode cX2_sameAs 14 = .ok (.istore_n 2, 1) := by decide +kernel
theorem dX2_sameAs_15 : decode cX2_sameAs 15 = .ok (.iload_n 2, 1) := by decide +kernel
theorem dX2_sameAs_16 : decode cX2_sameAs 16 = .ok (.aload_n 0, 1) := by decide +kernel
theorem dX2_sameAs_17 : decode cX2_sameAs 17 = .ok (.getfield 9, 3) := by decide +kernel
theorem dX2_sameAs_20 : decode cX2_sameAs 20 = .ok (.if_icmp .ge 24, 3) := by decide +kernel
theorem dX2_sameAs_23 : decode cX2_sameAs 23 = .ok (.aload_n 0, 1) := by decide +kernel
theorem dX2_sameAs_24 : decode cX2_sameAs 24 = .ok (.iload_n 2, 1) := by decide +kernel
theorem dX2_sameAs_25 : decode cX2_sameAs 25 = .ok (.invokevirtual 29, 3) := by decide +kernel
theorem dX2_sameAs_28 : decode cX2_sameAs 28 = .ok (.aload_n 1, 1) := by decide +kernel
theorem dX2_sameAs_29 : decode cX2_sameAs 29 = .ok (.iload_n 2, 1) := by decide +kernel
theorem dX2_sameAs_30 : decode cX2_sameAs 30 = .ok (.invokevirtual 29, 3) := by decide +kernel
theorem dX2_sameAs_33 : decode cX2_sameAs 33 = .ok (.if_icmp .eq 5, 3) := by decide +kernel
theorem dX2_sameAs_36 : decode cX2_sameAs 36 = .ok (.iconst 0, 1) := by decide +kernel
theorem dX2_sameAs_37 : decode cX2_sameAs 37 = .ok (.ireturn, 1) := by decide +kernel
theorem dX2_sameAs_38 : decode cX2_sameAs 38 = .ok (.iinc 2 1, 3) := by decide +kernel
theorem dX2_sameAs_41 : decode cX2_sameAs 41 = .ok (.goto (-26), 3) := by decide +kernel
theorem dX2_sameAs_44 : decode cX2_sameAs 44 = .ok (.iconst 1, 1) := by decide +kernel
theorem dX2_sameAs_45 : decode cX2_sameAs 45 = .ok (.ireturn, 1) := by decide +kernel
set_option maxRecDepth 20000 in
theorem ggX3_init_X2_init : GoodIn wsX3_init wsX2_init := goodIn_r _ [12, 13, 2, 3, 14, 15, 16, 17, 18, 19, 20, 25, 26] (by decide +kernel) (by decide +kernel)
set_option maxRecDepth 20000 in
theorem gX3_init_X2_init : GoodIn wsX3_init (wsX2_init) := ggX3_init_X2_init
set_option maxRecDepth 20000 in
theorem ggX3_init_X2_add : GoodIn wsX3_init wsX2_add := goodIn_r _ [24, 14, 20, 25, 26] (by decide +kernel) (by decide +kernel)
set_option maxRecDepth 20000 in
theorem gX3_init_X2_add : GoodIn wsX3_init (wsV RX3 30 RX2 yX2_add wsX2_add) := goodIn_app (goodIn_of _ (by decide +kernel)) ggX3_init_X2_add
theorem dX3_init_0 : decode cX3_init 0 = .ok (.aload_n 0, 1) := by decide +kernel
theorem dX3_init_1 : decode cX3_init 1 = .ok (.invokespecial 3, 3) := by decide +kernel
theorem dX3_init_4 : decode cX3_init 4 = .ok (.aload_n 0, 1) := by decide +kernel
theorem dX3_init_5 : decode cX3_init 5 = .ok (.new 9, 3) := by decide +kernel
theorem dX3_init_8 : decode cX3_init 8 = .ok (.dup, 1) := by decide +kernel
theorem dX3_init_9 : decode cX3_init 9 = .ok (.sipush 200, 3) := by decide +kernel
theorem dX3_init_12 : decode cX3_init 12 = .ok (.invokespecial 11, 3) := by decide +kernel
theorem dX3_init_15 : decode cX3_init 15 = .ok (.putfield 14, 3) := by decide +kernel
theorem dX3_init_18 : decode cX3_init 18 = .ok (.aload_n 0, 1) := by decide +kernel
theorem dX3_init_19 : decode cX3_init 19 = .ok (.new 9, 3) := by decide +kernel
theorem dX3_init_22 : decode cX3_init 22 = .ok (.dup, 1) := by decide +kernel
theorem dX3_init_23 : decode cX3_init 23 = .ok (.bipush 20, 2) := by decide +kernel
theorem dX3_init_25 : decode cX3_init 25 = .ok (.invokespecial 11, 3) := by decide +kernel
theorem dX3_init_28 : decode cX3_init 28 = .ok (.putfield 20, 3) := by decide +kernel
theorem dX3_init_31 : decode cX3_init 31 = .ok (.aload_n 0, 1) := by decide +kernel
theorem dX3_init_32 : decode cX3_init 32 = .ok (.new 9, 3) := by decide +kernel
theorem dX3_init_35 : decode cX3_init 35 = .ok (.dup, 1) := by decide +kernel
theorem dX3_init_36 : decode cX3_init 36 = .ok (.getstatic 23, 3) := by decide +kernel
theorem dX3_init_39 : decode cX3_init 39 = .ok (.arraylength, 1) := by decide +kernel
theorem dX3_init_40 : decode cX3_init 40 = .ok (.invokespecial 11, 3) := by decide +kernel
theorem dX3_init_43 : decode cX3_init 43 = .ok (.putfield 27, 3) := by decide +kernel
theorem dX3_init_46 : decode cX3_init 46 = .ok (.iconst 0, 1) := by decide +kernel
theorem dX3_init_47 : decode cX3_init 47 = .ok (.istore_n 1, 1) := by decide +kernel
theorem dX3_init_48 : decode cX3_init 48 = .ok (.iload_n 1, 1) := by decide +kernel
theorem dX3_init_49 : decode cX3_init 49 = .ok (.getstatic 23, 3) := by decide +kernel
theorem dX3_init_52 : decode cX3_init 52 = .ok (.arraylength, 1) := by decide +kernel
theorem dX3_init_53 : decode cX3_init 53 = .ok (.if_icmp .ge 22, 3) := by decide +kernel
theorem dX3_init_56 : decode cX3_init 56 = .ok (.aload_n 0, 1) := by decide +kernel
theorem dX3_init_57 : decode cX3_init 57 = .ok (.getfield 27, 3) := by decide +kernel
theorem dX3_init_60 : decode cX3_init 60 = .ok (.getstatic 23, 3) := by decide +kernel
theorem dX3_init_63 : decode cX3_init 63 = .ok (.iload_n 1, 1) := by decide +kernel
theorem dX3_init_64 : decode cX3_init 64 = .ok (.iaload, 1) := by decide +kernel
theorem dX3_init_65 : decode cX3_init 65 = .ok (.invokevirtual 30, 3) := by decide +kernel
theorem dX3_init_68 : decode cX3_init 68 = .ok (.pop, 1) := by decide +kernel
theorem dX3_init_69 : decode cX3_init 69 = .ok (.iinc 1 1, 3) := by decide +kernel
theorem dX3_init_72 : decode cX3_init 72 = .ok (.goto (-24), 3) := by decide +kernel
theorem dX3_init_75 : decode cX3_init 75 = .ok (.return_, 1) := by decide +kernel
set_option maxRecDepth 20000 in
theorem ggX3_copyFrom_X2_copyFrom : GoodIn wsX3_copyFrom wsX2_copyFrom := goodIn_r _ [8, 9, 10, 11, 12, 7, 13, 14, 15, 16, 17, 18, 19, 20, 21, 22, 26, 27] (by decide +kernel) (by decide +kernel)
set_option maxRecDepth 20000 in
theorem gX3_copyFrom_X2_copyFrom : GoodIn wsX3_copyFrom (wsV RX3 34 RX2 yX2_copyFrom wsX2_copyFrom) := goodIn_app (goodIn_of _ (by decide +kernel)) ggX3_copyFrom_X2_copyFrom
theorem dX3_copyFrom_0 : decode cX3_copyFrom 0 = .ok (.aload_n 0, 1) := by decide +kernel
theorem dX3_copyFrom_1 : decode cX3_copyFrom 1 = .ok (.getfield 14, 3) := by decide +kernel
theorem dX3_copyFrom_4 : decode cX3_copyFrom 4 = .ok (.aload_n 1, 1) := by decide +kernel
theorem dX3_copyFrom_5 : decode cX3_copyFrom 5 = .ok (.getfield 14, 3) := by decide +kernel
theorem dX3_copyFrom_8 : decode cX3_copyFrom 8 = .ok (.invokevirtual 34, 3) := by decide +kernel
theorem dX3_copyFrom_11 : decode cX3_copyFrom 11 = .ok (.aload_n 0, 1) := by decide +kernel
theorem dX3_copyFrom_12 : decode cX3_copyFrom 12 = .ok (.getfield 20, 3) := by decide +kernel
theorem dX3_copyFrom_15 : decode cX3_copyFrom 15 = .ok (.aload_n 1, 1) := by decide +kernel
theorem dX3_copyFrom_16 : decode cX3_copyFrom 16 = .ok (.getfield 20, 3) := by decide +kernel
theorem dX3_copyFrom_19 : decode cX3_copyFrom 19 = .ok (.invokevirtual 34, 3) := by decide +kernel
theorem dX3_copyFrom_22 : decode cX3_copyFrom 22 = .ok (.aload_n 0, 1) := by decide +kernel
theorem dX3_copyFrom_23 : decode cX3_copyFrom 23 = .ok (.getfield 27, 3) := by decide +kernel
theorem dX3_copyFrom_26 : decode cX3_copyFrom 26 = .ok (.aload_n 1, 1) := by decide +kernel
theorem dX3_copyFrom_27 : decode cX3_copyFrom 27 = .ok (.getfield 27, 3) := by decide +kernel
theorem dX3_copyFrom_30 : decode cX3_copyFrom 30 = .ok (.invokevirtual 34, 3) := by decide +kernel
theorem dX3_copyFrom_33 : decode cX3_copyFrom 33 = .ok (.return_, 1) := by decide +kernel
set_option maxRecDepth 20000 in
theorem ggX4_init_X2_init : GoodIn wsX4_init wsX2_init := goodIn_r _ [10, 11, 2, 3, 12, 13, 14, 15, 16, 17, 18, 19, 20] (by decide +kernel) (by decide +kernel)
set_option maxRecDepth 20000 in
theorem gX4_init_X2_init : GoodIn wsX4_init (wsX2_init) := ggX4_init_X2_init
theorem dX4_init_0 : decode cX4_init 0 = .ok (.aload_n 0, 1) := by decide +kernel
theorem dX4_init_1 : decode cX4_init 1 = .ok (.invokespecial 3, 3) := by decide +kernel
theorem dX4_init_4 : decode cX4_init 4 = .ok (.aload_n 0, 1) := by decide +kernel
theorem dX4_init_5 : decode cX4_init 5 = .ok (.new 9, 3) := by decide +kernel
theorem dX4_init_8 : decode cX4_init 8 = .ok (.dup, 1) := by decide +kernel
theorem dX4_init_9 : decode cX4_init 9 = .ok (.sipush 200, 3) := by decide +kernel
theorem dX4_init_12 : decode cX4_init 12 = .ok (.invokespecial 11, 3) := by decide +kernel
theorem dX4_init_15 : decode cX4_init 15 = .ok (.putfield 14, 3) := by decide +kernel
theorem dX4_init_18 : decode cX4_init 18 = .ok (.return_, 1) := by decide +kernel
set_option maxRecDepth 20000 in
theorem ggX4_layOut_X2_empty : GoodIn wsX4_layOut wsX2_empty := goodIn_r _ [6, 7, 36, 37] (by decide +kernel) (by decide +kernel)
set_option maxRecDepth 20000 in
theorem gX4_layOut_X2_empty : GoodIn wsX4_layOut (wsV RX4 20 RX2 yX2_empty wsX2_empty) := goodIn_app (goodIn_of _ (by decide +kernel)) ggX4_layOut_X2_empty
set_option maxRecDepth 20000 in
theorem ggX4_layOut_X4_addZeros : GoodIn wsX4_layOut wsX4_addZeros := goodIn_r _ [12, 1, 13, 14, 15, 5, 16, 7, 17, 35, 36, 37] (by decide +kernel) (by decide +kernel)
set_option maxRecDepth 20000 in
theorem gX4_layOut_X4_addZeros : GoodIn wsX4_layOut (wsV RX4 23 RX4 yX4_addZeros wsX4_addZeros) := goodIn_app (goodIn_of _ (by decide +kernel)) ggX4_layOut_X4_addZeros
set_option maxRecDepth 20000 in
theorem ggX4_layOut_X4_addGroup : GoodIn wsX4_layOut wsX4_addGroup := goodIn_r _ [21, 1, 13, 14, 15, 5, 16, 7, 17, 35, 36, 37] (by decide +kernel) (by decide +kernel)
set_option maxRecDepth 20000 in
theorem gX4_layOut_X4_addGroup : GoodIn wsX4_layOut (wsV RX4 26 RX4 yX4_addGroup wsX4_addGroup) := goodIn_app (goodIn_of _ (by decide +kernel)) ggX4_layOut_X4_addGroup
set_option maxRecDepth 20000 in
theorem ggX4_layOut_X2_size : GoodIn wsX4_layOut wsX2_size := goodIn_r _ [25, 7, 36, 37] (by decide +kernel) (by decide +kernel)
set_option maxRecDepth 20000 in
theorem gX4_layOut_X2_size : GoodIn wsX4_layOut (wsV RX4 29 RX2 yX2_size wsX2_size) := goodIn_app (goodIn_of _ (by decide +kernel)) ggX4_layOut_X2_size
set_option maxRecDepth 20000 in
theorem ggX4_layOut_X2_at : GoodIn wsX4_layOut wsX2_at := goodIn_r _ [29, 7, 17, 36, 37] (by decide +kernel) (by decide +kernel)
set_option maxRecDepth 20000 in
theorem gX4_layOut_X2_at : GoodIn wsX4_layOut (wsV RX4 33 RX2 yX2_at wsX2_at) := goodIn_app (goodIn_of _ (by decide +kernel)) ggX4_layOut_X2_at
set_option maxRecDepth 20000 in
theorem ggX4_layOut_X5_checkOf : GoodIn wsX4_layOut wsX5_checkOf := goodIn_r _ [32, 33, 23, 24, 5, 25, 7, 34, 27, 28, 29, 17, 36, 37] (by decide +kernel) (by decide +kernel)
set_option maxRecDepth 20000 in
theorem gX4_layOut_X5_checkOf_n37 : GoodIn wsX4_layOut (wsX5_checkOf) := ggX4_layOut_X5_checkOf
theorem dX4_layOut_0 : decode cX4_layOut 0 = .ok (.aload_n 0, 1) := by decide +kernel
theorem dX4_layOut_1 : decode cX4_layOut 1 = .ok (.getfield 14, 3) := by decide +kernel
theorem dX4_layOut_4 : decode cX4_layOut 4 = .ok (.invokevirtual 20, 3) := by decide +kernel
theorem dX4_layOut_7 : decode cX4_layOut 7 = .ok (.aload_n 0, 1) := by decide +kernel
theorem dX4_layOut_8 : decode cX4_layOut 8 = .ok (.iload_n 2, 1) := by decide +kernel
theorem dX4_layOut_9 : decode cX4_layOut 9 = .ok (.invokevirtual 23, 3) := by decide +kernel
theorem dX4_layOut_12 : decode cX4_layOut 12 = .ok (.aload_n 0, 1) := by decide +kernel
theorem dX4_layOut_13 : decode cX4_layOut 13 = .ok (.bipush 11, 2) := by decide +kernel
theorem dX4_layOut_15 : decode cX4_layOut 15 = .ok (.invokevirtual 26, 3) := by decide +kernel
theorem dX4_layOut_18 : decode cX4_layOut 18 = .ok (.iconst 0, 1) := by decide +kernel
theorem dX4_layOut_19 : decode cX4_layOut 19 = .ok (.istore_n 3, 1) := by decide +kernel
theorem dX4_layOut_20 : decode cX4_layOut 20 = .ok (.iload_n 3, 1) := by decide +kernel
theorem dX4_layOut_21 : decode cX4_layOut 21 = .ok (.aload_n 1, 1) := by decide +kernel
theorem dX4_layOut_22 : decode cX4_layOut 22 = .ok (.invokevirtual 29, 3) := by decide +kernel
theorem dX4_layOut_25 : decode cX4_layOut 25 = .ok (.if_icmp .ge 18, 3) := by decide +kernel
theorem dX4_layOut_28 : decode cX4_layOut 28 = .ok (.aload_n 0, 1) := by decide +kernel
theorem dX4_layOut_29 : decode cX4_layOut 29 = .ok (.aload_n 1, 1) := by decide +kernel
theorem dX4_layOut_30 : decode cX4_layOut 30 = .ok (.iload_n 3, 1) := by decide +kernel
theorem dX4_layOut_31 : decode cX4_layOut 31 = .ok (.invokevirtual 33, 3) := by decide +kernel
theorem dX4_layOut_34 : decode cX4_layOut 34 = .ok (.invokevirtual 26, 3) := by decide +kernel
theorem dX4_layOut_37 : decode cX4_layOut 37 = .ok (.iinc 3 1, 3) := by decide +kernel
theorem dX4_layOut_40 : decode cX4_layOut 40 = .ok (.goto (-20), 3) := by decide +kernel
theorem dX4_layOut_43 : decode cX4_layOut 43 = .ok (.aload_n 0, 1) := by decide +kernel
theorem dX4_layOut_44 : decode cX4_layOut 44 = .ok (.bipush 15, 2) := by decide +kernel
theorem dX4_layOut_46 : decode cX4_layOut 46 = .ok (.invokevirtual 26, 3) := by decide +kernel
theorem dX4_layOut_49 : decode cX4_layOut 49 = .ok (.aload_n 0, 1) := by decide +kernel
theorem dX4_layOut_50 : decode cX4_layOut 50 = .ok (.aload_n 1, 1) := by decide +kernel
theorem dX4_layOut_51 : decode cX4_layOut 51 = .ok (.invokestatic 37, 3) := by decide +kernel
theorem dX4_layOut_54 : decode cX4_layOut 54 = .ok (.invokevirtual 26, 3) := by decide +kernel
theorem dX4_layOut_57 : decode cX4_layOut 57 = .ok (.aload_n 0, 1) := by decide +kernel
theorem dX4_layOut_58 : decode cX4_layOut 58 = .ok (.iload_n 2, 1) := by decide +kernel
theorem dX4_layOut_59 : decode cX4_layOut 59 = .ok (.invokevirtual 23, 3) := by decide +kernel
theorem dX4_layOut_62 : decode cX4_layOut 62 = .ok (.return_, 1) := by decide +kernel
set_option maxRecDepth 20000 in
theorem ggX4_addZeros_X2_add : GoodIn wsX4_addZeros wsX2_add := goodIn_r _ [6, 7, 8, 10, 11] (by decide +kernel) (by decide +kernel)
set_option maxRecDepth 20000 in
theorem gX4_addZeros_X2_add : GoodIn wsX4_addZeros (wsV RX4 41 RX2 yX2_add wsX2_add) := goodIn_app (goodIn_of _ (by decide +kernel)) ggX4_addZeros_X2_add
theorem dX4_addZeros_0 : decode cX4_addZeros 0 = .ok (.iconst 0, 1) := by decide +kernel
theorem dX4_addZeros_1 : decode cX4_addZeros 1 = .ok (.istore_n 2, 1) := by decide +kernel
theorem dX4_addZeros_2 : decode cX4_addZeros 2 = .ok (.iload_n 2, 1) := by decide +kernel
theorem dX4_addZeros_3 : decode cX4_addZeros 3 = .ok (.iload_n 1, 1) := by decide +kernel
theorem dX4_addZeros_4 : decode cX4_addZeros 4 = .ok (.if_icmp .ge 18, 3) := by decide +kernel
theorem dX4_addZeros_7 : decode cX4_addZeros 7 = .ok (.aload_n 0, 1) := by decide +kernel
theorem dX4_addZeros_8 : decode cX4_addZeros 8 = .ok (.getfield 14, 3) := by decide +kernel
theorem dX4_addZeros_11 : decode cX4_addZeros 11 = .ok (.iconst 0, 1) := by decide +kernel
theorem dX4_addZeros_12 : decode cX4_addZeros 12 = .ok (.invokevirtual 41, 3) := by decide +kernel
theorem dX4_addZeros_15 : decode cX4_addZeros 15 = .ok (.pop, 1) := by decide +kernel
theorem dX4_addZeros_16 : decode cX4_addZeros 16 = .ok (.iinc 2 1, 3) := by decide +kernel
theorem dX4_addZeros_19 : decode cX4_addZeros 19 = .ok (.goto (-17), 3) := by decide +kernel
theorem dX4_addZeros_22 : decode cX4_addZeros 22 = .ok (.return_, 1) := by decide +kernel
set_option maxRecDepth 20000 in
theorem ggX4_addGroup_X2_add : GoodIn wsX4_addGroup wsX2_add := goodIn_r _ [6, 7, 8, 10, 11] (by decide +kernel) (by decide +kernel)
set_option maxRecDepth 20000 in
theorem gX4_addGroup_X2_add : GoodIn wsX4_addGroup (wsV RX4 41 RX2 yX2_add wsX2_add) := goodIn_app (goodIn_of _ (by decide +kernel)) ggX4_addGroup_X2_add
theorem dX4_addGroup_0 : decode cX4_addGroup 0 = .ok (.iconst 1, 1) := by decide +kernel
theorem dX4_addGroup_1 : decode cX4_addGroup 1 = .ok (.istore_n 2, 1) := by decide +kernel
theorem dX4_addGroup_2 : decode cX4_addGroup 2 = .ok (.iconst 0, 1) := by decide +kernel
theorem dX4_addGroup_3 : decode cX4_addGroup 3 = .ok (.istore_n 3, 1) := by decide +kernel
theorem dX4_addGroup_4 : decode cX4_addGroup 4 = .ok (.iload_n 3, 1) := by decide +kernel
theorem dX4_addGroup_5 : decode cX4_addGroup 5 = .ok (.iconst 4, 1) := by decide +kernel
theorem dX4_addGroup_6 : decode cX4_addGroup 6 = .ok (.if_icmp .ge 31, 3) := by decide +kernel
theorem dX4_addGroup_9 : decode cX4_addGroup 9 = .ok (.iload_n 1, 1) := by decide +kernel
theorem dX4_addGroup_10 : decode cX4_addGroup 10 = .ok (.iload_n 3, 1) := by decide +kernel
theorem dX4_addGroup_11 : decode cX4_addGroup 11 = .ok (.ishr, 1) := by decide +kernel
theorem dX4_addGroup_12 : decode cX4_addGroup 12 = .ok (.iconst 1, 1) := by decide +kernel
theorem dX4_addGroup_13 : decode cX4_addGroup 13 = .ok (.iand, 1) := by decide +kernel
theorem dX4_addGroup_14 : decode cX4_addGroup 14 = .ok (.istore 4, 2) := by decide +kernel
theorem dX4_addGroup_16 : decode cX4_addGroup 16 = .ok (.aload_n 0, 1) := by decide +kernel
theorem dX4_addGroup_17 : decode cX4_addGroup 17 = .ok (.getfield 14, 3) := by decide +kernel
theorem dX4_addGroup_20 : decode cX4_addGroup 20 = .ok (.iload 4, 2) := by decide +kernel
theorem dX4_addGroup_22 : decode cX4_addGroup 22 = .ok (.invokevirtual 41, 3) := by decide +kernel
theorem dX4_addGroup_25 : decode cX4_addGroup 25 = .ok (.pop, 1) := by decide +kernel
theorem dX4_addGroup_26 : decode cX4_addGroup 26 = .ok (.iload_n 2, 1) := by decide +kernel
theorem dX4_addGroup_27 : decode cX4_addGroup 27 = .ok (.iload 4, 2) := by decide +kernel
theorem dX4_addGroup_29 : decode cX4_addGroup 29 = .ok (.ixor, 1) := by decide +kernel
theorem dX4_addGroup_30 : decode cX4_addGroup 30 = .ok (.istore_n 2, 1) := by decide +kernel
theorem dX4_addGroup_31 : decode cX4_addGroup 31 = .ok (.iinc 3 1, 3) := by decide +kernel
theorem dX4_addGroup_34 : decode cX4_addGroup 34 = .ok (.goto (-30), 3) := by decide +kernel
theorem dX4_addGroup_37 : decode cX4_addGroup 37 = .ok (.aload_n 0, 1) := by decide +kernel
theorem dX4_addGroup_38 : decode cX4_addGroup 38 = .ok (.getfield 14, 3) := by decide +kernel
theorem dX4_addGroup_41 : decode cX4_addGroup 41 = .ok (.iload_n 2, 1) := by decide +kernel
theorem dX4_addGroup_42 : decode cX4_addGroup 42 = .ok (.invokevirtual 41, 3) := by decide +kernel
theorem dX4_addGroup_45 : decode cX4_addGroup 45 = .ok (.pop, 1) := by decide +kernel
theorem dX4_addGroup_46 : decode cX4_addGroup 46 = .ok (.return_, 1) := by decide +kernel
set_option maxRecDepth 20000 in
theorem ggX4_timesNeeded_X2_size : GoodIn wsX4_timesNeeded wsX2_size := goodIn_r _ [6, 7, 18, 19] (by decide +kernel) (by decide +kernel)
set_option maxRecDepth 20000 in
theorem gX4_timesNeeded_X2_size : GoodIn wsX4_timesNeeded (wsV RX4 29 RX2 yX2_size wsX2_size) := goodIn_app (goodIn_of _ (by decide +kernel)) ggX4_timesNeeded_X2_size
set_option maxRecDepth 20000 in
theorem ggX4_timesNeeded_X2_sum : GoodIn wsX4_timesNeeded wsX2_sum := goodIn_r _ [11, 7, 12, 13, 14, 5, 15, 16, 18, 19] (by decide +kernel) (by decide +kernel)
set_option maxRecDepth 20000 in
theorem gX4_timesNeeded_X2_sum : GoodIn wsX4_timesNeeded (wsV RX4 45 RX2 yX2_sum wsX2_sum) := goodIn_app (goodIn_of _ (by decide +kernel)) ggX4_timesNeeded_X2_sum
theorem dX4_timesNeeded_0 : decode cX4_timesNeeded 0 = .ok (.aload_n 0, 1) := by decide +kernel
theorem dX4_timesNeeded_1 : decode cX4_timesNeeded 1 = .ok (.getfield 14, 3) := by decide +kernel
theorem dX4_timesNeeded_4 : decode cX4_timesNeeded 4 = .ok (.invokevirtual 29, 3) := by decide +kernel
theorem dX4_timesNeeded_7 : decode cX4_timesNeeded 7 = .ok (.aload_n 0, 1) := by decide +kernel
theorem dX4_timesNeeded_8 : decode cX4_timesNeeded 8 = .ok (.getfield 14, 3) := by decide +kernel
theorem dX4_timesNeeded_11 : decode cX4_timesNeeded 11 = .ok (.invokevirtual 45, 3) := by decide +kernel
theorem dX4_timesNeeded_14 : decode cX4_timesNeeded 14 = .ok (.iadd, 1) := by decide +kernel
theorem dX4_timesNeeded_15 : decode cX4_timesNeeded 15 = .ok (.ireturn, 1) := by decide +kernel
set_option maxRecDepth 20000 in
theorem ggX4_passInto_X2_empty : GoodIn wsX4_passInto wsX2_empty := goodIn_r _ [6, 7, 22, 23] (by decide +kernel) (by decide +kernel)
set_option maxRecDepth 20000 in
theorem gX4_passInto_X2_empty : GoodIn wsX4_passInto (wsV RX4 20 RX2 yX2_empty wsX2_empty) := goodIn_app (goodIn_of _ (by decide +kernel)) ggX4_passInto_X2_empty
set_option maxRecDepth 20000 in
theorem ggX4_passInto_X2_size : GoodIn wsX4_passInto wsX2_size := goodIn_r _ [11, 7, 22, 23] (by decide +kernel) (by decide +kernel)
set_option maxRecDepth 20000 in
theorem gX4_passInto_X2_size : GoodIn wsX4_passInto (wsV RX4 29 RX2 yX2_size wsX2_size) := goodIn_app (goodIn_of _ (by decide +kernel)) ggX4_passInto_X2_size
set_option maxRecDepth 20000 in
theorem ggX4_passInto_X2_at : GoodIn wsX4_passInto wsX2_at := goodIn_r _ [15, 7, 16, 22, 23] (by decide +kernel) (by decide +kernel)
set_option maxRecDepth 20000 in
theorem gX4_passInto_X2_at : GoodIn wsX4_passInto (wsV RX4 33 RX2 yX2_at wsX2_at) := goodIn_app (goodIn_of _ (by decide +kernel)) ggX4_passInto_X2_at
set_option maxRecDepth 20000 in
theorem ggX4_passInto_X2_add : GoodIn wsX4_passInto wsX2_add := goodIn_r _ [20, 7, 16, 22, 23] (by decide +kernel) (by decide +kernel)
set_option maxRecDepth 20000 in
theorem gX4_passInto_X2_add : GoodIn wsX4_passInto (wsV RX4 41 RX2 yX2_add wsX2_add) := goodIn_app (goodIn_of _ (by decide +kernel)) ggX4_passInto_X2_add
theorem dX4_passInto_0 : decode cX4_passInto 0 = .ok (.aload_n 1, 1) := by decide +kernel
theorem dX4_passInto_1 : decode cX4_passInto 1 = .ok (.invokevirtual 20, 3) := by decide +kernel
theorem dX4_passInto_4 : decode cX4_passInto 4 = .ok (.iconst 0, 1) := by decide +kernel
theorem dX4_passInto_5 : decode cX4_passInto 5 = .ok (.istore_n 3, 1) := by decide +kernel
theorem dX4_passInto_6 : decode cX4_passInto 6 = .ok (.iload_n 3, 1) := by decide +kernel
theorem dX4_passInto_7 : decode cX4_passInto 7 = .ok (.aload_n 0, 1) := by decide +kernel
theorem dX4_passInto_8 : decode cX4_passInto 8 = .ok (.getfield 14, 3) := by decide +kernel
theorem dX4_passInto_11 : decode cX4_passInto 11 = .ok (.invokevirtual 29, 3) := by decide +kernel
theorem dX4_passInto_14 : decode cX4_passInto 14 = .ok (.if_icmp .ge 68, 3) := by decide +kernel
theorem dX4_passInto_17 : decode cX4_passInto 17 = .ok (.sipush 200, 3) := by decide +kernel
theorem dX4_passInto_20 : decode cX4_passInto 20 = .ok (.iload_n 2, 1) := by decide +kernel
theorem dX4_passInto_21 : decode cX4_passInto 21 = .ok (.iload_n 3, 1) := by decide +kernel
theorem dX4_passInto_22 : decode cX4_passInto 22 = .ok (.iconst 5, 1) := by decide +kernel
theorem dX4_passInto_23 : decode cX4_passInto 23 = .ok (.irem, 1) := by decide +kernel
theorem dX4_passInto_24 : decode cX4_passInto 24 = .ok (.imul, 1) := by decide +kernel
theorem dX4_passInto_25 : decode cX4_passInto 25 = .ok (.iadd, 1) := by decide +kernel
theorem dX4_passInto_26 : decode cX4_passInto 26 = .ok (.iconst 2, 1) := by decide +kernel
theorem dX4_passInto_27 : decode cX4_passInto 27 = .ok (.iload_n 2, 1) := by decide +kernel
theorem dX4_passInto_28 : decode cX4_passInto 28 = .ok (.imul, 1) := by decide +kernel
theorem dX4_passInto_29 : decode cX4_passInto 29 = .ok (.isub, 1) := by decide +kernel
theorem dX4_passInto_30 : decode cX4_passInto 30 = .ok (.istore 4, 2) := by decide +kernel
theorem dX4_passInto_32 : decode cX4_passInto 32 = .ok (.aload_n 0, 1) := by decide +kernel
theorem dX4_passInto_33 : decode cX4_passInto 33 = .ok (.getfield 14, 3) := by decide +kernel
theorem dX4_passInto_36 : decode cX4_passInto 36 = .ok (.iload_n 3, 1) := by decide +kernel
theorem dX4_passInto_37 : decode cX4_passInto 37 = .ok (.invokevirtual 33, 3) := by decide +kernel
theorem dX4_passInto_40 : decode cX4_passInto 40 = .ok (.ifCond .ne 13, 3) := by decide +kernel
theorem dX4_passInto_43 : decode cX4_passInto 43 = .ok (.aload_n 1, 1) := by decide +kernel
theorem dX4_passInto_44 : decode cX4_passInto 44 = .ok (.iload 4, 2) := by decide +kernel
theorem dX4_passInto_46 : decode cX4_passInto 46 = .ok (.invokevirtual 41, 3) := by decide +kernel
theorem dX4_passInto_49 : decode cX4_passInto 49 = .ok (.pop, 1) := by decide +kernel
theorem dX4_passInto_50 : decode cX4_passInto 50 = .ok (.goto 26, 3) := by decide +kernel
theorem dX4_passInto_53 : decode cX4_passInto 53 = .ok (.iload 4, 2) := by decide +kernel
theorem dX4_passInto_55 : decode cX4_passInto 55 = .ok (.iconst 2, 1) := by decide +kernel
theorem dX4_passInto_56 : decode cX4_passInto 56 = .ok (.idiv, 1) := by decide +kernel
theorem dX4_passInto_57 : decode cX4_passInto 57 = .ok (.istore 5, 2) := by decide +kernel
theorem dX4_passInto_59 : decode cX4_passInto 59 = .ok (.aload_n 1, 1) := by decide +kernel
theorem dX4_passInto_60 : decode cX4_passInto 60 = .ok (.iload 5, 2) := by decide +kernel
theorem dX4_passInto_62 : decode cX4_passInto 62 = .ok (.invokevirtual 41, 3) := by decide +kernel
theorem dX4_passInto_65 : decode cX4_passInto 65 = .ok (.pop, 1) := by decide +kernel
theorem dX4_passInto_66 : decode cX4_passInto 66 = .ok (.aload_n 1, 1) := by decide +kernel
theorem dX4_passInto_67 : decode cX4_passInto 67 = .ok (.iload 4, 2) := by decide +kernel
theorem dX4_passInto_69 : decode cX4_passInto 69 = .ok (.iload 5, 2) := by decide +kernel
theorem dX4_passInto_71 : decode cX4_passInto 71 = .ok (.isub, 1) := by decide +kernel
theorem dX4_passInto_72 : decode cX4_passInto 72 = .ok (.invokevirtual 41, 3) := by decide +kernel
theorem dX4_passInto_75 : decode cX4_passInto 75 = .ok (.pop, 1) := by decide +kernel
theorem dX4_passInto_76 : decode cX4_passInto 76 = .ok (.iinc 3 1, 3) := by decide +kernel
theorem dX4_passInto_79 : decode cX4_passInto 79 = .ok (.goto (-73), 3) := by decide +kernel
theorem dX4_passInto_82 : decode cX4_passInto 82 = .ok (.return_, 1) := by decide +kernel
