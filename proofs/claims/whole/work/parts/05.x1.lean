set_option maxRecDepth 20000 in
theorem ggX1_init_X0_init : GoodIn wsX1_init wsX0_init := goodIn_r _ [16, 17, 2, 3, 18, 19, 20, 29, 30] (by decide +kernel) (by decide +kernel)
set_option maxRecDepth 20000 in
theorem gX1_init_X0_init_n15 : GoodIn wsX1_init (wsX0_init) := ggX1_init_X0_init
theorem dX1_init_0 : decode cX1_init 0 = .ok (.aload_n 0, 1) := by decide +kernel
theorem dX1_init_1 : decode cX1_init 1 = .ok (.invokespecial 1, 3) := by decide +kernel
theorem dX1_init_4 : decode cX1_init 4 = .ok (.aload_n 0, 1) := by decide +kernel
theorem dX1_init_5 : decode cX1_init 5 = .ok (.iconst 4, 1) := by decide +kernel
theorem dX1_init_6 : decode cX1_init 6 = .ok (.anewarray 9, 3) := by decide +kernel
theorem dX1_init_9 : decode cX1_init 9 = .ok (.putfield 11, 3) := by decide +kernel
theorem dX1_init_12 : decode cX1_init 12 = .ok (.aload_n 0, 1) := by decide +kernel
theorem dX1_init_13 : decode cX1_init 13 = .ok (.new 9, 3) := by decide +kernel
theorem dX1_init_16 : decode cX1_init 16 = .ok (.dup, 1) := by decide +kernel
theorem dX1_init_17 : decode cX1_init 17 = .ok (.invokespecial 15, 3) := by decide +kernel
theorem dX1_init_20 : decode cX1_init 20 = .ok (.putfield 16, 3) := by decide +kernel
theorem dX1_init_23 : decode cX1_init 23 = .ok (.aload_n 0, 1) := by decide +kernel
theorem dX1_init_24 : decode cX1_init 24 = .ok (.new 9, 3) := by decide +kernel
theorem dX1_init_27 : decode cX1_init 27 = .ok (.dup, 1) := by decide +kernel
theorem dX1_init_28 : decode cX1_init 28 = .ok (.invokespecial 15, 3) := by decide +kernel
theorem dX1_init_31 : decode cX1_init 31 = .ok (.putfield 20, 3) := by decide +kernel
theorem dX1_init_34 : decode cX1_init 34 = .ok (.aload_n 0, 1) := by decide +kernel
theorem dX1_init_35 : decode cX1_init 35 = .ok (.new 9, 3) := by decide +kernel
theorem dX1_init_38 : decode cX1_init 38 = .ok (.dup, 1) := by decide +kernel
theorem dX1_init_39 : decode cX1_init 39 = .ok (.invokespecial 15, 3) := by decide +kernel
theorem dX1_init_42 : decode cX1_init 42 = .ok (.putfield 23, 3) := by decide +kernel
theorem dX1_init_45 : decode cX1_init 45 = .ok (.aload_n 0, 1) := by decide +kernel
theorem dX1_init_46 : decode cX1_init 46 = .ok (.new 9, 3) := by decide +kernel
theorem dX1_init_49 : decode cX1_init 49 = .ok (.dup, 1) := by decide +kernel
theorem dX1_init_50 : decode cX1_init 50 = .ok (.invokespecial 15, 3) := by decide +kernel
theorem dX1_init_53 : decode cX1_init 53 = .ok (.putfield 26, 3) := by decide +kernel
theorem dX1_init_56 : decode cX1_init 56 = .ok (.aload_n 0, 1) := by decide +kernel
theorem dX1_init_57 : decode cX1_init 57 = .ok (.new 9, 3) := by decide +kernel
theorem dX1_init_60 : decode cX1_init 60 = .ok (.dup, 1) := by decide +kernel
theorem dX1_init_61 : decode cX1_init 61 = .ok (.invokespecial 15, 3) := by decide +kernel
theorem dX1_init_64 : decode cX1_init 64 = .ok (.putfield 29, 3) := by decide +kernel
theorem dX1_init_67 : decode cX1_init 67 = .ok (.aload_n 0, 1) := by decide +kernel
theorem dX1_init_68 : decode cX1_init 68 = .ok (.new 9, 3) := by decide +kernel
theorem dX1_init_71 : decode cX1_init 71 = .ok (.dup, 1) := by decide +kernel
theorem dX1_init_72 : decode cX1_init 72 = .ok (.invokespecial 15, 3) := by decide +kernel
theorem dX1_init_75 : decode cX1_init 75 = .ok (.putfield 32, 3) := by decide +kernel
theorem dX1_init_78 : decode cX1_init 78 = .ok (.aload_n 0, 1) := by decide +kernel
theorem dX1_init_79 : decode cX1_init 79 = .ok (.iconst 1, 1) := by decide +kernel
theorem dX1_init_80 : decode cX1_init 80 = .ok (.putfield 35, 3) := by decide +kernel
theorem dX1_init_83 : decode cX1_init 83 = .ok (.iconst 0, 1) := by decide +kernel
theorem dX1_init_84 : decode cX1_init 84 = .ok (.istore_n 1, 1) := by decide +kernel
theorem dX1_init_85 : decode cX1_init 85 = .ok (.iload_n 1, 1) := by decide +kernel
theorem dX1_init_86 : decode cX1_init 86 = .ok (.iconst 4, 1) := by decide +kernel
theorem dX1_init_87 : decode cX1_init 87 = .ok (.if_icmp .ge 22, 3) := by decide +kernel
theorem dX1_init_90 : decode cX1_init 90 = .ok (.aload_n 0, 1) := by decide +kernel
theorem dX1_init_91 : decode cX1_init 91 = .ok (.getfield 11, 3) := by decide +kernel
theorem dX1_init_94 : decode cX1_init 94 = .ok (.iload_n 1, 1) := by decide +kernel
theorem dX1_init_95 : decode cX1_init 95 = .ok (.new 9, 3) := by decide +kernel
theorem dX1_init_98 : decode cX1_init 98 = .ok (.dup, 1) := by decide +kernel
theorem dX1_init_99 : decode cX1_init 99 = .ok (.invokespecial 15, 3) := by decide +kernel
theorem dX1_init_102 : decode cX1_init 102 = .ok (.aastore, 1) := by decide +kernel
theorem dX1_init_103 : decode cX1_init 103 = .ok (.iinc 1 1, 3) := by decide +kernel
theorem dX1_init_106 : decode cX1_init 106 = .ok (.goto (-21), 3) := by decide +kernel
theorem dX1_init_109 : decode cX1_init 109 = .ok (.return_, 1) := by decide +kernel
set_option maxRecDepth 20000 in
theorem ggX1_make_X1_rowAt : GoodIn wsX1_make wsX1_rowAt := goodIn_ca (goodIn_r _ [6, 7, 8, 9, 31, 32, 33, 34, 35, 36, 37, 38] (by decide +kernel) (by decide +kernel)) (goodIn_sub (fun _ h => List.mem_cons_of_mem _ (List.mem_append_left _ (List.mem_append_right _ h))) (by decide +kernel))
set_option maxRecDepth 20000 in
theorem gX1_make_X1_rowAt : GoodIn wsX1_make (wsV RX1 39 RX1 yX1_rowAt wsX1_rowAt) := goodIn_app (goodIn_of _ (by decide +kernel)) ggX1_make_X1_rowAt
set_option maxRecDepth 20000 in
theorem ggX1_make_X1_needLength : GoodIn wsX1_make wsX1_needLength := goodIn_ca (goodIn_r _ [12, 13, 14, 15, 16, 5, 17] (by decide +kernel) (by decide +kernel)) (goodIn_sub (fun _ h => List.mem_cons_of_mem _ (List.mem_append_right _ h)) (by decide +kernel))
set_option maxRecDepth 20000 in
theorem gX1_make_X1_needLength : GoodIn wsX1_make (va_wsS RX1 43 yX1_needLength wsX1_needLength) := goodIn_app (goodIn_of _ (by decide +kernel)) ggX1_make_X1_needLength
set_option maxRecDepth 20000 in
theorem ggX1_make_X0_clear : GoodIn wsX1_make wsX0_clear := goodIn_r _ [22, 23, 24, 25, 26, 27, 28, 29, 30] (by decide +kernel) (by decide +kernel)
set_option maxRecDepth 20000 in
theorem gX1_make_X0_clear : GoodIn wsX1_make (wsV RX1 50 RX0 yX0_clear wsX0_clear) := goodIn_app (goodIn_of _ (by decide +kernel)) ggX1_make_X0_clear
theorem dX1_make_0 : decode cX1_make 0 = .ok (.aload_n 0, 1) := by decide +kernel
theorem dX1_make_1 : decode cX1_make 1 = .ok (.iload_n 1, 1) := by decide +kernel
theorem dX1_make_2 : decode cX1_make 2 = .ok (.invokevirtual 39, 3) := by decide +kernel
theorem dX1_make_5 : decode cX1_make 5 = .ok (.astore_n 3, 1) := by decide +kernel
theorem dX1_make_6 : decode cX1_make 6 = .ok (.iload_n 2, 1) := by decide +kernel
theorem dX1_make_7 : decode cX1_make 7 = .ok (.invokestatic 43, 3) := by decide +kernel
theorem dX1_make_10 : decode cX1_make 10 = .ok (.aload_n 3, 1) := by decide +kernel
theorem dX1_make_11 : decode cX1_make 11 = .ok (.getfield 47, 3) := by decide +kernel
theorem dX1_make_14 : decode cX1_make 14 = .ok (.istore 4, 2) := by decide +kernel
theorem dX1_make_16 : decode cX1_make 16 = .ok (.aload_n 3, 1) := by decide +kernel
theorem dX1_make_17 : decode cX1_make 17 = .ok (.iload_n 2, 1) := by decide +kernel
theorem dX1_make_18 : decode cX1_make 18 = .ok (.invokevirtual 50, 3) := by decide +kernel
theorem dX1_make_21 : decode cX1_make 21 = .ok (.iload 4, 2) := by decide +kernel
theorem dX1_make_23 : decode cX1_make 23 = .ok (.ireturn, 1) := by decide +kernel
set_option maxRecDepth 20000 in
theorem ggX1_set_X1_rowAt : GoodIn wsX1_set wsX1_rowAt := goodIn_ca (goodIn_r _ [6, 7, 8, 9, 25, 26, 27, 28, 29, 30, 31, 32] (by decide +kernel) (by decide +kernel)) (goodIn_sub (fun _ h => List.mem_cons_of_mem _ (List.mem_append_left _ (List.mem_append_right _ h))) (by decide +kernel))
set_option maxRecDepth 20000 in
theorem gX1_set_X1_rowAt : GoodIn wsX1_set (wsV RX1 39 RX1 yX1_rowAt wsX1_rowAt) := goodIn_app (goodIn_of _ (by decide +kernel)) ggX1_set_X1_rowAt
set_option maxRecDepth 20000 in
theorem ggX1_set_X1_needPlace : GoodIn wsX1_set wsX1_needPlace := goodIn_ca (goodIn_r _ [12, 7, 8, 13, 23, 24] (by decide +kernel) (by decide +kernel)) (goodIn_sub (fun _ h => List.mem_cons_of_mem _ (List.mem_append_left _ (List.mem_append_right _ h))) (by decide +kernel))
set_option maxRecDepth 20000 in
theorem gX1_set_X1_needPlace : GoodIn wsX1_set (va_wsS RX1 53 yX1_needPlace wsX1_needPlace) := goodIn_app (goodIn_of _ (by decide +kernel)) ggX1_set_X1_needPlace
set_option maxRecDepth 20000 in
theorem ggX1_set_X1_needNumber : GoodIn wsX1_set wsX1_needNumber := goodIn_ca (goodIn_r _ [16, 17, 18, 19, 20, 5, 21, 22] (by decide +kernel) (by decide +kernel)) (goodIn_sub (fun _ h => List.mem_cons_of_mem _ (List.mem_append_right _ h)) (by decide +kernel))
set_option maxRecDepth 20000 in
theorem gX1_set_X1_needNumber : GoodIn wsX1_set (va_wsS RX1 57 yX1_needNumber wsX1_needNumber) := goodIn_app (goodIn_of _ (by decide +kernel)) ggX1_set_X1_needNumber
theorem dX1_set_0 : decode cX1_set 0 = .ok (.aload_n 0, 1) := by decide +kernel
theorem dX1_set_1 : decode cX1_set 1 = .ok (.iload_n 1, 1) := by decide +kernel
theorem dX1_set_2 : decode cX1_set 2 = .ok (.invokevirtual 39, 3) := by decide +kernel
theorem dX1_set_5 : decode cX1_set 5 = .ok (.astore 4, 2) := by decide +kernel
theorem dX1_set_7 : decode cX1_set 7 = .ok (.aload 4, 2) := by decide +kernel
theorem dX1_set_9 : decode cX1_set 9 = .ok (.iload_n 2, 1) := by decide +kernel
theorem dX1_set_10 : decode cX1_set 10 = .ok (.invokestatic 53, 3) := by decide +kernel
theorem dX1_set_13 : decode cX1_set 13 = .ok (.iload_n 3, 1) := by decide +kernel
theorem dX1_set_14 : decode cX1_set 14 = .ok (.invokestatic 57, 3) := by decide +kernel
theorem dX1_set_17 : decode cX1_set 17 = .ok (.aload 4, 2) := by decide +kernel
theorem dX1_set_19 : decode cX1_set 19 = .ok (.getfield 60, 3) := by decide +kernel
theorem dX1_set_22 : decode cX1_set 22 = .ok (.iload_n 2, 1) := by decide +kernel
theorem dX1_set_23 : decode cX1_set 23 = .ok (.iaload, 1) := by decide +kernel
theorem dX1_set_24 : decode cX1_set 24 = .ok (.istore 5, 2) := by decide +kernel
theorem dX1_set_26 : decode cX1_set 26 = .ok (.aload 4, 2) := by decide +kernel
theorem dX1_set_28 : decode cX1_set 28 = .ok (.getfield 60, 3) := by decide +kernel
theorem dX1_set_31 : decode cX1_set 31 = .ok (.iload_n 2, 1) := by decide +kernel
theorem dX1_set_32 : decode cX1_set 32 = .ok (.iload_n 3, 1) := by decide +kernel
theorem dX1_set_33 : decode cX1_set 33 = .ok (.iastore, 1) := by decide +kernel
theorem dX1_set_34 : decode cX1_set 34 = .ok (.iload 5, 2) := by decide +kernel
theorem dX1_set_36 : decode cX1_set 36 = .ok (.ireturn, 1) := by decide +kernel
set_option maxRecDepth 20000 in
theorem ggX1_fill_X1_rowAt : GoodIn wsX1_fill wsX1_rowAt := goodIn_ca (goodIn_r _ [10, 1, 2, 11, 37, 38, 39, 40, 41, 42, 43, 44] (by decide +kernel) (by decide +kernel)) (goodIn_sub (fun _ h => List.mem_cons_of_mem _ (List.mem_append_left _ (List.mem_append_right _ h))) (by decide +kernel))
set_option maxRecDepth 20000 in
theorem gX1_fill_X1_rowAt : GoodIn wsX1_fill (wsV RX1 39 RX1 yX1_rowAt wsX1_rowAt) := goodIn_app (goodIn_of _ (by decide +kernel)) ggX1_fill_X1_rowAt
set_option maxRecDepth 20000 in
theorem ggX1_fill_X1_needNumber : GoodIn wsX1_fill wsX1_needNumber := goodIn_ca (goodIn_r _ [14, 15, 16, 17, 18, 9, 19, 20] (by decide +kernel) (by decide +kernel)) (goodIn_sub (fun _ h => List.mem_cons_of_mem _ (List.mem_append_right _ h)) (by decide +kernel))
set_option maxRecDepth 20000 in
theorem gX1_fill_X1_needNumber : GoodIn wsX1_fill (va_wsS RX1 57 yX1_needNumber wsX1_needNumber) := goodIn_app (goodIn_of _ (by decide +kernel)) ggX1_fill_X1_needNumber
set_option maxRecDepth 20000 in
theorem ggX1_fill_X0_take : GoodIn wsX1_fill wsX0_take := goodIn_r _ [25, 26, 27, 28, 29, 30, 31, 35, 36] (by decide +kernel) (by decide +kernel)
set_option maxRecDepth 20000 in
theorem gX1_fill_X0_take : GoodIn wsX1_fill (wsV RX1 71 RX0 yX0_take wsX0_take) := goodIn_app (goodIn_of _ (by decide +kernel)) ggX1_fill_X0_take
set_option maxRecDepth 20000 in
theorem ggX1_fill_X1_changed : GoodIn wsX1_fill wsX1_changed := goodIn_r _ [34, 3, 5, 21, 22, 23, 24, 25, 26, 27, 28, 29, 30, 31, 35, 36] (by decide +kernel) (by decide +kernel)
set_option maxRecDepth 20000 in
theorem gX1_fill_X1_changed : GoodIn wsX1_fill (va_wsS RX1 75 yX1_changed wsX1_changed) := goodIn_app (goodIn_of _ (by decide +kernel)) ggX1_fill_X1_changed
theorem dX1_fill_0 : decode cX1_fill 0 = .ok (.aload_n 0, 1) := by decide +kernel
theorem dX1_fill_1 : decode cX1_fill 1 = .ok (.iload_n 1, 1) := by decide +kernel
theorem dX1_fill_2 : decode cX1_fill 2 = .ok (.invokevirtual 39, 3) := by decide +kernel
theorem dX1_fill_5 : decode cX1_fill 5 = .ok (.astore 4, 2) := by decide +kernel
theorem dX1_fill_7 : decode cX1_fill 7 = .ok (.iload_n 2, 1) := by decide +kernel
theorem dX1_fill_8 : decode cX1_fill 8 = .ok (.ifCond .lt 12, 3) := by decide +kernel
theorem dX1_fill_11 : decode cX1_fill 11 = .ok (.iload_n 2, 1) := by decide +kernel
theorem dX1_fill_12 : decode cX1_fill 12 = .ok (.aload 4, 2) := by decide +kernel
theorem dX1_fill_14 : decode cX1_fill 14 = .ok (.getfield 47, 3) := by decide +kernel
theorem dX1_fill_17 : decode cX1_fill 17 = .ok (.if_icmp .le 13, 3) := by decide +kernel
theorem dX1_fill_20 : decode cX1_fill 20 = .ok (.new 64, 3) := by decide +kernel
theorem dX1_fill_23 : decode cX1_fill 23 = .ok (.dup, 1) := by decide +kernel
theorem dX1_fill_24 : decode cX1_fill 24 = .ok (.ldc 66, 2) := by decide +kernel
theorem dX1_fill_26 : decode cX1_fill 26 = .ok (.invokespecial 68, 3) := by decide +kernel
theorem dX1_fill_29 : decode cX1_fill 29 = .ok (.athrow, 1) := by decide +kernel
theorem dX1_fill_30 : decode cX1_fill 30 = .ok (.iload_n 3, 1) := by decide +kernel
theorem dX1_fill_31 : decode cX1_fill 31 = .ok (.invokestatic 57, 3) := by decide +kernel
theorem dX1_fill_34 : decode cX1_fill 34 = .ok (.aload_n 0, 1) := by decide +kernel
theorem dX1_fill_35 : decode cX1_fill 35 = .ok (.getfield 29, 3) := by decide +kernel
theorem dX1_fill_38 : decode cX1_fill 38 = .ok (.aload 4, 2) := by decide +kernel
theorem dX1_fill_40 : decode cX1_fill 40 = .ok (.invokevirtual 71, 3) := by decide +kernel
theorem dX1_fill_43 : decode cX1_fill 43 = .ok (.iload_n 2, 1) := by decide +kernel
theorem dX1_fill_44 : decode cX1_fill 44 = .ok (.istore 5, 2) := by decide +kernel
theorem dX1_fill_46 : decode cX1_fill 46 = .ok (.iload 5, 2) := by decide +kernel
theorem dX1_fill_48 : decode cX1_fill 48 = .ok (.aload 4, 2) := by decide +kernel
theorem dX1_fill_50 : decode cX1_fill 50 = .ok (.getfield 47, 3) := by decide +kernel
theorem dX1_fill_53 : decode cX1_fill 53 = .ok (.if_icmp .ge 20, 3) := by decide +kernel
theorem dX1_fill_56 : decode cX1_fill 56 = .ok (.aload_n 0, 1) := by decide +kernel
theorem dX1_fill_57 : decode cX1_fill 57 = .ok (.getfield 29, 3) := by decide +kernel
theorem dX1_fill_60 : decode cX1_fill 60 = .ok (.getfield 60, 3) := by decide +kernel
theorem dX1_fill_63 : decode cX1_fill 63 = .ok (.iload 5, 2) := by decide +kernel
theorem dX1_fill_65 : decode cX1_fill 65 = .ok (.iload_n 3, 1) := by decide +kernel
theorem dX1_fill_66 : decode cX1_fill 66 = .ok (.iastore, 1) := by decide +kernel
theorem dX1_fill_67 : decode cX1_fill 67 = .ok (.iinc 5 1, 3) := by decide +kernel
theorem dX1_fill_70 : decode cX1_fill 70 = .ok (.goto (-24), 3) := by decide +kernel
theorem dX1_fill_73 : decode cX1_fill 73 = .ok (.aload 4, 2) := by decide +kernel
theorem dX1_fill_75 : decode cX1_fill 75 = .ok (.aload_n 0, 1) := by decide +kernel
theorem dX1_fill_76 : decode cX1_fill 76 = .ok (.getfield 29, 3) := by decide +kernel
theorem dX1_fill_79 : decode cX1_fill 79 = .ok (.invokestatic 75, 3) := by decide +kernel
theorem dX1_fill_82 : decode cX1_fill 82 = .ok (.ireturn, 1) := by decide +kernel
set_option maxRecDepth 20000 in
theorem ggX1_copy_X1_rowAt : GoodIn wsX1_copy wsX1_rowAt := goodIn_ca (goodIn_r _ [5, 6, 7, 8, 24, 25, 26, 27, 28, 29, 30, 31] (by decide +kernel) (by decide +kernel)) (goodIn_sub (fun _ h => List.mem_cons_of_mem _ (List.mem_append_right _ h)) (by decide +kernel))
set_option maxRecDepth 20000 in
theorem gX1_copy_X1_rowAt : GoodIn wsX1_copy (wsV RX1 39 RX1 yX1_rowAt wsX1_rowAt) := goodIn_app (goodIn_of _ (by decide +kernel)) ggX1_copy_X1_rowAt
set_option maxRecDepth 20000 in
theorem ggX1_copy_X0_isLike : GoodIn wsX1_copy wsX0_isLike := goodIn_r _ [13, 14, 15, 32, 33] (by decide +kernel) (by decide +kernel)
set_option maxRecDepth 20000 in
theorem gX1_copy_X0_isLike : GoodIn wsX1_copy (wsV RX1 79 RX0 yX0_isLike wsX0_isLike) := goodIn_app (goodIn_of _ (by decide +kernel)) ggX1_copy_X0_isLike
set_option maxRecDepth 20000 in
theorem ggX1_copy_X0_take : GoodIn wsX1_copy wsX0_take := goodIn_r _ [19, 14, 15, 20, 21, 22, 23, 32, 33] (by decide +kernel) (by decide +kernel)
set_option maxRecDepth 20000 in
theorem gX1_copy_X0_take : GoodIn wsX1_copy (wsV RX1 71 RX0 yX0_take wsX0_take) := goodIn_app (goodIn_of _ (by decide +kernel)) ggX1_copy_X0_take
theorem dX1_copy_0 : decode cX1_copy 0 = .ok (.aload_n 0, 1) := by decide +kernel
theorem dX1_copy_1 : decode cX1_copy 1 = .ok (.iload_n 1, 1) := by decide +kernel
theorem dX1_copy_2 : decode cX1_copy 2 = .ok (.invokevirtual 39, 3) := by decide +kernel
theorem dX1_copy_5 : decode cX1_copy 5 = .ok (.astore_n 3, 1) := by decide +kernel
theorem dX1_copy_6 : decode cX1_copy 6 = .ok (.aload_n 0, 1) := by decide +kernel
theorem dX1_copy_7 : decode cX1_copy 7 = .ok (.iload_n 2, 1) := by decide +kernel
theorem dX1_copy_8 : decode cX1_copy 8 = .ok (.invokevirtual 39, 3) := by decide +kernel
theorem dX1_copy_11 : decode cX1_copy 11 = .ok (.astore 4, 2) := by decide +kernel
theorem dX1_copy_13 : decode cX1_copy 13 = .ok (.aload 4, 2) := by decide +kernel
theorem dX1_copy_15 : decode cX1_copy 15 = .ok (.aload_n 3, 1) := by decide +kernel
theorem dX1_copy_16 : decode cX1_copy 16 = .ok (.invokevirtual 79, 3) := by decide +kernel
theorem dX1_copy_19 : decode cX1_copy 19 = .ok (.ifCond .ne 7, 3) := by decide +kernel
theorem dX1_copy_22 : decode cX1_copy 22 = .ok (.iconst 1, 1) := by decide +kernel
theorem dX1_copy_23 : decode cX1_copy 23 = .ok (.goto 4, 3) := by decide +kernel
theorem dX1_copy_26 : decode cX1_copy 26 = .ok (.iconst 0, 1) := by decide +kernel
theorem dX1_copy_27 : decode cX1_copy 27 = .ok (.istore 5, 2) := by decide +kernel
theorem dX1_copy_29 : decode cX1_copy 29 = .ok (.aload 4, 2) := by decide +kernel
theorem dX1_copy_31 : decode cX1_copy 31 = .ok (.aload_n 3, 1) := by decide +kernel
theorem dX1_copy_32 : decode cX1_copy 32 = .ok (.invokevirtual 71, 3) := by decide +kernel
theorem dX1_copy_35 : decode cX1_copy 35 = .ok (.iload 5, 2) := by decide +kernel
theorem dX1_copy_37 : decode cX1_copy 37 = .ok (.ireturn, 1) := by decide +kernel
set_option maxRecDepth 20000 in
theorem ggX1_length_X1_rowAt : GoodIn wsX1_length wsX1_rowAt := goodIn_ca (goodIn_r _ [6, 7, 8, 9, 12, 13, 14, 15, 16, 17, 18, 19] (by decide +kernel) (by decide +kernel)) (goodIn_sub (fun _ h => List.mem_cons_of_mem _ (List.mem_append_right _ h)) (by decide +kernel))
set_option maxRecDepth 20000 in
theorem gX1_length_X1_rowAt : GoodIn wsX1_length (wsV RX1 39 RX1 yX1_rowAt wsX1_rowAt) := goodIn_app (goodIn_of _ (by decide +kernel)) ggX1_length_X1_rowAt
theorem dX1_length_0 : decode cX1_length 0 = .ok (.aload_n 0, 1) := by decide +kernel
theorem dX1_length_1 : decode cX1_length 1 = .ok (.iload_n 1, 1) := by decide +kernel
theorem dX1_length_2 : decode cX1_length 2 = .ok (.invokevirtual 39, 3) := by decide +kernel
theorem dX1_length_5 : decode cX1_length 5 = .ok (.getfield 47, 3) := by decide +kernel
theorem dX1_length_8 : decode cX1_length 8 = .ok (.ireturn, 1) := by decide +kernel
set_option maxRecDepth 20000 in
theorem ggX1_number_X1_rowAt : GoodIn wsX1_number wsX1_rowAt := goodIn_ca (goodIn_r _ [6, 7, 8, 9, 16, 17, 18, 19, 20, 21, 22, 23] (by decide +kernel) (by decide +kernel)) (goodIn_sub (fun _ h => List.mem_cons_of_mem _ (List.mem_append_right _ h)) (by decide +kernel))
set_option maxRecDepth 20000 in
theorem gX1_number_X1_rowAt : GoodIn wsX1_number (wsV RX1 39 RX1 yX1_rowAt wsX1_rowAt) := goodIn_app (goodIn_of _ (by decide +kernel)) ggX1_number_X1_rowAt
set_option maxRecDepth 20000 in
theorem ggX1_number_X1_needPlace : GoodIn wsX1_number wsX1_needPlace := goodIn_ca (goodIn_r _ [12, 7, 8, 13, 14, 15] (by decide +kernel) (by decide +kernel)) (goodIn_sub (fun _ h => List.mem_cons_of_mem _ (List.mem_append_right _ h)) (by decide +kernel))
set_option maxRecDepth 20000 in
theorem gX1_number_X1_needPlace : GoodIn wsX1_number (va_wsS RX1 53 yX1_needPlace wsX1_needPlace) := goodIn_app (goodIn_of _ (by decide +kernel)) ggX1_number_X1_needPlace
theorem dX1_number_0 : decode cX1_number 0 = .ok (.aload_n 0, 1) := by decide +kernel
theorem dX1_number_1 : decode cX1_number 1 = .ok (.iload_n 1, 1) := by decide +kernel
theorem dX1_number_2 : decode cX1_number 2 = .ok (.invokevirtual 39, 3) := by decide +kernel
theorem dX1_number_5 : decode cX1_number 5 = .ok (.astore_n 3, 1) := by decide +kernel
theorem dX1_number_6 : decode cX1_number 6 = .ok (.aload_n 3, 1) := by decide +kernel
theorem dX1_number_7 : decode cX1_number 7 = .ok (.iload_n 2, 1) := by decide +kernel
theorem dX1_number_8 : decode cX1_number 8 = .ok (.invokestatic 53, 3) := by decide +kernel
theorem dX1_number_11 : decode cX1_number 11 = .ok (.aload_n 3, 1) := by decide +kernel
theorem dX1_number_12 : decode cX1_number 12 = .ok (.getfield 60, 3) := by decide +kernel
theorem dX1_number_15 : decode cX1_number 15 = .ok (.iload_n 2, 1) := by decide +kernel
theorem dX1_number_16 : decode cX1_number 16 = .ok (.iaload, 1) := by decide +kernel
theorem dX1_number_17 : decode cX1_number 17 = .ok (.ireturn, 1) := by decide +kernel
theorem dX1_useOdd_0 : decode cX1_useOdd 0 = .ok (.iload_n 1, 1) := by decide +kernel
theorem dX1_useOdd_1 : decode cX1_useOdd 1 = .ok (.iconst 1, 1) := by decide +kernel
theorem dX1_useOdd_2 : decode cX1_useOdd 2 = .ok (.if_icmp .lt 15, 3) := by decide +kernel
theorem dX1_useOdd_5 : decode cX1_useOdd 5 = .ok (.iload_n 1, 1) := by decide +kernel
theorem dX1_useOdd_6 : decode cX1_useOdd 6 = .ok (.bipush 31, 2) := by decide +kernel
theorem dX1_useOdd_8 : decode cX1_useOdd 8 = .ok (.if_icmp .gt 9, 3) := by decide +kernel
theorem dX1_useOdd_11 : decode cX1_useOdd 11 = .ok (.iload_n 1, 1) := by decide +kernel
theorem dX1_useOdd_12 : decode cX1_useOdd 12 = .ok (.iconst 1, 1) := by decide +kernel
theorem dX1_useOdd_13 : decode cX1_useOdd 13 = .ok (.iand, 1) := by decide +kernel
theorem dX1_useOdd_14 : decode cX1_useOdd 14 = .ok (.ifCond .ne 13, 3) := by decide +kernel
theorem dX1_useOdd_17 : decode cX1_useOdd 17 = .ok (.new 83, 3) := by decide +kernel
theorem dX1_useOdd_20 : decode cX1_useOdd 20 = .ok (.dup, 1) := by decide +kernel
theorem dX1_useOdd_21 : decode cX1_useOdd 21 = .ok (.ldc 85, 2) := by decide +kernel
theorem dX1_useOdd_23 : decode cX1_useOdd 23 = .ok (.invokespecial 87, 3) := by decide +kernel
theorem dX1_useOdd_26 : decode cX1_useOdd 26 = .ok (.athrow, 1) := by decide +kernel
theorem dX1_useOdd_27 : decode cX1_useOdd 27 = .ok (.aload_n 0, 1) := by decide +kernel
theorem dX1_useOdd_28 : decode cX1_useOdd 28 = .ok (.getfield 35, 3) := by decide +kernel
theorem dX1_useOdd_31 : decode cX1_useOdd 31 = .ok (.istore_n 2, 1) := by decide +kernel
theorem dX1_useOdd_32 : decode cX1_useOdd 32 = .ok (.aload_n 0, 1) := by decide +kernel
theorem dX1_useOdd_33 : decode cX1_useOdd 33 = .ok (.iload_n 1, 1) := by decide +kernel
theorem dX1_useOdd_34 : decode cX1_useOdd 34 = .ok (.putfield 35, 3) := by decide +kernel
theorem dX1_useOdd_37 : decode cX1_useOdd 37 = .ok (.iload_n 2, 1) := by decide +kernel
theorem dX1_useOdd_38 : decode cX1_useOdd 38 = .ok (.ireturn, 1) := by decide +kernel
set_option maxRecDepth 20000 in
theorem ggX1_root_X1_needLength : GoodIn wsX1_root wsX1_needLength := goodIn_ca (goodIn_r _ [4, 5, 6, 7, 8, 3, 9] (by decide +kernel) (by decide +kernel)) (goodIn_sub (fun _ h => List.mem_cons_of_mem _ (List.mem_append_right _ h)) (by decide +kernel))
set_option maxRecDepth 20000 in
theorem gX1_root_X1_needLength : GoodIn wsX1_root (va_wsS RX1 43 yX1_needLength wsX1_needLength) := goodIn_app (goodIn_of _ (by decide +kernel)) ggX1_root_X1_needLength
set_option maxRecDepth 20000 in
theorem ggX1_root_X1_rootTo : GoodIn wsX1_root wsX1_rootTo := goodIn_r _ [13, 14, 15, 16, 3, 17, 18, 19, 20, 21, 22, 23, 24, 25, 26, 27, 28, 29] (by decide +kernel) (by decide +kernel)
set_option maxRecDepth 20000 in
theorem gX1_root_X1_rootTo : GoodIn wsX1_root (wsV RX1 88 RX1 yX1_rootTo wsX1_rootTo) := goodIn_app (goodIn_of _ (by decide +kernel)) ggX1_root_X1_rootTo
theorem dX1_root_0 : decode cX1_root 0 = .ok (.iload_n 1, 1) := by decide +kernel
theorem dX1_root_1 : decode cX1_root 1 = .ok (.invokestatic 43, 3) := by decide +kernel
theorem dX1_root_4 : decode cX1_root 4 = .ok (.aload_n 0, 1) := by decide +kernel
theorem dX1_root_5 : decode cX1_root 5 = .ok (.iload_n 1, 1) := by decide +kernel
theorem dX1_root_6 : decode cX1_root 6 = .ok (.iconst 1, 1) := by decide +kernel
theorem dX1_root_7 : decode cX1_root 7 = .ok (.invokevirtual 88, 3) := by decide +kernel
theorem dX1_root_10 : decode cX1_root 10 = .ok (.ireturn, 1) := by decide +kernel
set_option maxRecDepth 20000 in
theorem ggX1_power_X1_needLength : GoodIn wsX1_power wsX1_needLength := goodIn_ca (goodIn_r _ [4, 5, 6, 7, 8, 3, 9] (by decide +kernel) (by decide +kernel)) (goodIn_sub (fun _ h => List.mem_cons_of_mem _ (List.mem_append_right _ h)) (by decide +kernel))
set_option maxRecDepth 20000 in
theorem gX1_power_X1_needLength : GoodIn wsX1_power (va_wsS RX1 43 yX1_needLength wsX1_needLength) := goodIn_app (goodIn_of _ (by decide +kernel)) ggX1_power_X1_needLength
set_option maxRecDepth 20000 in
theorem ggX1_power_X1_rootTo : GoodIn wsX1_power wsX1_rootTo := goodIn_r _ [13, 14, 15, 16, 3, 17, 18, 19, 20, 21, 22, 23, 24, 25, 26, 27, 28, 29] (by decide +kernel) (by decide +kernel)
set_option maxRecDepth 20000 in
theorem gX1_power_X1_rootTo : GoodIn wsX1_power (wsV RX1 88 RX1 yX1_rootTo wsX1_rootTo) := goodIn_app (goodIn_of _ (by decide +kernel)) ggX1_power_X1_rootTo
theorem dX1_power_0 : decode cX1_power 0 = .ok (.iload_n 1, 1) := by decide +kernel
theorem dX1_power_1 : decode cX1_power 1 = .ok (.invokestatic 43, 3) := by decide +kernel
theorem dX1_power_4 : decode cX1_power 4 = .ok (.aload_n 0, 1) := by decide +kernel
theorem dX1_power_5 : decode cX1_power 5 = .ok (.iload_n 1, 1) := by decide +kernel
theorem dX1_power_6 : decode cX1_power 6 = .ok (.iload_n 2, 1) := by decide +kernel
theorem dX1_power_7 : decode cX1_power 7 = .ok (.invokevirtual 88, 3) := by decide +kernel
theorem dX1_power_10 : decode cX1_power 10 = .ok (.ireturn, 1) := by decide +kernel
set_option maxRecDepth 20000 in
theorem ggX1_values_X1_rowAt : GoodIn wsX1_values wsX1_rowAt := goodIn_ca (goodIn_r _ [6, 7, 8, 9, 80, 81, 82, 83, 84, 85, 86, 87] (by decide +kernel) (by decide +kernel)) (goodIn_sub (fun _ h => List.mem_cons_of_mem _ (List.mem_append_right _ h)) (by decide +kernel))
set_option maxRecDepth 20000 in
theorem gX1_values_X1_rowAt : GoodIn wsX1_values (wsV RX1 39 RX1 yX1_rowAt wsX1_rowAt) := goodIn_app (goodIn_of _ (by decide +kernel)) ggX1_values_X1_rowAt
set_option maxRecDepth 20000 in
theorem ggX1_values_X1_halvedValues : GoodIn wsX1_values wsX1_halvedValues := goodIn_r _ [13, 14, 15, 16, 17, 18, 19, 20, 21, 22, 23, 24, 25, 26, 27, 28, 29, 5, 30, 31, 32, 33, 34, 35, 36, 37, 38, 39, 40, 41, 42, 43, 44, 45, 46, 47, 48, 49, 50, 51, 52, 53, 54, 55, 56, 88, 89, 80, 81, 82, 83, 84, 85, 86, 87] (by decide +kernel) (by decide +kernel)
set_option maxRecDepth 20000 in
theorem gX1_values_X1_halvedValues : GoodIn wsX1_values (wsV RX1 92 RX1 yX1_halvedValues wsX1_halvedValues) := goodIn_app (goodIn_of _ (by decide +kernel)) ggX1_values_X1_halvedValues
set_option maxRecDepth 20000 in
theorem ggX1_values_X1_plainValues : GoodIn wsX1_values wsX1_plainValues := goodIn_r _ [60, 61, 62, 63, 5, 64, 14, 31, 65, 66, 67, 19, 68, 21, 22, 69, 70, 71, 72, 32, 33, 34, 35, 36, 37, 38, 39, 40, 41, 42, 43, 47, 48, 49, 50, 88, 89, 80, 81, 82, 83, 84, 85, 86, 87] (by decide +kernel) (by decide +kernel)
set_option maxRecDepth 20000 in
theorem gX1_values_X1_plainValues : GoodIn wsX1_values (wsV RX1 96 RX1 yX1_plainValues wsX1_plainValues) := goodIn_app (goodIn_of _ (by decide +kernel)) ggX1_values_X1_plainValues
set_option maxRecDepth 20000 in
theorem ggX1_values_X1_zerosAsNow : GoodIn wsX1_values wsX1_zerosAsNow := goodIn_r _ [75, 16, 17, 18, 19, 20, 21, 22, 23, 24, 25, 26, 76, 77, 78, 79, 88, 89] (by decide +kernel) (by decide +kernel)
set_option maxRecDepth 20000 in
theorem gX1_values_X1_zerosAsNow : GoodIn wsX1_values (va_wsS RX1 99 yX1_zerosAsNow wsX1_zerosAsNow) := goodIn_app (goodIn_of _ (by decide +kernel)) ggX1_values_X1_zerosAsNow
theorem dX1_values_0 : decode cX1_values 0 = .ok (.aload_n 0, 1) := by decide +kernel
theorem dX1_values_1 : decode cX1_values 1 = .ok (.iload_n 1, 1) := by decide +kernel
theorem dX1_values_2 : decode cX1_values 2 = .ok (.invokevirtual 39, 3) := by decide +kernel
theorem dX1_values_5 : decode cX1_values 5 = .ok (.astore_n 3, 1) := by decide +kernel
theorem dX1_values_6 : decode cX1_values 6 = .ok (.iload_n 2, 1) := by decide +kernel
theorem dX1_values_7 : decode cX1_values 7 = .ok (.ifCond .eq 15, 3) := by decide +kernel
theorem dX1_values_10 : decode cX1_values 10 = .ok (.aload_n 0, 1) := by decide +kernel
theorem dX1_values_11 : decode cX1_values 11 = .ok (.aload_n 3, 1) := by decide +kernel
theorem dX1_values_12 : decode cX1_values 12 = .ok (.aload_n 0, 1) := by decide +kernel
theorem dX1_values_13 : decode cX1_values 13 = .ok (.getfield 29, 3) := by decide +kernel
theorem dX1_values_16 : decode cX1_values 16 = .ok (.invokevirtual 92, 3) := by decide +kernel
theorem dX1_values_19 : decode cX1_values 19 = .ok (.goto 12, 3) := by decide +kernel
theorem dX1_values_22 : decode cX1_values 22 = .ok (.aload_n 0, 1) := by decide +kernel
theorem dX1_values_23 : decode cX1_values 23 = .ok (.aload_n 3, 1) := by decide +kernel
theorem dX1_values_24 : decode cX1_values 24 = .ok (.aload_n 0, 1) := by decide +kernel
theorem dX1_values_25 : decode cX1_values 25 = .ok (.getfield 29, 3) := by decide +kernel
theorem dX1_values_28 : decode cX1_values 28 = .ok (.invokevirtual 96, 3) := by decide +kernel
theorem dX1_values_31 : decode cX1_values 31 = .ok (.aload_n 3, 1) := by decide +kernel
theorem dX1_values_32 : decode cX1_values 32 = .ok (.aload_n 0, 1) := by decide +kernel
theorem dX1_values_33 : decode cX1_values 33 = .ok (.getfield 29, 3) := by decide +kernel
theorem dX1_values_36 : decode cX1_values 36 = .ok (.invokestatic 99, 3) := by decide +kernel
theorem dX1_values_39 : decode cX1_values 39 = .ok (.ireturn, 1) := by decide +kernel
set_option maxRecDepth 20000 in
theorem ggX1_back_X1_rowAt : GoodIn wsX1_back wsX1_rowAt := goodIn_ca (goodIn_r _ [6, 7, 8, 9, 72, 73, 74, 75, 76, 77, 78, 79] (by decide +kernel) (by decide +kernel)) (goodIn_sub (fun _ h => List.mem_cons_of_mem _ (List.mem_append_right _ h)) (by decide +kernel))
set_option maxRecDepth 20000 in
theorem gX1_back_X1_rowAt : GoodIn wsX1_back (wsV RX1 39 RX1 yX1_rowAt wsX1_rowAt) := goodIn_app (goodIn_of _ (by decide +kernel)) ggX1_back_X1_rowAt
set_option maxRecDepth 20000 in
theorem ggX1_back_X1_backRow : GoodIn wsX1_back wsX1_backRow := goodIn_r _ [13, 14, 15, 16, 17, 5, 18, 19, 20, 21, 22, 23, 24, 25, 26, 27, 28, 29, 30, 31, 32, 33, 34, 35, 36, 37, 38, 39, 40, 41, 42, 43, 44, 45, 46, 47, 48, 49, 50, 51, 52, 53, 54, 55, 56, 80, 81, 72, 73, 74, 75, 76, 77, 78, 79] (by decide +kernel) (by decide +kernel)
set_option maxRecDepth 20000 in
theorem gX1_back_X1_backRow : GoodIn wsX1_back (wsV RX1 102 RX1 yX1_backRow wsX1_backRow) := goodIn_app (goodIn_of _ (by decide +kernel)) ggX1_back_X1_backRow
set_option maxRecDepth 20000 in
theorem ggX1_back_X1_zerosAsNow : GoodIn wsX1_back wsX1_zerosAsNow := goodIn_r _ [59, 60, 61, 62, 23, 63, 25, 26, 64, 65, 66, 67, 68, 69, 70, 71, 80, 81] (by decide +kernel) (by decide +kernel)
set_option maxRecDepth 20000 in
theorem gX1_back_X1_zerosAsNow : GoodIn wsX1_back (va_wsS RX1 99 yX1_zerosAsNow wsX1_zerosAsNow) := goodIn_app (goodIn_of _ (by decide +kernel)) ggX1_back_X1_zerosAsNow
theorem dX1_back_0 : decode cX1_back 0 = .ok (.aload_n 0, 1) := by decide +kernel
theorem dX1_back_1 : decode cX1_back 1 = .ok (.iload_n 1, 1) := by decide +kernel
theorem dX1_back_2 : decode cX1_back 2 = .ok (.invokevirtual 39, 3) := by decide +kernel
theorem dX1_back_5 : decode cX1_back 5 = .ok (.astore_n 2, 1) := by decide +kernel
theorem dX1_back_6 : decode cX1_back 6 = .ok (.aload_n 0, 1) := by decide +kernel
theorem dX1_back_7 : decode cX1_back 7 = .ok (.aload_n 2, 1) := by decide +kernel
theorem dX1_back_8 : decode cX1_back 8 = .ok (.aload_n 0, 1) := by decide +kernel
theorem dX1_back_9 : decode cX1_back 9 = .ok (.getfield 29, 3) := by decide +kernel
theorem dX1_back_12 : decode cX1_back 12 = .ok (.invokevirtual 102, 3) := by decide +kernel
theorem dX1_back_15 : decode cX1_back 15 = .ok (.aload_n 2, 1) := by decide +kernel
theorem dX1_back_16 : decode cX1_back 16 = .ok (.aload_n 0, 1) := by decide +kernel
theorem dX1_back_17 : decode cX1_back 17 = .ok (.getfield 29, 3) := by decide +kernel
theorem dX1_back_20 : decode cX1_back 20 = .ok (.invokestatic 99, 3) := by decide +kernel
theorem dX1_back_23 : decode cX1_back 23 = .ok (.ireturn, 1) := by decide +kernel
set_option maxRecDepth 20000 in
theorem ggX1_valueAt_X1_rowAt : GoodIn wsX1_valueAt wsX1_rowAt := goodIn_ca (goodIn_r _ [7, 8, 9, 10, 32, 33, 34, 35, 36, 37, 38, 39] (by decide +kernel) (by decide +kernel)) (goodIn_sub (fun _ h => List.mem_cons_of_mem _ (List.mem_append_left _ (List.mem_append_right _ h))) (by decide +kernel))
set_option maxRecDepth 20000 in
theorem gX1_valueAt_X1_rowAt : GoodIn wsX1_valueAt (wsV RX1 39 RX1 yX1_rowAt wsX1_rowAt) := goodIn_app (goodIn_of _ (by decide +kernel)) ggX1_valueAt_X1_rowAt
set_option maxRecDepth 20000 in
theorem ggX1_valueAt_X1_needNumber : GoodIn wsX1_valueAt wsX1_needNumber := goodIn_ca (goodIn_r _ [13, 14, 15, 16, 17, 6, 18, 19] (by decide +kernel) (by decide +kernel)) (goodIn_sub (fun _ h => List.mem_cons_of_mem _ (List.mem_append_right _ h)) (by decide +kernel))
set_option maxRecDepth 20000 in
theorem gX1_valueAt_X1_needNumber : GoodIn wsX1_valueAt (va_wsS RX1 57 yX1_needNumber wsX1_needNumber) := goodIn_app (goodIn_of _ (by decide +kernel)) ggX1_valueAt_X1_needNumber
set_option maxRecDepth 20000 in
theorem ggX1_valueAt_X1_multiplied : GoodIn wsX1_valueAt wsX1_multiplied := goodIn_r _ [22, 23, 24, 6, 25, 26] (by decide +kernel) (by decide +kernel)
set_option maxRecDepth 20000 in
theorem gX1_valueAt_X1_multiplied : GoodIn wsX1_valueAt (va_wsS RX1 105 yX1_multiplied wsX1_multiplied) := goodIn_app (goodIn_of _ (by decide +kernel)) ggX1_valueAt_X1_multiplied
set_option maxRecDepth 20000 in
theorem ggX1_valueAt_X1_added : GoodIn wsX1_valueAt wsX1_added := goodIn_r _ [29, 19] (by decide +kernel) (by decide +kernel)
set_option maxRecDepth 20000 in
theorem gX1_valueAt_X1_added : GoodIn wsX1_valueAt (va_wsS RX1 108 yX1_added wsX1_added) := goodIn_app (goodIn_of _ (by decide +kernel)) ggX1_valueAt_X1_added
theorem dX1_valueAt_0 : decode cX1_valueAt 0 = .ok (.aload_n 0, 1) := by decide +kernel
theorem dX1_valueAt_1 : decode cX1_valueAt 1 = .ok (.iload_n 1, 1) := by decide +kernel
theorem dX1_valueAt_2 : decode cX1_valueAt 2 = .ok (.invokevirtual 39, 3) := by decide +kernel
theorem dX1_valueAt_5 : decode cX1_valueAt 5 = .ok (.astore_n 3, 1) := by decide +kernel
theorem dX1_valueAt_6 : decode cX1_valueAt 6 = .ok (.iload_n 2, 1) := by decide +kernel
theorem dX1_valueAt_7 : decode cX1_valueAt 7 = .ok (.invokestatic 57, 3) := by decide +kernel
theorem dX1_valueAt_10 : decode cX1_valueAt 10 = .ok (.iconst 0, 1) := by decide +kernel
theorem dX1_valueAt_11 : decode cX1_valueAt 11 = .ok (.istore 4, 2) := by decide +kernel
theorem dX1_valueAt_13 : decode cX1_valueAt 13 = .ok (.aload_n 3, 1) := by decide +kernel
theorem dX1_valueAt_14 : decode cX1_valueAt 14 = .ok (.getfield 47, 3) := by decide +kernel
theorem dX1_valueAt_17 : decode cX1_valueAt 17 = .ok (.iconst 1, 1) := by decide +kernel
theorem dX1_valueAt_18 : decode cX1_valueAt 18 = .ok (.isub, 1) := by decide +kernel
theorem dX1_valueAt_19 : decode cX1_valueAt 19 = .ok (.istore 5, 2) := by decide +kernel
theorem dX1_valueAt_21 : decode cX1_valueAt 21 = .ok (.iload 5, 2) := by decide +kernel
theorem dX1_valueAt_23 : decode cX1_valueAt 23 = .ok (.ifCond .lt 27, 3) := by decide +kernel
theorem dX1_valueAt_26 : decode cX1_valueAt 26 = .ok (.iload 4, 2) := by decide +kernel
theorem dX1_valueAt_28 : decode cX1_valueAt 28 = .ok (.iload_n 2, 1) := by decide +kernel
theorem dX1_valueAt_29 : decode cX1_valueAt 29 = .ok (.invokestatic 105, 3) := by decide +kernel
theorem dX1_valueAt_32 : decode cX1_valueAt 32 = .ok (.aload_n 3, 1) := by decide +kernel
theorem dX1_valueAt_33 : decode cX1_valueAt 33 = .ok (.getfield 60, 3) := by decide +kernel
theorem dX1_valueAt_36 : decode cX1_valueAt 36 = .ok (.iload 5, 2) := by decide +kernel
theorem dX1_valueAt_38 : decode cX1_valueAt 38 = .ok (.iaload, 1) := by decide +kernel
theorem dX1_valueAt_39 : decode cX1_valueAt 39 = .ok (.invokestatic 108, 3) := by decide +kernel
theorem dX1_valueAt_42 : decode cX1_valueAt 42 = .ok (.istore 4, 2) := by decide +kernel
theorem dX1_valueAt_44 : decode cX1_valueAt 44 = .ok (.iinc 5 (-1), 3) := by decide +kernel
theorem dX1_valueAt_47 : decode cX1_valueAt 47 = .ok (.goto (-26), 3) := by decide +kernel
theorem dX1_valueAt_50 : decode cX1_valueAt 50 = .ok (.iload 4, 2) := by decide +kernel
theorem dX1_valueAt_52 : decode cX1_valueAt 52 = .ok (.ireturn, 1) := by decide +kernel
set_option maxRecDepth 20000 in
theorem ggX1_support_X1_rowAt : GoodIn wsX1_support wsX1_rowAt := goodIn_ca (goodIn_r _ [8, 9, 10, 11, 47, 48, 49, 50, 51, 52, 53, 54] (by decide +kernel) (by decide +kernel)) (goodIn_sub (fun _ h => List.mem_cons_of_mem _ (List.mem_append_right _ h)) (by decide +kernel))
set_option maxRecDepth 20000 in
theorem gX1_support_X1_rowAt : GoodIn wsX1_support (wsV RX1 39 RX1 yX1_rowAt wsX1_rowAt) := goodIn_app (goodIn_of _ (by decide +kernel)) ggX1_support_X1_rowAt
set_option maxRecDepth 20000 in
theorem ggX1_support_X1_plainValues : GoodIn wsX1_support wsX1_plainValues := goodIn_r _ [15, 16, 17, 18, 7, 19, 2, 3, 20, 21, 22, 23, 24, 25, 26, 27, 28, 29, 30, 31, 32, 33, 34, 35, 36, 37, 38, 39, 40, 41, 42, 43, 44, 45, 46, 55, 56, 47, 48, 49, 50, 51, 52, 53, 54] (by decide +kernel) (by decide +kernel)
set_option maxRecDepth 20000 in
theorem gX1_support_X1_plainValues : GoodIn wsX1_support (wsV RX1 96 RX1 yX1_plainValues wsX1_plainValues) := goodIn_app (goodIn_of _ (by decide +kernel)) ggX1_support_X1_plainValues
theorem dX1_support_0 : decode cX1_support 0 = .ok (.aload_n 0, 1) := by decide +kernel
theorem dX1_support_1 : decode cX1_support 1 = .ok (.aload_n 0, 1) := by decide +kernel
theorem dX1_support_2 : decode cX1_support 2 = .ok (.iload_n 1, 1) := by decide +kernel
theorem dX1_support_3 : decode cX1_support 3 = .ok (.invokevirtual 39, 3) := by decide +kernel
theorem dX1_support_6 : decode cX1_support 6 = .ok (.aload_n 0, 1) := by decide +kernel
theorem dX1_support_7 : decode cX1_support 7 = .ok (.getfield 29, 3) := by decide +kernel
theorem dX1_support_10 : decode cX1_support 10 = .ok (.invokevirtual 96, 3) := by decide +kernel
theorem dX1_support_13 : decode cX1_support 13 = .ok (.iconst 0, 1) := by decide +kernel
theorem dX1_support_14 : decode cX1_support 14 = .ok (.istore_n 2, 1) := by decide +kernel
theorem dX1_support_15 : decode cX1_support 15 = .ok (.iconst 0, 1) := by decide +kernel
theorem dX1_support_16 : decode cX1_support 16 = .ok (.istore_n 3, 1) := by decide +kernel
theorem dX1_support_17 : decode cX1_support 17 = .ok (.iload_n 3, 1) := by decide +kernel
theorem dX1_support_18 : decode cX1_support 18 = .ok (.aload_n 0, 1) := by decide +kernel
theorem dX1_support_19 : decode cX1_support 19 = .ok (.getfield 29, 3) := by decide +kernel
theorem dX1_support_22 : decode cX1_support 22 = .ok (.getfield 47, 3) := by decide +kernel
theorem dX1_support_25 : decode cX1_support 25 = .ok (.if_icmp .ge 27, 3) := by decide +kernel
theorem dX1_support_28 : decode cX1_support 28 = .ok (.aload_n 0, 1) := by decide +kernel
theorem dX1_support_29 : decode cX1_support 29 = .ok (.getfield 29, 3) := by decide +kernel
theorem dX1_support_32 : decode cX1_support 32 = .ok (.getfield 60, 3) := by decide +kernel
theorem dX1_support_35 : decode cX1_support 35 = .ok (.iload_n 3, 1) := by decide +kernel
theorem dX1_support_36 : decode cX1_support 36 = .ok (.iaload, 1) := by decide +kernel
theorem dX1_support_37 : decode cX1_support 37 = .ok (.ifCond .eq 9, 3) := by decide +kernel
theorem dX1_support_40 : decode cX1_support 40 = .ok (.iload_n 2, 1) := by decide +kernel
theorem dX1_support_41 : decode cX1_support 41 = .ok (.iconst 1, 1) := by decide +kernel
theorem dX1_support_42 : decode cX1_support 42 = .ok (.iload_n 3, 1) := by decide +kernel
theorem dX1_support_43 : decode cX1_support 43 = .ok (.ishl, 1) := by decide +kernel
theorem dX1_support_44 : decode cX1_support 44 = .ok (.ior, 1) := by decide +kernel
theorem dX1_support_45 : decode cX1_support 45 = .ok (.istore_n 2, 1) := by decide +kernel
theorem dX1_support_46 : decode cX1_support 46 = .ok (.iinc 3 1, 3) := by decide +kernel
theorem dX1_support_49 : decode cX1_support 49 = .ok (.goto (-32), 3) := by decide +kernel
theorem dX1_support_52 : decode cX1_support 52 = .ok (.iload_n 2, 1) := by decide +kernel
theorem dX1_support_53 : decode cX1_support 53 = .ok (.ireturn, 1) := by decide +kernel
set_option maxRecDepth 20000 in
theorem ggX1_times_X1_rowAt : GoodIn wsX1_times wsX1_rowAt := goodIn_ca (goodIn_r _ [6, 7, 8, 9, 112, 113, 114, 115, 116, 117, 118, 119] (by decide +kernel) (by decide +kernel)) (goodIn_sub (fun _ h => List.mem_cons_of_mem _ (List.mem_append_left _ (List.mem_append_right _ h))) (by decide +kernel))
set_option maxRecDepth 20000 in
theorem gX1_times_X1_rowAt : GoodIn wsX1_times (wsV RX1 39 RX1 yX1_rowAt wsX1_rowAt) := goodIn_app (goodIn_of _ (by decide +kernel)) ggX1_times_X1_rowAt
set_option maxRecDepth 20000 in
theorem ggX1_times_X1_needAlike : GoodIn wsX1_times wsX1_needAlike := goodIn_ca (goodIn_r _ [12, 13, 14, 15, 120, 121] (by decide +kernel) (by decide +kernel)) (goodIn_sub (fun _ h => List.mem_cons_of_mem _ (List.mem_append_right _ h)) (by decide +kernel))
set_option maxRecDepth 20000 in
theorem gX1_times_X1_needAlike : GoodIn wsX1_times (va_wsS RX1 111 yX1_needAlike wsX1_needAlike) := goodIn_app (goodIn_of _ (by decide +kernel)) ggX1_times_X1_needAlike
set_option maxRecDepth 20000 in
theorem ggX1_times_X1_productByValues : GoodIn wsX1_times wsX1_productByValues := goodIn_r _ [19, 20, 21, 22, 23, 24, 25, 5, 26, 15, 27, 28, 29, 30, 31, 32, 33, 34, 35, 36, 37, 38, 39, 40, 41, 42, 43, 44, 45, 46, 47, 48, 49, 50, 51, 52, 53, 54, 55, 56, 57, 58, 59, 60, 61, 62, 63, 64, 65, 66, 67, 68, 69, 70, 71, 72, 73, 74, 75, 76, 77, 78, 79, 80, 81, 82, 83, 84, 85, 86, 87, 88, 89, 90, 91, 92, 93, 94, 95, 112, 113, 114, 115, 116, 117, 118, 119, 120, 121] (by decide +kernel) (by decide +kernel)
set_option maxRecDepth 20000 in
theorem gX1_times_X1_productByValues : GoodIn wsX1_times (wsV RX1 114 RX1 yX1_productByValues wsX1_productByValues) := goodIn_app (goodIn_of _ (by decide +kernel)) ggX1_times_X1_productByValues
set_option maxRecDepth 20000 in
theorem ggX1_times_X0_becomeRingProduct : GoodIn wsX1_times wsX0_becomeRingProduct := goodIn_r _ [99, 33, 34, 100, 82, 83, 31, 84, 85, 86, 87, 88, 101, 102, 103, 104, 60, 5, 61, 62, 120, 121] (by decide +kernel) (by decide +kernel)
set_option maxRecDepth 20000 in
theorem gX1_times_X0_becomeRingProduct : GoodIn wsX1_times (wsV RX1 118 RX0 yX0_becomeRingProduct wsX0_becomeRingProduct) := goodIn_app (goodIn_of _ (by decide +kernel)) ggX1_times_X0_becomeRingProduct
set_option maxRecDepth 20000 in
theorem ggX1_times_X1_zerosAsNow : GoodIn wsX1_times wsX1_zerosAsNow := goodIn_r _ [107, 28, 29, 30, 31, 32, 33, 34, 35, 36, 37, 38, 108, 109, 110, 111, 120, 121] (by decide +kernel) (by decide +kernel)
set_option maxRecDepth 20000 in
theorem gX1_times_X1_zerosAsNow : GoodIn wsX1_times (va_wsS RX1 99 yX1_zerosAsNow wsX1_zerosAsNow) := goodIn_app (goodIn_of _ (by decide +kernel)) ggX1_times_X1_zerosAsNow
theorem dX1_times_0 : decode cX1_times 0 = .ok (.aload_n 0, 1) := by decide +kernel
theorem dX1_times_1 : decode cX1_times 1 = .ok (.iload_n 1, 1) := by decide +kernel
theorem dX1_times_2 : decode cX1_times 2 = .ok (.invokevirtual 39, 3) := by decide +kernel
theorem dX1_times_5 : decode cX1_times 5 = .ok (.astore 4, 2) := by decide +kernel
theorem dX1_times_7 : decode cX1_times 7 = .ok (.aload_n 0, 1) := by decide +kernel
theorem dX1_times_8 : decode cX1_times 8 = .ok (.iload_n 2, 1) := by decide +kernel
theorem dX1_times_9 : decode cX1_times 9 = .ok (.invokevirtual 39, 3) := by decide +kernel
theorem dX1_times_12 : decode cX1_times 12 = .ok (.astore 5, 2) := by decide +kernel
theorem dX1_times_14 : decode cX1_times 14 = .ok (.aload 4, 2) := by decide +kernel
theorem dX1_times_16 : decode cX1_times 16 = .ok (.aload 5, 2) := by decide +kernel
theorem dX1_times_18 : decode cX1_times 18 = .ok (.invokestatic 111, 3) := by decide +kernel
theorem dX1_times_21 : decode cX1_times 21 = .ok (.iload_n 3, 1) := by decide +kernel
theorem dX1_times_22 : decode cX1_times 22 = .ok (.ifCond .eq 18, 3) := by decide +kernel
theorem dX1_times_25 : decode cX1_times 25 = .ok (.aload_n 0, 1) := by decide +kernel
theorem dX1_times_26 : decode cX1_times 26 = .ok (.aload 4, 2) := by decide +kernel
theorem dX1_times_28 : decode cX1_times 28 = .ok (.aload 5, 2) := by decide +kernel
theorem dX1_times_30 : decode cX1_times 30 = .ok (.aload_n 0, 1) := by decide +kernel
theorem dX1_times_31 : decode cX1_times 31 = .ok (.getfield 29, 3) := by decide +kernel
theorem dX1_times_34 : decode cX1_times 34 = .ok (.invokevirtual 114, 3) := by decide +kernel
theorem dX1_times_37 : decode cX1_times 37 = .ok (.goto 14, 3) := by decide +kernel
theorem dX1_times_40 : decode cX1_times 40 = .ok (.aload_n 0, 1) := by decide +kernel
theorem dX1_times_41 : decode cX1_times 41 = .ok (.getfield 29, 3) := by decide +kernel
theorem dX1_times_44 : decode cX1_times 44 = .ok (.aload 4, 2) := by decide +kernel
theorem dX1_times_46 : decode cX1_times 46 = .ok (.aload 5, 2) := by decide +kernel
theorem dX1_times_48 : decode cX1_times 48 = .ok (.invokevirtual 118, 3) := by decide +kernel
theorem dX1_times_51 : decode cX1_times 51 = .ok (.aload 4, 2) := by decide +kernel
theorem dX1_times_53 : decode cX1_times 53 = .ok (.aload_n 0, 1) := by decide +kernel
theorem dX1_times_54 : decode cX1_times 54 = .ok (.getfield 29, 3) := by decide +kernel
theorem dX1_times_57 : decode cX1_times 57 = .ok (.invokestatic 99, 3) := by decide +kernel
theorem dX1_times_60 : decode cX1_times 60 = .ok (.ireturn, 1) := by decide +kernel
set_option maxRecDepth 20000 in
theorem ggX1_plainTimes_X1_rowAt : GoodIn wsX1_plainTimes wsX1_rowAt := goodIn_ca (goodIn_r _ [6, 7, 8, 9, 58, 59, 60, 61, 62, 63, 64, 65] (by decide +kernel) (by decide +kernel)) (goodIn_sub (fun _ h => List.mem_cons_of_mem _ (List.mem_append_left _ (List.mem_append_right _ h))) (by decide +kernel))
set_option maxRecDepth 20000 in
theorem gX1_plainTimes_X1_rowAt : GoodIn wsX1_plainTimes (wsV RX1 39 RX1 yX1_rowAt wsX1_rowAt) := goodIn_app (goodIn_of _ (by decide +kernel)) ggX1_plainTimes_X1_rowAt
set_option maxRecDepth 20000 in
theorem ggX1_plainTimes_X1_needAlike : GoodIn wsX1_plainTimes wsX1_needAlike := goodIn_ca (goodIn_r _ [12, 13, 14, 15, 66, 67] (by decide +kernel) (by decide +kernel)) (goodIn_sub (fun _ h => List.mem_cons_of_mem _ (List.mem_append_right _ h)) (by decide +kernel))
set_option maxRecDepth 20000 in
theorem gX1_plainTimes_X1_needAlike : GoodIn wsX1_plainTimes (va_wsS RX1 111 yX1_needAlike wsX1_needAlike) := goodIn_app (goodIn_of _ (by decide +kernel)) ggX1_plainTimes_X1_needAlike
set_option maxRecDepth 20000 in
theorem ggX1_plainTimes_X1_needRoom : GoodIn wsX1_plainTimes wsX1_needRoom := goodIn_ca (goodIn_r _ [18, 13, 14, 15, 66, 67] (by decide +kernel) (by decide +kernel)) (goodIn_sub (fun _ h => List.mem_cons_of_mem _ (List.mem_append_right _ h)) (by decide +kernel))
set_option maxRecDepth 20000 in
theorem gX1_plainTimes_X1_needRoom : GoodIn wsX1_plainTimes (va_wsS RX1 121 yX1_needRoom wsX1_needRoom) := goodIn_app (goodIn_of _ (by decide +kernel)) ggX1_plainTimes_X1_needRoom
set_option maxRecDepth 20000 in
theorem ggX1_plainTimes_X0_becomePlainProduct : GoodIn wsX1_plainTimes wsX0_becomePlainProduct := goodIn_r _ [23, 24, 25, 26, 27, 28, 22, 29, 30, 31, 32, 33, 34, 5, 35, 36, 37, 38, 39, 40, 41, 42, 66, 67] (by decide +kernel) (by decide +kernel)
set_option maxRecDepth 20000 in
theorem gX1_plainTimes_X0_becomePlainProduct : GoodIn wsX1_plainTimes (wsV RX1 124 RX0 yX0_becomePlainProduct wsX0_becomePlainProduct) := goodIn_app (goodIn_of _ (by decide +kernel)) ggX1_plainTimes_X0_becomePlainProduct
set_option maxRecDepth 20000 in
theorem ggX1_plainTimes_X1_zerosAsNow : GoodIn wsX1_plainTimes wsX1_zerosAsNow := goodIn_r _ [45, 46, 47, 48, 22, 49, 24, 25, 50, 51, 52, 53, 54, 55, 56, 57, 66, 67] (by decide +kernel) (by decide +kernel)
set_option maxRecDepth 20000 in
theorem gX1_plainTimes_X1_zerosAsNow : GoodIn wsX1_plainTimes (va_wsS RX1 99 yX1_zerosAsNow wsX1_zerosAsNow) := goodIn_app (goodIn_of _ (by decide +kernel)) ggX1_plainTimes_X1_zerosAsNow
theorem dX1_plainTimes_0 : decode cX1_plainTimes 0 = .ok (.aload_n 0, 1) := by decide +kernel
theorem dX1_plainTimes_1 : decode cX1_plainTimes 1 = .ok (.iload_n 1, 1) := by decide +kernel
theorem dX1_plainTimes_2 : decode cX1_plainTimes 2 = .ok (.invokevirtual 39, 3) := by decide +kernel
theorem dX1_plainTimes_5 : decode cX1_plainTimes 5 = .ok (.astore_n 3, 1) := by decide +kernel
theorem dX1_plainTimes_6 : decode cX1_plainTimes 6 = .ok (.aload_n 0, 1) := by decide +kernel
theorem dX1_plainTimes_7 : decode cX1_plainTimes 7 = .ok (.iload_n 2, 1) := by decide +kernel
theorem dX1_plainTimes_8 : decode cX1_plainTimes 8 = .ok (.invokevirtual 39, 3) := by decide +kernel
theorem dX1_plainTimes_11 : decode cX1_plainTimes 11 = .ok (.astore 4, 2) := by decide +kernel
theorem dX1_plainTimes_13 : decode cX1_plainTimes 13 = .ok (.aload_n 3, 1) := by decide +kernel
theorem dX1_plainTimes_14 : decode cX1_plainTimes 14 = .ok (.aload 4, 2) := by decide +kernel
theorem dX1_plainTimes_16 : decode cX1_plainTimes 16 = .ok (.invokestatic 111, 3) := by decide +kernel
theorem dX1_plainTimes_19 : decode cX1_plainTimes 19 = .ok (.aload_n 3, 1) := by decide +kernel
theorem dX1_plainTimes_20 : decode cX1_plainTimes 20 = .ok (.invokestatic 121, 3) := by decide +kernel
theorem dX1_plainTimes_23 : decode cX1_plainTimes 23 = .ok (.aload_n 0, 1) := by decide +kernel
theorem dX1_plainTimes_24 : decode cX1_plainTimes 24 = .ok (.getfield 29, 3) := by decide +kernel
theorem dX1_plainTimes_27 : decode cX1_plainTimes 27 = .ok (.aload_n 3, 1) := by decide +kernel
theorem dX1_plainTimes_28 : decode cX1_plainTimes 28 = .ok (.aload 4, 2) := by decide +kernel
theorem dX1_plainTimes_30 : decode cX1_plainTimes 30 = .ok (.invokevirtual 124, 3) := by decide +kernel
theorem dX1_plainTimes_33 : decode cX1_plainTimes 33 = .ok (.aload_n 3, 1) := by decide +kernel
theorem dX1_plainTimes_34 : decode cX1_plainTimes 34 = .ok (.aload_n 0, 1) := by decide +kernel
theorem dX1_plainTimes_35 : decode cX1_plainTimes 35 = .ok (.getfield 29, 3) := by decide +kernel
theorem dX1_plainTimes_38 : decode cX1_plainTimes 38 = .ok (.invokestatic 99, 3) := by decide +kernel
theorem dX1_plainTimes_41 : decode cX1_plainTimes 41 = .ok (.ireturn, 1) := by decide +kernel
set_option maxRecDepth 20000 in
theorem ggX1_invert_X1_rowAt : GoodIn wsX1_invert wsX1_rowAt := goodIn_ca (goodIn_r _ [10, 11, 12, 13, 81, 82, 83, 84, 85, 86, 87, 88] (by decide +kernel) (by decide +kernel)) (goodIn_sub (fun _ h => List.mem_cons_of_mem _ (List.mem_append_right _ h)) (by decide +kernel))
set_option maxRecDepth 20000 in
theorem gX1_invert_X1_rowAt : GoodIn wsX1_invert (wsV RX1 39 RX1 yX1_rowAt wsX1_rowAt) := goodIn_app (goodIn_of _ (by decide +kernel)) ggX1_invert_X1_rowAt
set_option maxRecDepth 20000 in
theorem ggX1_invert_X1_plainValues : GoodIn wsX1_invert wsX1_plainValues := goodIn_r _ [17, 18, 19, 20, 9, 21, 22, 5, 23, 24, 25, 26, 27, 28, 29, 30, 31, 32, 33, 34, 35, 36, 37, 38, 39, 40, 41, 42, 43, 44, 45, 46, 47, 48, 49, 89, 90, 81, 82, 83, 84, 85, 86, 87, 88] (by decide +kernel) (by decide +kernel)
set_option maxRecDepth 20000 in
theorem gX1_invert_X1_plainValues : GoodIn wsX1_invert (wsV RX1 96 RX1 yX1_plainValues wsX1_plainValues) := goodIn_app (goodIn_of _ (by decide +kernel)) ggX1_invert_X1_plainValues
set_option maxRecDepth 20000 in
theorem ggX1_invert_X0_countZeros : GoodIn wsX1_invert wsX0_countZeros := goodIn_r _ [53, 28, 29, 89, 90] (by decide +kernel) (by decide +kernel)
set_option maxRecDepth 20000 in
theorem gX1_invert_X0_countZeros : GoodIn wsX1_invert (wsV RX1 127 RX0 yX0_countZeros wsX0_countZeros) := goodIn_app (goodIn_of _ (by decide +kernel)) ggX1_invert_X0_countZeros
set_option maxRecDepth 20000 in
theorem ggX1_invert_X1_inverseByValues : GoodIn wsX1_invert wsX1_inverseByValues := goodIn_r _ [57, 58, 22, 5, 23, 24, 25, 26, 27, 28, 29, 30, 31, 32, 33, 59, 60, 9, 61, 62, 63, 64, 46, 47, 48, 49, 65, 66, 67, 68, 18, 19, 20, 21, 34, 35, 36, 37, 38, 39, 40, 41, 42, 43, 44, 45, 69, 70, 71, 72, 81, 82, 83, 84, 85, 86, 87, 88, 89, 90] (by decide +kernel) (by decide +kernel)
set_option maxRecDepth 20000 in
theorem gX1_invert_X1_inverseByValues : GoodIn wsX1_invert (wsV RX1 136 RX1 yX1_inverseByValues wsX1_inverseByValues) := goodIn_app (goodIn_of _ (by decide +kernel)) ggX1_invert_X1_inverseByValues
set_option maxRecDepth 20000 in
theorem ggX1_invert_X0_take : GoodIn wsX1_invert wsX0_take := goodIn_r _ [76, 28, 29, 77, 78, 79, 80, 89, 90] (by decide +kernel) (by decide +kernel)
set_option maxRecDepth 20000 in
theorem gX1_invert_X0_take : GoodIn wsX1_invert (wsV RX1 71 RX0 yX0_take wsX0_take) := goodIn_app (goodIn_of _ (by decide +kernel)) ggX1_invert_X0_take
theorem dX1_invert_0 : decode cX1_invert 0 = .ok (.aload_n 0, 1) := by decide +kernel
theorem dX1_invert_1 : decode cX1_invert 1 = .ok (.iload_n 1, 1) := by decide +kernel
theorem dX1_invert_2 : decode cX1_invert 2 = .ok (.invokevirtual 39, 3) := by decide +kernel
theorem dX1_invert_5 : decode cX1_invert 5 = .ok (.astore_n 2, 1) := by decide +kernel
theorem dX1_invert_6 : decode cX1_invert 6 = .ok (.aload_n 0, 1) := by decide +kernel
theorem dX1_invert_7 : decode cX1_invert 7 = .ok (.aload_n 2, 1) := by decide +kernel
theorem dX1_invert_8 : decode cX1_invert 8 = .ok (.aload_n 0, 1) := by decide +kernel
theorem dX1_invert_9 : decode cX1_invert 9 = .ok (.getfield 16, 3) := by decide +kernel
theorem dX1_invert_12 : decode cX1_invert 12 = .ok (.invokevirtual 96, 3) := by decide +kernel
theorem dX1_invert_15 : decode cX1_invert 15 = .ok (.aload_n 0, 1) := by decide +kernel
theorem dX1_invert_16 : decode cX1_invert 16 = .ok (.getfield 16, 3) := by decide +kernel
theorem dX1_invert_19 : decode cX1_invert 19 = .ok (.invokevirtual 127, 3) := by decide +kernel
theorem dX1_invert_22 : decode cX1_invert 22 = .ok (.ifCond .le 13, 3) := by decide +kernel
theorem dX1_invert_25 : decode cX1_invert 25 = .ok (.new 131, 3) := by decide +kernel
theorem dX1_invert_28 : decode cX1_invert 28 = .ok (.dup, 1) := by decide +kernel
theorem dX1_invert_29 : decode cX1_invert 29 = .ok (.ldc 133, 2) := by decide +kernel
theorem dX1_invert_31 : decode cX1_invert 31 = .ok (.invokespecial 135, 3) := by decide +kernel
theorem dX1_invert_34 : decode cX1_invert 34 = .ok (.athrow, 1) := by decide +kernel
theorem dX1_invert_35 : decode cX1_invert 35 = .ok (.aload_n 0, 1) := by decide +kernel
theorem dX1_invert_36 : decode cX1_invert 36 = .ok (.aload_n 0, 1) := by decide +kernel
theorem dX1_invert_37 : decode cX1_invert 37 = .ok (.getfield 16, 3) := by decide +kernel
theorem dX1_invert_40 : decode cX1_invert 40 = .ok (.aload_n 0, 1) := by decide +kernel
theorem dX1_invert_41 : decode cX1_invert 41 = .ok (.getfield 29, 3) := by decide +kernel
theorem dX1_invert_44 : decode cX1_invert 44 = .ok (.invokevirtual 136, 3) := by decide +kernel
theorem dX1_invert_47 : decode cX1_invert 47 = .ok (.aload_n 2, 1) := by decide +kernel
theorem dX1_invert_48 : decode cX1_invert 48 = .ok (.aload_n 0, 1) := by decide +kernel
theorem dX1_invert_49 : decode cX1_invert 49 = .ok (.getfield 29, 3) := by decide +kernel
theorem dX1_invert_52 : decode cX1_invert 52 = .ok (.invokevirtual 71, 3) := by decide +kernel
theorem dX1_invert_55 : decode cX1_invert 55 = .ok (.aload_n 2, 1) := by decide +kernel
theorem dX1_invert_56 : decode cX1_invert 56 = .ok (.getfield 60, 3) := by decide +kernel
theorem dX1_invert_59 : decode cX1_invert 59 = .ok (.iconst 0, 1) := by decide +kernel
theorem dX1_invert_60 : decode cX1_invert 60 = .ok (.iaload, 1) := by decide +kernel
theorem dX1_invert_61 : decode cX1_invert 61 = .ok (.ireturn, 1) := by decide +kernel
set_option maxRecDepth 20000 in
theorem ggX1_product_X0_becomeDigits : GoodIn wsX1_product wsX0_becomeDigits := goodIn_r _ [8, 9, 10, 11, 12, 7, 13, 14, 15, 16, 17, 18, 43, 44] (by decide +kernel) (by decide +kernel)
set_option maxRecDepth 20000 in
theorem gX1_product_X0_becomeDigits : GoodIn wsX1_product (wsV RX1 139 RX0 yX0_becomeDigits wsX0_becomeDigits) := goodIn_app (goodIn_of _ (by decide +kernel)) ggX1_product_X0_becomeDigits
set_option maxRecDepth 20000 in
theorem ggX1_product_X0_becomeRingProduct : GoodIn wsX1_product wsX0_becomeRingProduct := goodIn_r _ [22, 14, 9, 10, 11, 12, 7, 13, 15, 16, 17, 18, 23, 24, 25, 26, 27, 28, 29, 30, 43, 44] (by decide +kernel) (by decide +kernel)
set_option maxRecDepth 20000 in
theorem gX1_product_X0_becomeRingProduct : GoodIn wsX1_product (wsV RX1 118 RX0 yX0_becomeRingProduct wsX0_becomeRingProduct) := goodIn_app (goodIn_of _ (by decide +kernel)) ggX1_product_X0_becomeRingProduct
set_option maxRecDepth 20000 in
theorem ggX1_product_X0_toldByDigits : GoodIn wsX1_product wsX0_toldByDigits := goodIn_r _ [34, 14, 9, 43, 44] (by decide +kernel) (by decide +kernel)
set_option maxRecDepth 20000 in
theorem gX1_product_X0_toldByDigits : GoodIn wsX1_product (wsV RX1 142 RX0 yX0_toldByDigits wsX0_toldByDigits) := goodIn_app (goodIn_of _ (by decide +kernel)) ggX1_product_X0_toldByDigits
theorem dX1_product_0 : decode cX1_product 0 = .ok (.aload_n 0, 1) := by decide +kernel
theorem dX1_product_1 : decode cX1_product 1 = .ok (.getfield 16, 3) := by decide +kernel
theorem dX1_product_4 : decode cX1_product 4 = .ok (.iload_n 1, 1) := by decide +kernel
theorem dX1_product_5 : decode cX1_product 5 = .ok (.invokevirtual 139, 3) := by decide +kernel
theorem dX1_product_8 : decode cX1_product 8 = .ok (.aload_n 0, 1) := by decide +kernel
theorem dX1_product_9 : decode cX1_product 9 = .ok (.getfield 20, 3) := by decide +kernel
theorem dX1_product_12 : decode cX1_product 12 = .ok (.iload_n 2, 1) := by decide +kernel
theorem dX1_product_13 : decode cX1_product 13 = .ok (.invokevirtual 139, 3) := by decide +kernel
theorem dX1_product_16 : decode cX1_product 16 = .ok (.aload_n 0, 1) := by decide +kernel
theorem dX1_product_17 : decode cX1_product 17 = .ok (.getfield 29, 3) := by decide +kernel
theorem dX1_product_20 : decode cX1_product 20 = .ok (.aload_n 0, 1) := by decide +kernel
theorem dX1_product_21 : decode cX1_product 21 = .ok (.getfield 16, 3) := by decide +kernel
theorem dX1_product_24 : decode cX1_product 24 = .ok (.aload_n 0, 1) := by decide +kernel
theorem dX1_product_25 : decode cX1_product 25 = .ok (.getfield 20, 3) := by decide +kernel
theorem dX1_product_28 : decode cX1_product 28 = .ok (.invokevirtual 118, 3) := by decide +kernel
theorem dX1_product_31 : decode cX1_product 31 = .ok (.aload_n 0, 1) := by decide +kernel
theorem dX1_product_32 : decode cX1_product 32 = .ok (.getfield 29, 3) := by decide +kernel
theorem dX1_product_35 : decode cX1_product 35 = .ok (.invokevirtual 142, 3) := by decide +kernel
theorem dX1_product_38 : decode cX1_product 38 = .ok (.lreturn, 1) := by decide +kernel
set_option maxRecDepth 20000 in
theorem ggX1_digits_X1_rowAt : GoodIn wsX1_digits wsX1_rowAt := goodIn_ca (goodIn_r _ [6, 7, 8, 9, 31, 32, 33, 34, 35, 36, 37, 38] (by decide +kernel) (by decide +kernel)) (goodIn_sub (fun _ h => List.mem_cons_of_mem _ (List.mem_append_right _ h)) (by decide +kernel))
set_option maxRecDepth 20000 in
theorem gX1_digits_X1_rowAt : GoodIn wsX1_digits (wsV RX1 39 RX1 yX1_rowAt wsX1_rowAt) := goodIn_app (goodIn_of _ (by decide +kernel)) ggX1_digits_X1_rowAt
set_option maxRecDepth 20000 in
theorem ggX1_digits_X0_becomeDigits : GoodIn wsX1_digits wsX0_becomeDigits := goodIn_r _ [14, 15, 16, 17, 18, 13, 19, 20, 21, 22, 23, 24, 29, 30] (by decide +kernel) (by decide +kernel)
set_option maxRecDepth 20000 in
theorem gX1_digits_X0_becomeDigits : GoodIn wsX1_digits (wsV RX1 139 RX0 yX0_becomeDigits wsX0_becomeDigits) := goodIn_app (goodIn_of _ (by decide +kernel)) ggX1_digits_X0_becomeDigits
set_option maxRecDepth 20000 in
theorem ggX1_digits_X0_countZeros : GoodIn wsX1_digits wsX0_countZeros := goodIn_r _ [28, 20, 15, 29, 30] (by decide +kernel) (by decide +kernel)
set_option maxRecDepth 20000 in
theorem gX1_digits_X0_countZeros : GoodIn wsX1_digits (wsV RX1 127 RX0 yX0_countZeros wsX0_countZeros) := goodIn_app (goodIn_of _ (by decide +kernel)) ggX1_digits_X0_countZeros
theorem dX1_digits_0 : decode cX1_digits 0 = .ok (.aload_n 0, 1) := by decide +kernel
theorem dX1_digits_1 : decode cX1_digits 1 = .ok (.iload_n 1, 1) := by decide +kernel
theorem dX1_digits_2 : decode cX1_digits 2 = .ok (.invokevirtual 39, 3) := by decide +kernel
theorem dX1_digits_5 : decode cX1_digits 5 = .ok (.astore_n 3, 1) := by decide +kernel
theorem dX1_digits_6 : decode cX1_digits 6 = .ok (.aload_n 3, 1) := by decide +kernel
theorem dX1_digits_7 : decode cX1_digits 7 = .ok (.iload_n 2, 1) := by decide +kernel
theorem dX1_digits_8 : decode cX1_digits 8 = .ok (.invokevirtual 139, 3) := by decide +kernel
theorem dX1_digits_11 : decode cX1_digits 11 = .ok (.aload_n 3, 1) := by decide +kernel
theorem dX1_digits_12 : decode cX1_digits 12 = .ok (.getfield 47, 3) := by decide +kernel
theorem dX1_digits_15 : decode cX1_digits 15 = .ok (.aload_n 3, 1) := by decide +kernel
theorem dX1_digits_16 : decode cX1_digits 16 = .ok (.invokevirtual 127, 3) := by decide +kernel
theorem dX1_digits_19 : decode cX1_digits 19 = .ok (.isub, 1) := by decide +kernel
theorem dX1_digits_20 : decode cX1_digits 20 = .ok (.ireturn, 1) := by decide +kernel
set_option maxRecDepth 20000 in
theorem ggX1_told_X1_rowAt : GoodIn wsX1_told wsX1_rowAt := goodIn_ca (goodIn_r _ [5, 6, 7, 8, 16, 17, 18, 19, 20, 21, 22, 23] (by decide +kernel) (by decide +kernel)) (goodIn_sub (fun _ h => List.mem_cons_of_mem _ (List.mem_append_right _ h)) (by decide +kernel))
set_option maxRecDepth 20000 in
theorem gX1_told_X1_rowAt : GoodIn wsX1_told (wsV RX1 39 RX1 yX1_rowAt wsX1_rowAt) := goodIn_app (goodIn_of _ (by decide +kernel)) ggX1_told_X1_rowAt
set_option maxRecDepth 20000 in
theorem ggX1_told_X0_toldByDigits : GoodIn wsX1_told wsX0_toldByDigits := goodIn_r _ [13, 14, 15, 24, 25] (by decide +kernel) (by decide +kernel)
set_option maxRecDepth 20000 in
theorem gX1_told_X0_toldByDigits : GoodIn wsX1_told (wsV RX1 142 RX0 yX0_toldByDigits wsX0_toldByDigits) := goodIn_app (goodIn_of _ (by decide +kernel)) ggX1_told_X0_toldByDigits
theorem dX1_told_0 : decode cX1_told 0 = .ok (.aload_n 0, 1) := by decide +kernel
theorem dX1_told_1 : decode cX1_told 1 = .ok (.iload_n 1, 1) := by decide +kernel
theorem dX1_told_2 : decode cX1_told 2 = .ok (.invokevirtual 39, 3) := by decide +kernel
theorem dX1_told_5 : decode cX1_told 5 = .ok (.invokevirtual 142, 3) := by decide +kernel
theorem dX1_told_8 : decode cX1_told 8 = .ok (.lreturn, 1) := by decide +kernel
set_option maxRecDepth 20000 in
theorem ggX1_shift_X1_rowAt : GoodIn wsX1_shift wsX1_rowAt := goodIn_ca (goodIn_r _ [7, 8, 9, 10, 38, 39, 40, 41, 42, 43, 44, 45] (by decide +kernel) (by decide +kernel)) (goodIn_sub (fun _ h => List.mem_cons_of_mem _ (List.mem_append_right _ h)) (by decide +kernel))
set_option maxRecDepth 20000 in
theorem gX1_shift_X1_rowAt : GoodIn wsX1_shift (wsV RX1 39 RX1 yX1_rowAt wsX1_rowAt) := goodIn_app (goodIn_of _ (by decide +kernel)) ggX1_shift_X1_rowAt
set_option maxRecDepth 20000 in
theorem ggX1_shift_X0_becomeShifted : GoodIn wsX1_shift wsX0_becomeShifted := goodIn_r _ [15, 16, 17, 18, 19, 20, 14, 21, 22, 23, 24, 25, 26, 27, 28, 29, 46, 47] (by decide +kernel) (by decide +kernel)
set_option maxRecDepth 20000 in
theorem gX1_shift_X0_becomeShifted : GoodIn wsX1_shift (wsV RX1 146 RX0 yX0_becomeShifted wsX0_becomeShifted) := goodIn_app (goodIn_of _ (by decide +kernel)) ggX1_shift_X0_becomeShifted
set_option maxRecDepth 20000 in
theorem ggX1_shift_X0_take : GoodIn wsX1_shift wsX0_take := goodIn_r _ [33, 16, 17, 34, 35, 36, 37, 46, 47] (by decide +kernel) (by decide +kernel)
set_option maxRecDepth 20000 in
theorem gX1_shift_X0_take : GoodIn wsX1_shift (wsV RX1 71 RX0 yX0_take wsX0_take) := goodIn_app (goodIn_of _ (by decide +kernel)) ggX1_shift_X0_take
theorem dX1_shift_0 : decode cX1_shift 0 = .ok (.aload_n 0, 1) := by decide +kernel
theorem dX1_shift_1 : decode cX1_shift 1 = .ok (.iload_n 1, 1) := by decide +kernel
theorem dX1_shift_2 : decode cX1_shift 2 = .ok (.invokevirtual 39, 3) := by decide +kernel
theorem dX1_shift_5 : decode cX1_shift 5 = .ok (.astore_n 3, 1) := by decide +kernel
theorem dX1_shift_6 : decode cX1_shift 6 = .ok (.aload_n 0, 1) := by decide +kernel
theorem dX1_shift_7 : decode cX1_shift 7 = .ok (.getfield 29, 3) := by decide +kernel
theorem dX1_shift_10 : decode cX1_shift 10 = .ok (.aload_n 3, 1) := by decide +kernel
theorem dX1_shift_11 : decode cX1_shift 11 = .ok (.iload_n 2, 1) := by decide +kernel
theorem dX1_shift_12 : decode cX1_shift 12 = .ok (.invokevirtual 146, 3) := by decide +kernel
theorem dX1_shift_15 : decode cX1_shift 15 = .ok (.aload_n 3, 1) := by decide +kernel
theorem dX1_shift_16 : decode cX1_shift 16 = .ok (.aload_n 0, 1) := by decide +kernel
theorem dX1_shift_17 : decode cX1_shift 17 = .ok (.getfield 29, 3) := by decide +kernel
theorem dX1_shift_20 : decode cX1_shift 20 = .ok (.invokevirtual 71, 3) := by decide +kernel
theorem dX1_shift_23 : decode cX1_shift 23 = .ok (.aload_n 3, 1) := by decide +kernel
theorem dX1_shift_24 : decode cX1_shift 24 = .ok (.getfield 60, 3) := by decide +kernel
theorem dX1_shift_27 : decode cX1_shift 27 = .ok (.iconst 0, 1) := by decide +kernel
theorem dX1_shift_28 : decode cX1_shift 28 = .ok (.iaload, 1) := by decide +kernel
theorem dX1_shift_29 : decode cX1_shift 29 = .ok (.ireturn, 1) := by decide +kernel
set_option maxRecDepth 20000 in
theorem ggX1_weigh_X1_rowAt : GoodIn wsX1_weigh wsX1_rowAt := goodIn_ca (goodIn_r _ [7, 8, 9, 10, 54, 55, 56, 57, 58, 59, 60, 61] (by decide +kernel) (by decide +kernel)) (goodIn_sub (fun _ h => List.mem_cons_of_mem _ (List.mem_append_right _ h)) (by decide +kernel))
set_option maxRecDepth 20000 in
theorem gX1_weigh_X1_rowAt : GoodIn wsX1_weigh (wsV RX1 39 RX1 yX1_rowAt wsX1_rowAt) := goodIn_app (goodIn_of _ (by decide +kernel)) ggX1_weigh_X1_rowAt
set_option maxRecDepth 20000 in
theorem ggX1_weigh_X1_weighedRow : GoodIn wsX1_weigh wsX1_weighedRow := goodIn_r _ [14, 15, 2, 16, 17, 18, 19, 20, 21, 22, 23, 24, 25, 26, 27, 28, 29, 6, 30, 31, 32, 33, 34, 35, 36, 37, 38, 39, 40, 41, 42, 43, 44, 45, 62, 63, 54, 55, 56, 57, 58, 59, 60, 61] (by decide +kernel) (by decide +kernel)
set_option maxRecDepth 20000 in
theorem gX1_weigh_X1_weighedRow : GoodIn wsX1_weigh (wsV RX1 149 RX1 yX1_weighedRow wsX1_weighedRow) := goodIn_app (goodIn_of _ (by decide +kernel)) ggX1_weigh_X1_weighedRow
set_option maxRecDepth 20000 in
theorem ggX1_weigh_X0_take : GoodIn wsX1_weigh wsX0_take := goodIn_r _ [49, 21, 22, 50, 51, 52, 53, 62, 63] (by decide +kernel) (by decide +kernel)
set_option maxRecDepth 20000 in
theorem gX1_weigh_X0_take : GoodIn wsX1_weigh (wsV RX1 71 RX0 yX0_take wsX0_take) := goodIn_app (goodIn_of _ (by decide +kernel)) ggX1_weigh_X0_take
theorem dX1_weigh_0 : decode cX1_weigh 0 = .ok (.aload_n 0, 1) := by decide +kernel
theorem dX1_weigh_1 : decode cX1_weigh 1 = .ok (.iload_n 1, 1) := by decide +kernel
theorem dX1_weigh_2 : decode cX1_weigh 2 = .ok (.invokevirtual 39, 3) := by decide +kernel
theorem dX1_weigh_5 : decode cX1_weigh 5 = .ok (.astore_n 3, 1) := by decide +kernel
theorem dX1_weigh_6 : decode cX1_weigh 6 = .ok (.aload_n 0, 1) := by decide +kernel
theorem dX1_weigh_7 : decode cX1_weigh 7 = .ok (.aload_n 3, 1) := by decide +kernel
theorem dX1_weigh_8 : decode cX1_weigh 8 = .ok (.iload_n 2, 1) := by decide +kernel
theorem dX1_weigh_9 : decode cX1_weigh 9 = .ok (.aload_n 0, 1) := by decide +kernel
theorem dX1_weigh_10 : decode cX1_weigh 10 = .ok (.getfield 29, 3) := by decide +kernel
theorem dX1_weigh_13 : decode cX1_weigh 13 = .ok (.invokevirtual 149, 3) := by decide +kernel
theorem dX1_weigh_16 : decode cX1_weigh 16 = .ok (.aload_n 3, 1) := by decide +kernel
theorem dX1_weigh_17 : decode cX1_weigh 17 = .ok (.aload_n 0, 1) := by decide +kernel
theorem dX1_weigh_18 : decode cX1_weigh 18 = .ok (.getfield 29, 3) := by decide +kernel
theorem dX1_weigh_21 : decode cX1_weigh 21 = .ok (.invokevirtual 71, 3) := by decide +kernel
theorem dX1_weigh_24 : decode cX1_weigh 24 = .ok (.aload_n 3, 1) := by decide +kernel
theorem dX1_weigh_25 : decode cX1_weigh 25 = .ok (.getfield 60, 3) := by decide +kernel
theorem dX1_weigh_28 : decode cX1_weigh 28 = .ok (.iconst 1, 1) := by decide +kernel
theorem dX1_weigh_29 : decode cX1_weigh 29 = .ok (.iaload, 1) := by decide +kernel
theorem dX1_weigh_30 : decode cX1_weigh 30 = .ok (.ireturn, 1) := by decide +kernel
set_option maxRecDepth 20000 in
theorem ggX1_turnRound_X1_rowAt : GoodIn wsX1_turnRound wsX1_rowAt := goodIn_ca (goodIn_r _ [6, 7, 8, 9, 42, 43, 44, 45, 46, 47, 48, 49] (by decide +kernel) (by decide +kernel)) (goodIn_sub (fun _ h => List.mem_cons_of_mem _ (List.mem_append_right _ h)) (by decide +kernel))
set_option maxRecDepth 20000 in
theorem gX1_turnRound_X1_rowAt : GoodIn wsX1_turnRound (wsV RX1 39 RX1 yX1_rowAt wsX1_rowAt) := goodIn_app (goodIn_of _ (by decide +kernel)) ggX1_turnRound_X1_rowAt
set_option maxRecDepth 20000 in
theorem ggX1_turnRound_X0_becomeTurned : GoodIn wsX1_turnRound wsX0_becomeTurned := goodIn_r _ [14, 15, 16, 17, 18, 19, 13, 20, 21, 22, 23, 24, 25, 26, 27, 28, 50, 51] (by decide +kernel) (by decide +kernel)
set_option maxRecDepth 20000 in
theorem gX1_turnRound_X0_becomeTurned : GoodIn wsX1_turnRound (wsV RX1 153 RX0 yX0_becomeTurned wsX0_becomeTurned) := goodIn_app (goodIn_of _ (by decide +kernel)) ggX1_turnRound_X0_becomeTurned
set_option maxRecDepth 20000 in
theorem ggX1_turnRound_X1_changed : GoodIn wsX1_turnRound wsX1_changed := goodIn_r _ [31, 32, 33, 34, 35, 36, 13, 37, 15, 16, 38, 39, 40, 41, 50, 51] (by decide +kernel) (by decide +kernel)
set_option maxRecDepth 20000 in
theorem gX1_turnRound_X1_changed : GoodIn wsX1_turnRound (va_wsS RX1 75 yX1_changed wsX1_changed) := goodIn_app (goodIn_of _ (by decide +kernel)) ggX1_turnRound_X1_changed
theorem dX1_turnRound_0 : decode cX1_turnRound 0 = .ok (.aload_n 0, 1) := by decide +kernel
theorem dX1_turnRound_1 : decode cX1_turnRound 1 = .ok (.iload_n 1, 1) := by decide +kernel
theorem dX1_turnRound_2 : decode cX1_turnRound 2 = .ok (.invokevirtual 39, 3) := by decide +kernel
theorem dX1_turnRound_5 : decode cX1_turnRound 5 = .ok (.astore_n 2, 1) := by decide +kernel
theorem dX1_turnRound_6 : decode cX1_turnRound 6 = .ok (.aload_n 0, 1) := by decide +kernel
theorem dX1_turnRound_7 : decode cX1_turnRound 7 = .ok (.getfield 29, 3) := by decide +kernel
theorem dX1_turnRound_10 : decode cX1_turnRound 10 = .ok (.aload_n 2, 1) := by decide +kernel
theorem dX1_turnRound_11 : decode cX1_turnRound 11 = .ok (.invokevirtual 153, 3) := by decide +kernel
theorem dX1_turnRound_14 : decode cX1_turnRound 14 = .ok (.aload_n 2, 1) := by decide +kernel
theorem dX1_turnRound_15 : decode cX1_turnRound 15 = .ok (.aload_n 0, 1) := by decide +kernel
theorem dX1_turnRound_16 : decode cX1_turnRound 16 = .ok (.getfield 29, 3) := by decide +kernel
theorem dX1_turnRound_19 : decode cX1_turnRound 19 = .ok (.invokestatic 75, 3) := by decide +kernel
theorem dX1_turnRound_22 : decode cX1_turnRound 22 = .ok (.ifCond .le 7, 3) := by decide +kernel
theorem dX1_turnRound_25 : decode cX1_turnRound 25 = .ok (.iconst 1, 1) := by decide +kernel
theorem dX1_turnRound_26 : decode cX1_turnRound 26 = .ok (.goto 4, 3) := by decide +kernel
theorem dX1_turnRound_29 : decode cX1_turnRound 29 = .ok (.iconst 0, 1) := by decide +kernel
theorem dX1_turnRound_30 : decode cX1_turnRound 30 = .ok (.ireturn, 1) := by decide +kernel
set_option maxRecDepth 20000 in
theorem ggX1_combine_X1_rowAt : GoodIn wsX1_combine wsX1_rowAt := goodIn_ca (goodIn_r _ [8, 9, 10, 11, 59, 60, 61, 62, 63, 64, 65, 66] (by decide +kernel) (by decide +kernel)) (goodIn_sub (fun _ h => List.mem_cons_of_mem _ (List.mem_append_left _ (List.mem_append_right _ h))) (by decide +kernel))
set_option maxRecDepth 20000 in
theorem gX1_combine_X1_rowAt : GoodIn wsX1_combine (wsV RX1 39 RX1 yX1_rowAt wsX1_rowAt) := goodIn_app (goodIn_of _ (by decide +kernel)) ggX1_combine_X1_rowAt
set_option maxRecDepth 20000 in
theorem ggX1_combine_X1_needAlike : GoodIn wsX1_combine wsX1_needAlike := goodIn_ca (goodIn_r _ [14, 15, 16, 17, 67, 68] (by decide +kernel) (by decide +kernel)) (goodIn_sub (fun _ h => List.mem_cons_of_mem _ (List.mem_append_right _ h)) (by decide +kernel))
set_option maxRecDepth 20000 in
theorem gX1_combine_X1_needAlike : GoodIn wsX1_combine (va_wsS RX1 111 yX1_needAlike wsX1_needAlike) := goodIn_app (goodIn_of _ (by decide +kernel)) ggX1_combine_X1_needAlike
set_option maxRecDepth 20000 in
theorem ggX1_combine_X0_becomeSums : GoodIn wsX1_combine wsX0_becomeSums := goodIn_r _ [22, 23, 24, 25, 7, 26, 27, 67, 68] (by decide +kernel) (by decide +kernel)
set_option maxRecDepth 20000 in
theorem gX1_combine_X0_becomeSums : GoodIn wsX1_combine (wsV RX1 158 RX0 yX0_becomeSums wsX0_becomeSums) := goodIn_app (goodIn_of _ (by decide +kernel)) ggX1_combine_X0_becomeSums
set_option maxRecDepth 20000 in
theorem ggX1_combine_X0_becomeDifferences : GoodIn wsX1_combine wsX0_becomeDifferences := goodIn_r _ [31, 23, 24, 32, 7, 33, 27, 67, 68] (by decide +kernel) (by decide +kernel)
set_option maxRecDepth 20000 in
theorem gX1_combine_X0_becomeDifferences : GoodIn wsX1_combine (wsV RX1 161 RX0 yX0_becomeDifferences wsX0_becomeDifferences) := goodIn_app (goodIn_of _ (by decide +kernel)) ggX1_combine_X0_becomeDifferences
set_option maxRecDepth 20000 in
theorem ggX1_combine_X0_becomeProducts : GoodIn wsX1_combine wsX0_becomeProducts := goodIn_r _ [37, 23, 24, 38, 7, 39, 40, 41, 42, 43, 67, 68] (by decide +kernel) (by decide +kernel)
set_option maxRecDepth 20000 in
theorem gX1_combine_X0_becomeProducts : GoodIn wsX1_combine (wsV RX1 164 RX0 yX0_becomeProducts wsX0_becomeProducts) := goodIn_app (goodIn_of _ (by decide +kernel)) ggX1_combine_X0_becomeProducts
set_option maxRecDepth 20000 in
theorem ggX1_combine_X1_zerosAsNow : GoodIn wsX1_combine wsX1_zerosAsNow := goodIn_r _ [46, 47, 48, 49, 21, 50, 23, 24, 51, 52, 53, 54, 55, 56, 57, 58, 67, 68] (by decide +kernel) (by decide +kernel)
set_option maxRecDepth 20000 in
theorem gX1_combine_X1_zerosAsNow : GoodIn wsX1_combine (va_wsS RX1 99 yX1_zerosAsNow wsX1_zerosAsNow) := goodIn_app (goodIn_of _ (by decide +kernel)) ggX1_combine_X1_zerosAsNow
theorem dX1_combine_0 : decode cX1_combine 0 = .ok (.aload_n 0, 1) := by decide +kernel
theorem dX1_combine_1 : decode cX1_combine 1 = .ok (.iload_n 1, 1) := by decide +kernel
theorem dX1_combine_2 : decode cX1_combine 2 = .ok (.invokevirtual 39, 3) := by decide +kernel
theorem dX1_combine_5 : decode cX1_combine 5 = .ok (.astore 4, 2) := by decide +kernel
theorem dX1_combine_7 : decode cX1_combine 7 = .ok (.aload_n 0, 1) := by decide +kernel
theorem dX1_combine_8 : decode cX1_combine 8 = .ok (.iload_n 2, 1) := by decide +kernel
theorem dX1_combine_9 : decode cX1_combine 9 = .ok (.invokevirtual 39, 3) := by decide +kernel
theorem dX1_combine_12 : decode cX1_combine 12 = .ok (.astore 5, 2) := by decide +kernel
theorem dX1_combine_14 : decode cX1_combine 14 = .ok (.iload_n 3, 1) := by decide +kernel
theorem dX1_combine_15 : decode cX1_combine 15 = .ok (.bipush 43, 2) := by decide +kernel
theorem dX1_combine_17 : decode cX1_combine 17 = .ok (.if_icmp .eq 25, 3) := by decide +kernel
theorem dX1_combine_20 : decode cX1_combine 20 = .ok (.iload_n 3, 1) := by decide +kernel
theorem dX1_combine_21 : decode cX1_combine 21 = .ok (.bipush 45, 2) := by decide +kernel
theorem dX1_combine_23 : decode cX1_combine 23 = .ok (.if_icmp .eq 19, 3) := by decide +kernel
theorem dX1_combine_26 : decode cX1_combine 26 = .ok (.iload_n 3, 1) := by decide +kernel
theorem dX1_combine_27 : decode cX1_combine 27 = .ok (.bipush 42, 2) := by decide +kernel
theorem dX1_combine_29 : decode cX1_combine 29 = .ok (.if_icmp .eq 13, 3) := by decide +kernel
theorem dX1_combine_32 : decode cX1_combine 32 = .ok (.new 83, 3) := by decide +kernel
theorem dX1_combine_35 : decode cX1_combine 35 = .ok (.dup, 1) := by decide +kernel
theorem dX1_combine_36 : decode cX1_combine 36 = .ok (.ldc 156, 2) := by decide +kernel
theorem dX1_combine_38 : decode cX1_combine 38 = .ok (.invokespecial 87, 3) := by decide +kernel
theorem dX1_combine_41 : decode cX1_combine 41 = .ok (.athrow, 1) := by decide +kernel
theorem dX1_combine_42 : decode cX1_combine 42 = .ok (.aload 4, 2) := by decide +kernel
theorem dX1_combine_44 : decode cX1_combine 44 = .ok (.aload 5, 2) := by decide +kernel
theorem dX1_combine_46 : decode cX1_combine 46 = .ok (.invokestatic 111, 3) := by decide +kernel
theorem dX1_combine_49 : decode cX1_combine 49 = .ok (.iload_n 3, 1) := by decide +kernel
theorem dX1_combine_50 : decode cX1_combine 50 = .ok (.bipush 43, 2) := by decide +kernel
theorem dX1_combine_52 : decode cX1_combine 52 = .ok (.if_icmp .ne 17, 3) := by decide +kernel
theorem dX1_combine_55 : decode cX1_combine 55 = .ok (.aload_n 0, 1) := by decide +kernel
theorem dX1_combine_56 : decode cX1_combine 56 = .ok (.getfield 29, 3) := by decide +kernel
theorem dX1_combine_59 : decode cX1_combine 59 = .ok (.aload 4, 2) := by decide +kernel
theorem dX1_combine_61 : decode cX1_combine 61 = .ok (.aload 5, 2) := by decide +kernel
theorem dX1_combine_63 : decode cX1_combine 63 = .ok (.invokevirtual 158, 3) := by decide +kernel
theorem dX1_combine_66 : decode cX1_combine 66 = .ok (.goto 34, 3) := by decide +kernel
theorem dX1_combine_69 : decode cX1_combine 69 = .ok (.iload_n 3, 1) := by decide +kernel
theorem dX1_combine_70 : decode cX1_combine 70 = .ok (.bipush 45, 2) := by decide +kernel
theorem dX1_combine_72 : decode cX1_combine 72 = .ok (.if_icmp .ne 17, 3) := by decide +kernel
theorem dX1_combine_75 : decode cX1_combine 75 = .ok (.aload_n 0, 1) := by decide +kernel
theorem dX1_combine_76 : decode cX1_combine 76 = .ok (.getfield 29, 3) := by decide +kernel
theorem dX1_combine_79 : decode cX1_combine 79 = .ok (.aload 4, 2) := by decide +kernel
theorem dX1_combine_81 : decode cX1_combine 81 = .ok (.aload 5, 2) := by decide +kernel
theorem dX1_combine_83 : decode cX1_combine 83 = .ok (.invokevirtual 161, 3) := by decide +kernel
theorem dX1_combine_86 : decode cX1_combine 86 = .ok (.goto 14, 3) := by decide +kernel
theorem dX1_combine_89 : decode cX1_combine 89 = .ok (.aload_n 0, 1) := by decide +kernel
theorem dX1_combine_90 : decode cX1_combine 90 = .ok (.getfield 29, 3) := by decide +kernel
theorem dX1_combine_93 : decode cX1_combine 93 = .ok (.aload 4, 2) := by decide +kernel
theorem dX1_combine_95 : decode cX1_combine 95 = .ok (.aload 5, 2) := by decide +kernel
theorem dX1_combine_97 : decode cX1_combine 97 = .ok (.invokevirtual 164, 3) := by decide +kernel
theorem dX1_combine_100 : decode cX1_combine 100 = .ok (.aload 4, 2) := by decide +kernel
theorem dX1_combine_102 : decode cX1_combine 102 = .ok (.aload_n 0, 1) := by decide +kernel
theorem dX1_combine_103 : decode cX1_combine 103 = .ok (.getfield 29, 3) := by decide +kernel
theorem dX1_combine_106 : decode cX1_combine 106 = .ok (.invokestatic 99, 3) := by decide +kernel
theorem dX1_combine_109 : decode cX1_combine 109 = .ok (.ireturn, 1) := by decide +kernel
set_option maxRecDepth 20000 in
theorem ggX1_multiply_X1_rowAt : GoodIn wsX1_multiply wsX1_rowAt := goodIn_ca (goodIn_r _ [6, 7, 8, 9, 47, 48, 49, 50, 51, 52, 53, 54] (by decide +kernel) (by decide +kernel)) (goodIn_sub (fun _ h => List.mem_cons_of_mem _ (List.mem_append_left _ (List.mem_append_right _ h))) (by decide +kernel))
set_option maxRecDepth 20000 in
theorem gX1_multiply_X1_rowAt : GoodIn wsX1_multiply (wsV RX1 39 RX1 yX1_rowAt wsX1_rowAt) := goodIn_app (goodIn_of _ (by decide +kernel)) ggX1_multiply_X1_rowAt
set_option maxRecDepth 20000 in
theorem ggX1_multiply_X1_needNumber : GoodIn wsX1_multiply wsX1_needNumber := goodIn_ca (goodIn_r _ [12, 13, 14, 15, 16, 5, 17, 18] (by decide +kernel) (by decide +kernel)) (goodIn_sub (fun _ h => List.mem_cons_of_mem _ (List.mem_append_right _ h)) (by decide +kernel))
set_option maxRecDepth 20000 in
theorem gX1_multiply_X1_needNumber : GoodIn wsX1_multiply (va_wsS RX1 57 yX1_needNumber wsX1_needNumber) := goodIn_app (goodIn_of _ (by decide +kernel)) ggX1_multiply_X1_needNumber
set_option maxRecDepth 20000 in
theorem ggX1_multiply_X0_becomeScaled : GoodIn wsX1_multiply wsX0_becomeScaled := goodIn_r _ [23, 24, 25, 26, 5, 27, 28, 29, 30, 31, 55, 56] (by decide +kernel) (by decide +kernel)
set_option maxRecDepth 20000 in
theorem gX1_multiply_X0_becomeScaled : GoodIn wsX1_multiply (wsV RX1 167 RX0 yX0_becomeScaled wsX0_becomeScaled) := goodIn_app (goodIn_of _ (by decide +kernel)) ggX1_multiply_X0_becomeScaled
set_option maxRecDepth 20000 in
theorem ggX1_multiply_X1_zerosAsNow : GoodIn wsX1_multiply wsX1_zerosAsNow := goodIn_r _ [34, 35, 36, 37, 22, 38, 24, 25, 39, 40, 41, 42, 43, 44, 45, 46, 55, 56] (by decide +kernel) (by decide +kernel)
set_option maxRecDepth 20000 in
theorem gX1_multiply_X1_zerosAsNow : GoodIn wsX1_multiply (va_wsS RX1 99 yX1_zerosAsNow wsX1_zerosAsNow) := goodIn_app (goodIn_of _ (by decide +kernel)) ggX1_multiply_X1_zerosAsNow
theorem dX1_multiply_0 : decode cX1_multiply 0 = .ok (.aload_n 0, 1) := by decide +kernel
theorem dX1_multiply_1 : decode cX1_multiply 1 = .ok (.iload_n 1, 1) := by decide +kernel
theorem dX1_multiply_2 : decode cX1_multiply 2 = .ok (.invokevirtual 39, 3) := by decide +kernel
theorem dX1_multiply_5 : decode cX1_multiply 5 = .ok (.astore_n 3, 1) := by decide +kernel
theorem dX1_multiply_6 : decode cX1_multiply 6 = .ok (.iload_n 2, 1) := by decide +kernel
theorem dX1_multiply_7 : decode cX1_multiply 7 = .ok (.invokestatic 57, 3) := by decide +kernel
theorem dX1_multiply_10 : decode cX1_multiply 10 = .ok (.aload_n 0, 1) := by decide +kernel
theorem dX1_multiply_11 : decode cX1_multiply 11 = .ok (.getfield 29, 3) := by decide +kernel
theorem dX1_multiply_14 : decode cX1_multiply 14 = .ok (.aload_n 3, 1) := by decide +kernel
theorem dX1_multiply_15 : decode cX1_multiply 15 = .ok (.iload_n 2, 1) := by decide +kernel
theorem dX1_multiply_16 : decode cX1_multiply 16 = .ok (.invokevirtual 167, 3) := by decide +kernel
theorem dX1_multiply_19 : decode cX1_multiply 19 = .ok (.aload_n 3, 1) := by decide +kernel
theorem dX1_multiply_20 : decode cX1_multiply 20 = .ok (.aload_n 0, 1) := by decide +kernel
theorem dX1_multiply_21 : decode cX1_multiply 21 = .ok (.getfield 29, 3) := by decide +kernel
theorem dX1_multiply_24 : decode cX1_multiply 24 = .ok (.invokestatic 99, 3) := by decide +kernel
theorem dX1_multiply_27 : decode cX1_multiply 27 = .ok (.ireturn, 1) := by decide +kernel
set_option maxRecDepth 20000 in
theorem ggX1_repeat_X1_rowAt : GoodIn wsX1_repeat wsX1_rowAt := goodIn_ca (goodIn_r _ [6, 7, 8, 9, 46, 47, 48, 49, 50, 51, 52, 53] (by decide +kernel) (by decide +kernel)) (goodIn_sub (fun _ h => List.mem_cons_of_mem _ (List.mem_append_left _ (List.mem_append_right _ h))) (by decide +kernel))
set_option maxRecDepth 20000 in
theorem gX1_repeat_X1_rowAt : GoodIn wsX1_repeat (wsV RX1 39 RX1 yX1_rowAt wsX1_rowAt) := goodIn_app (goodIn_of _ (by decide +kernel)) ggX1_repeat_X1_rowAt
set_option maxRecDepth 20000 in
theorem ggX1_repeat_X1_needAfter : GoodIn wsX1_repeat wsX1_needAfter := goodIn_ca (goodIn_r _ [12, 13, 14, 15, 16, 17, 5, 18, 54, 55] (by decide +kernel) (by decide +kernel)) (goodIn_sub (fun _ h => List.mem_cons_of_mem _ (List.mem_append_right _ h)) (by decide +kernel))
set_option maxRecDepth 20000 in
theorem gX1_repeat_X1_needAfter : GoodIn wsX1_repeat (va_wsS RX1 170 yX1_needAfter wsX1_needAfter) := goodIn_app (goodIn_of _ (by decide +kernel)) ggX1_repeat_X1_needAfter
set_option maxRecDepth 20000 in
theorem ggX1_repeat_X0_becomeRepeated : GoodIn wsX1_repeat wsX0_becomeRepeated := goodIn_r _ [23, 24, 25, 26, 27, 28, 22, 29, 30, 31, 32, 33, 54, 55] (by decide +kernel) (by decide +kernel)
set_option maxRecDepth 20000 in
theorem gX1_repeat_X0_becomeRepeated : GoodIn wsX1_repeat (wsV RX1 173 RX0 yX0_becomeRepeated wsX0_becomeRepeated) := goodIn_app (goodIn_of _ (by decide +kernel)) ggX1_repeat_X0_becomeRepeated
set_option maxRecDepth 20000 in
theorem ggX1_repeat_X1_changed : GoodIn wsX1_repeat wsX1_changed := goodIn_r _ [36, 15, 37, 38, 39, 40, 22, 41, 24, 25, 42, 43, 44, 45, 54, 55] (by decide +kernel) (by decide +kernel)
set_option maxRecDepth 20000 in
theorem gX1_repeat_X1_changed : GoodIn wsX1_repeat (va_wsS RX1 75 yX1_changed wsX1_changed) := goodIn_app (goodIn_of _ (by decide +kernel)) ggX1_repeat_X1_changed
theorem dX1_repeat_0 : decode cX1_repeat 0 = .ok (.aload_n 0, 1) := by decide +kernel
theorem dX1_repeat_1 : decode cX1_repeat 1 = .ok (.iload_n 1, 1) := by decide +kernel
theorem dX1_repeat_2 : decode cX1_repeat 2 = .ok (.invokevirtual 39, 3) := by decide +kernel
theorem dX1_repeat_5 : decode cX1_repeat 5 = .ok (.astore_n 3, 1) := by decide +kernel
theorem dX1_repeat_6 : decode cX1_repeat 6 = .ok (.aload_n 3, 1) := by decide +kernel
theorem dX1_repeat_7 : decode cX1_repeat 7 = .ok (.iload_n 2, 1) := by decide +kernel
theorem dX1_repeat_8 : decode cX1_repeat 8 = .ok (.invokestatic 170, 3) := by decide +kernel
theorem dX1_repeat_11 : decode cX1_repeat 11 = .ok (.aload_n 0, 1) := by decide +kernel
theorem dX1_repeat_12 : decode cX1_repeat 12 = .ok (.getfield 29, 3) := by decide +kernel
theorem dX1_repeat_15 : decode cX1_repeat 15 = .ok (.aload_n 3, 1) := by decide +kernel
theorem dX1_repeat_16 : decode cX1_repeat 16 = .ok (.iload_n 2, 1) := by decide +kernel
theorem dX1_repeat_17 : decode cX1_repeat 17 = .ok (.invokevirtual 173, 3) := by decide +kernel
theorem dX1_repeat_20 : decode cX1_repeat 20 = .ok (.aload_n 3, 1) := by decide +kernel
theorem dX1_repeat_21 : decode cX1_repeat 21 = .ok (.aload_n 0, 1) := by decide +kernel
theorem dX1_repeat_22 : decode cX1_repeat 22 = .ok (.getfield 29, 3) := by decide +kernel
theorem dX1_repeat_25 : decode cX1_repeat 25 = .ok (.invokestatic 75, 3) := by decide +kernel
theorem dX1_repeat_28 : decode cX1_repeat 28 = .ok (.ireturn, 1) := by decide +kernel
set_option maxRecDepth 20000 in
theorem ggX1_own_X1_rowAt : GoodIn wsX1_own wsX1_rowAt := goodIn_ca (goodIn_r _ [6, 7, 8, 9, 91, 92, 93, 94, 95, 96, 97, 98] (by decide +kernel) (by decide +kernel)) (goodIn_sub (fun _ h => List.mem_cons_of_mem _ (List.mem_append_right _ h)) (by decide +kernel))
set_option maxRecDepth 20000 in
theorem gX1_own_X1_rowAt : GoodIn wsX1_own (wsV RX1 39 RX1 yX1_rowAt wsX1_rowAt) := goodIn_app (goodIn_of _ (by decide +kernel)) ggX1_own_X1_rowAt
set_option maxRecDepth 20000 in
theorem ggX1_own_X1_ownRow : GoodIn wsX1_own wsX1_ownRow := goodIn_r _ [13, 14, 15, 16, 17, 18, 19, 20, 21, 22, 23, 24, 25, 26, 27, 28, 29, 30, 31, 32, 33, 34, 35, 36, 37, 38, 39, 5, 40, 41, 42, 43, 44, 45, 46, 47, 48, 49, 50, 51, 52, 53, 54, 55, 56, 57, 58, 59, 60, 61, 62, 63, 64, 65, 66, 67, 68, 69, 70, 71, 72, 73, 74, 75, 91, 92, 93, 94, 95, 96, 97, 98, 99, 100] (by decide +kernel) (by decide +kernel)
set_option maxRecDepth 20000 in
theorem gX1_own_X1_ownRow : GoodIn wsX1_own (wsV RX1 176 RX1 yX1_ownRow wsX1_ownRow) := goodIn_app (goodIn_of _ (by decide +kernel)) ggX1_own_X1_ownRow
set_option maxRecDepth 20000 in
theorem ggX1_own_X1_zerosAsNow : GoodIn wsX1_own wsX1_zerosAsNow := goodIn_r _ [78, 79, 80, 81, 19, 82, 21, 22, 83, 84, 85, 86, 87, 88, 89, 90, 99, 100] (by decide +kernel) (by decide +kernel)
set_option maxRecDepth 20000 in
theorem gX1_own_X1_zerosAsNow : GoodIn wsX1_own (va_wsS RX1 99 yX1_zerosAsNow wsX1_zerosAsNow) := goodIn_app (goodIn_of _ (by decide +kernel)) ggX1_own_X1_zerosAsNow
theorem dX1_own_0 : decode cX1_own 0 = .ok (.aload_n 0, 1) := by decide +kernel
theorem dX1_own_1 : decode cX1_own 1 = .ok (.iload_n 1, 1) := by decide +kernel
theorem dX1_own_2 : decode cX1_own 2 = .ok (.invokevirtual 39, 3) := by decide +kernel
theorem dX1_own_5 : decode cX1_own 5 = .ok (.astore_n 2, 1) := by decide +kernel
theorem dX1_own_6 : decode cX1_own 6 = .ok (.aload_n 0, 1) := by decide +kernel
theorem dX1_own_7 : decode cX1_own 7 = .ok (.aload_n 2, 1) := by decide +kernel
theorem dX1_own_8 : decode cX1_own 8 = .ok (.aload_n 0, 1) := by decide +kernel
theorem dX1_own_9 : decode cX1_own 9 = .ok (.getfield 29, 3) := by decide +kernel
theorem dX1_own_12 : decode cX1_own 12 = .ok (.invokevirtual 176, 3) := by decide +kernel
theorem dX1_own_15 : decode cX1_own 15 = .ok (.aload_n 2, 1) := by decide +kernel
theorem dX1_own_16 : decode cX1_own 16 = .ok (.aload_n 0, 1) := by decide +kernel
theorem dX1_own_17 : decode cX1_own 17 = .ok (.getfield 29, 3) := by decide +kernel
theorem dX1_own_20 : decode cX1_own 20 = .ok (.invokestatic 99, 3) := by decide +kernel
theorem dX1_own_23 : decode cX1_own 23 = .ok (.ireturn, 1) := by decide +kernel
set_option maxRecDepth 20000 in
theorem ggX1_period_X1_rowAt : GoodIn wsX1_period wsX1_rowAt := goodIn_ca (goodIn_r _ [6, 7, 8, 9, 23, 24, 25, 26, 27, 28, 29, 30] (by decide +kernel) (by decide +kernel)) (goodIn_sub (fun _ h => List.mem_cons_of_mem _ (List.mem_append_right _ h)) (by decide +kernel))
set_option maxRecDepth 20000 in
theorem gX1_period_X1_rowAt : GoodIn wsX1_period (wsV RX1 39 RX1 yX1_rowAt wsX1_rowAt) := goodIn_app (goodIn_of _ (by decide +kernel)) ggX1_period_X1_rowAt
set_option maxRecDepth 20000 in
theorem ggX1_period_X0_comesAgain : GoodIn wsX1_period wsX0_comesAgain := goodIn_r _ [14, 15, 16, 17, 18, 19, 13, 20, 21, 22] (by decide +kernel) (by decide +kernel)
set_option maxRecDepth 20000 in
theorem gX1_period_X0_comesAgain : GoodIn wsX1_period (wsV RX1 179 RX0 yX0_comesAgain wsX0_comesAgain) := goodIn_app (goodIn_of _ (by decide +kernel)) ggX1_period_X0_comesAgain
theorem dX1_period_0 : decode cX1_period 0 = .ok (.aload_n 0, 1) := by decide +kernel
theorem dX1_period_1 : decode cX1_period 1 = .ok (.iload_n 1, 1) := by decide +kernel
theorem dX1_period_2 : decode cX1_period 2 = .ok (.invokevirtual 39, 3) := by decide +kernel
theorem dX1_period_5 : decode cX1_period 5 = .ok (.astore_n 2, 1) := by decide +kernel
theorem dX1_period_6 : decode cX1_period 6 = .ok (.iconst 1, 1) := by decide +kernel
theorem dX1_period_7 : decode cX1_period 7 = .ok (.istore_n 3, 1) := by decide +kernel
theorem dX1_period_8 : decode cX1_period 8 = .ok (.iload_n 3, 1) := by decide +kernel
theorem dX1_period_9 : decode cX1_period 9 = .ok (.aload_n 2, 1) := by decide +kernel
theorem dX1_period_10 : decode cX1_period 10 = .ok (.getfield 47, 3) := by decide +kernel
theorem dX1_period_13 : decode cX1_period 13 = .ok (.if_icmp .ge 20, 3) := by decide +kernel
theorem dX1_period_16 : decode cX1_period 16 = .ok (.aload_n 2, 1) := by decide +kernel
theorem dX1_period_17 : decode cX1_period 17 = .ok (.iload_n 3, 1) := by decide +kernel
theorem dX1_period_18 : decode cX1_period 18 = .ok (.invokevirtual 179, 3) := by decide +kernel
theorem dX1_period_21 : decode cX1_period 21 = .ok (.ifCond .eq 5, 3) := by decide +kernel
theorem dX1_period_24 : decode cX1_period 24 = .ok (.iload_n 3, 1) := by decide +kernel
theorem dX1_period_25 : decode cX1_period 25 = .ok (.ireturn, 1) := by decide +kernel
theorem dX1_period_26 : decode cX1_period 26 = .ok (.iload_n 3, 1) := by decide +kernel
theorem dX1_period_27 : decode cX1_period 27 = .ok (.iconst 2, 1) := by decide +kernel
theorem dX1_period_28 : decode cX1_period 28 = .ok (.imul, 1) := by decide +kernel
theorem dX1_period_29 : decode cX1_period 29 = .ok (.istore_n 3, 1) := by decide +kernel
theorem dX1_period_30 : decode cX1_period 30 = .ok (.goto (-22), 3) := by decide +kernel
theorem dX1_period_33 : decode cX1_period 33 = .ok (.aload_n 2, 1) := by decide +kernel
theorem dX1_period_34 : decode cX1_period 34 = .ok (.getfield 47, 3) := by decide +kernel
theorem dX1_period_37 : decode cX1_period 37 = .ok (.ireturn, 1) := by decide +kernel
set_option maxRecDepth 20000 in
theorem ggX1_factor_X1_rowAt : GoodIn wsX1_factor wsX1_rowAt := goodIn_ca (goodIn_r _ [7, 8, 9, 10, 65, 66, 67, 68, 69, 70, 71, 72] (by decide +kernel) (by decide +kernel)) (goodIn_sub (fun _ h => List.mem_cons_of_mem _ (List.mem_append_right _ h)) (by decide +kernel))
set_option maxRecDepth 20000 in
theorem gX1_factor_X1_rowAt : GoodIn wsX1_factor (wsV RX1 39 RX1 yX1_rowAt wsX1_rowAt) := goodIn_app (goodIn_of _ (by decide +kernel)) ggX1_factor_X1_rowAt
set_option maxRecDepth 20000 in
theorem ggX1_factor_X1_plainValues : GoodIn wsX1_factor wsX1_plainValues := goodIn_r _ [14, 15, 16, 17, 6, 18, 19, 20, 21, 22, 23, 24, 25, 26, 27, 28, 29, 30, 31, 32, 33, 34, 35, 36, 37, 38, 39, 40, 41, 42, 43, 44, 45, 46, 47, 73, 74, 65, 66, 67, 68, 69, 70, 71, 72] (by decide +kernel) (by decide +kernel)
set_option maxRecDepth 20000 in
theorem gX1_factor_X1_plainValues : GoodIn wsX1_factor (wsV RX1 96 RX1 yX1_plainValues wsX1_plainValues) := goodIn_app (goodIn_of _ (by decide +kernel)) ggX1_factor_X1_plainValues
set_option maxRecDepth 20000 in
theorem ggX1_factor_X1_onlyFactor : GoodIn wsX1_factor wsX1_onlyFactor := goodIn_r _ [50, 19, 20, 51, 52, 6, 53, 54, 55, 56, 44, 45, 46, 47, 73, 74] (by decide +kernel) (by decide +kernel)
set_option maxRecDepth 20000 in
theorem gX1_factor_X1_onlyFactor : GoodIn wsX1_factor (va_wsS RX1 183 yX1_onlyFactor wsX1_onlyFactor) := goodIn_app (goodIn_of _ (by decide +kernel)) ggX1_factor_X1_onlyFactor
set_option maxRecDepth 20000 in
theorem ggX1_factor_X0_becomeScaled : GoodIn wsX1_factor wsX0_becomeScaled := goodIn_r _ [60, 26, 27, 55, 6, 56, 44, 45, 46, 47, 73, 74] (by decide +kernel) (by decide +kernel)
set_option maxRecDepth 20000 in
theorem gX1_factor_X0_becomeScaled : GoodIn wsX1_factor (wsV RX1 167 RX0 yX0_becomeScaled wsX0_becomeScaled) := goodIn_app (goodIn_of _ (by decide +kernel)) ggX1_factor_X0_becomeScaled
set_option maxRecDepth 20000 in
theorem ggX1_factor_X0_isLike : GoodIn wsX1_factor wsX0_isLike := goodIn_r _ [64, 26, 27, 73, 74] (by decide +kernel) (by decide +kernel)
set_option maxRecDepth 20000 in
theorem gX1_factor_X0_isLike : GoodIn wsX1_factor (wsV RX1 79 RX0 yX0_isLike wsX0_isLike) := goodIn_app (goodIn_of _ (by decide +kernel)) ggX1_factor_X0_isLike
theorem dX1_factor_0 : decode cX1_factor 0 = .ok (.aload_n 0, 1) := by decide +kernel
theorem dX1_factor_1 : decode cX1_factor 1 = .ok (.iload_n 1, 1) := by decide +kernel
theorem dX1_factor_2 : decode cX1_factor 2 = .ok (.invokevirtual 39, 3) := by decide +kernel
theorem dX1_factor_5 : decode cX1_factor 5 = .ok (.astore_n 2, 1) := by decide +kernel
theorem dX1_factor_6 : decode cX1_factor 6 = .ok (.aload_n 0, 1) := by decide +kernel
theorem dX1_factor_7 : decode cX1_factor 7 = .ok (.aload_n 2, 1) := by decide +kernel
theorem dX1_factor_8 : decode cX1_factor 8 = .ok (.aload_n 0, 1) := by decide +kernel
theorem dX1_factor_9 : decode cX1_factor 9 = .ok (.getfield 26, 3) := by decide +kernel
theorem dX1_factor_12 : decode cX1_factor 12 = .ok (.invokevirtual 96, 3) := by decide +kernel
theorem dX1_factor_15 : decode cX1_factor 15 = .ok (.aload_n 2, 1) := by decide +kernel
theorem dX1_factor_16 : decode cX1_factor 16 = .ok (.aload_n 0, 1) := by decide +kernel
theorem dX1_factor_17 : decode cX1_factor 17 = .ok (.getfield 26, 3) := by decide +kernel
theorem dX1_factor_20 : decode cX1_factor 20 = .ok (.invokestatic 183, 3) := by decide +kernel
theorem dX1_factor_23 : decode cX1_factor 23 = .ok (.istore_n 3, 1) := by decide +kernel
theorem dX1_factor_24 : decode cX1_factor 24 = .ok (.aload_n 0, 1) := by decide +kernel
theorem dX1_factor_25 : decode cX1_factor 25 = .ok (.getfield 29, 3) := by decide +kernel
theorem dX1_factor_28 : decode cX1_factor 28 = .ok (.aload_n 2, 1) := by decide +kernel
theorem dX1_factor_29 : decode cX1_factor 29 = .ok (.iload_n 3, 1) := by decide +kernel
theorem dX1_factor_30 : decode cX1_factor 30 = .ok (.invokevirtual 167, 3) := by decide +kernel
theorem dX1_factor_33 : decode cX1_factor 33 = .ok (.aload_n 0, 1) := by decide +kernel
theorem dX1_factor_34 : decode cX1_factor 34 = .ok (.getfield 29, 3) := by decide +kernel
theorem dX1_factor_37 : decode cX1_factor 37 = .ok (.aload_n 0, 1) := by decide +kernel
theorem dX1_factor_38 : decode cX1_factor 38 = .ok (.getfield 26, 3) := by decide +kernel
theorem dX1_factor_41 : decode cX1_factor 41 = .ok (.invokevirtual 79, 3) := by decide +kernel
theorem dX1_factor_44 : decode cX1_factor 44 = .ok (.ifCond .eq 7, 3) := by decide +kernel
theorem dX1_factor_47 : decode cX1_factor 47 = .ok (.iload_n 3, 1) := by decide +kernel
theorem dX1_factor_48 : decode cX1_factor 48 = .ok (.goto 4, 3) := by decide +kernel
theorem dX1_factor_51 : decode cX1_factor 51 = .ok (.iconst (-1), 1) := by decide +kernel
theorem dX1_factor_52 : decode cX1_factor 52 = .ok (.ireturn, 1) := by decide +kernel
set_option maxRecDepth 20000 in
theorem ggX1_sum_X1_rowAt : GoodIn wsX1_sum wsX1_rowAt := goodIn_ca (goodIn_r _ [5, 6, 7, 8, 29, 30, 31, 32, 33, 34, 35, 36] (by decide +kernel) (by decide +kernel)) (goodIn_sub (fun _ h => List.mem_cons_of_mem _ (List.mem_append_left _ (List.mem_append_right _ h))) (by decide +kernel))
set_option maxRecDepth 20000 in
theorem gX1_sum_X1_rowAt : GoodIn wsX1_sum (wsV RX1 39 RX1 yX1_rowAt wsX1_rowAt) := goodIn_app (goodIn_of _ (by decide +kernel)) ggX1_sum_X1_rowAt
set_option maxRecDepth 20000 in
theorem ggX1_sum_X1_needAlike : GoodIn wsX1_sum wsX1_needAlike := goodIn_ca (goodIn_r _ [11, 12, 13, 14, 37, 38] (by decide +kernel) (by decide +kernel)) (goodIn_sub (fun _ h => List.mem_cons_of_mem _ (List.mem_append_right _ h)) (by decide +kernel))
set_option maxRecDepth 20000 in
theorem gX1_sum_X1_needAlike : GoodIn wsX1_sum (va_wsS RX1 111 yX1_needAlike wsX1_needAlike) := goodIn_app (goodIn_of _ (by decide +kernel)) ggX1_sum_X1_needAlike
set_option maxRecDepth 20000 in
theorem ggX1_sum_X0_sumOfProducts : GoodIn wsX1_sum wsX0_sumOfProducts := goodIn_r _ [19, 20, 21, 22, 23, 24, 18, 25, 26, 4, 27, 28, 37, 38] (by decide +kernel) (by decide +kernel)
set_option maxRecDepth 20000 in
theorem gX1_sum_X0_sumOfProducts : GoodIn wsX1_sum (wsV RX1 186 RX0 yX0_sumOfProducts wsX0_sumOfProducts) := goodIn_app (goodIn_of _ (by decide +kernel)) ggX1_sum_X0_sumOfProducts
theorem dX1_sum_0 : decode cX1_sum 0 = .ok (.aload_n 0, 1) := by decide +kernel
theorem dX1_sum_1 : decode cX1_sum 1 = .ok (.iload_n 1, 1) := by decide +kernel
theorem dX1_sum_2 : decode cX1_sum 2 = .ok (.invokevirtual 39, 3) := by decide +kernel
theorem dX1_sum_5 : decode cX1_sum 5 = .ok (.astore 4, 2) := by decide +kernel
theorem dX1_sum_7 : decode cX1_sum 7 = .ok (.aload_n 0, 1) := by decide +kernel
theorem dX1_sum_8 : decode cX1_sum 8 = .ok (.iload_n 2, 1) := by decide +kernel
theorem dX1_sum_9 : decode cX1_sum 9 = .ok (.invokevirtual 39, 3) := by decide +kernel
theorem dX1_sum_12 : decode cX1_sum 12 = .ok (.astore 5, 2) := by decide +kernel
theorem dX1_sum_14 : decode cX1_sum 14 = .ok (.aload 4, 2) := by decide +kernel
theorem dX1_sum_16 : decode cX1_sum 16 = .ok (.aload 5, 2) := by decide +kernel
theorem dX1_sum_18 : decode cX1_sum 18 = .ok (.invokestatic 111, 3) := by decide +kernel
theorem dX1_sum_21 : decode cX1_sum 21 = .ok (.aload 4, 2) := by decide +kernel
theorem dX1_sum_23 : decode cX1_sum 23 = .ok (.aload 5, 2) := by decide +kernel
theorem dX1_sum_25 : decode cX1_sum 25 = .ok (.iload_n 3, 1) := by decide +kernel
theorem dX1_sum_26 : decode cX1_sum 26 = .ok (.invokevirtual 186, 3) := by decide +kernel
theorem dX1_sum_29 : decode cX1_sum 29 = .ok (.ireturn, 1) := by decide +kernel
set_option maxRecDepth 20000 in
theorem ggX1_mean_X1_rowAt : GoodIn wsX1_mean wsX1_rowAt := goodIn_ca (goodIn_r _ [7, 8, 9, 10, 13, 14, 15, 16, 17, 18, 19, 20] (by decide +kernel) (by decide +kernel)) (goodIn_sub (fun _ h => List.mem_cons_of_mem _ (List.mem_append_right _ h)) (by decide +kernel))
set_option maxRecDepth 20000 in
theorem gX1_mean_X1_rowAt : GoodIn wsX1_mean (wsV RX1 39 RX1 yX1_rowAt wsX1_rowAt) := goodIn_app (goodIn_of _ (by decide +kernel)) ggX1_mean_X1_rowAt
theorem dX1_mean_0 : decode cX1_mean 0 = .ok (.aload_n 0, 1) := by decide +kernel
theorem dX1_mean_1 : decode cX1_mean 1 = .ok (.iload_n 1, 1) := by decide +kernel
theorem dX1_mean_2 : decode cX1_mean 2 = .ok (.invokevirtual 39, 3) := by decide +kernel
theorem dX1_mean_5 : decode cX1_mean 5 = .ok (.astore_n 2, 1) := by decide +kernel
theorem dX1_mean_6 : decode cX1_mean 6 = .ok (.iconst 0, 1) := by decide +kernel
theorem dX1_mean_7 : decode cX1_mean 7 = .ok (.istore_n 3, 1) := by decide +kernel
theorem dX1_mean_8 : decode cX1_mean 8 = .ok (.iconst 0, 1) := by decide +kernel
theorem dX1_mean_9 : decode cX1_mean 9 = .ok (.istore 4, 2) := by decide +kernel
theorem dX1_mean_11 : decode cX1_mean 11 = .ok (.iload 4, 2) := by decide +kernel
theorem dX1_mean_13 : decode cX1_mean 13 = .ok (.aload_n 2, 1) := by decide +kernel
theorem dX1_mean_14 : decode cX1_mean 14 = .ok (.getfield 47, 3) := by decide +kernel
theorem dX1_mean_17 : decode cX1_mean 17 = .ok (.if_icmp .ge 19, 3) := by decide +kernel
theorem dX1_mean_20 : decode cX1_mean 20 = .ok (.iload_n 3, 1) := by decide +kernel
theorem dX1_mean_21 : decode cX1_mean 21 = .ok (.aload_n 2, 1) := by decide +kernel
theorem dX1_mean_22 : decode cX1_mean 22 = .ok (.getfield 60, 3) := by decide +kernel
theorem dX1_mean_25 : decode cX1_mean 25 = .ok (.iload 4, 2) := by decide +kernel
theorem dX1_mean_27 : decode cX1_mean 27 = .ok (.iaload, 1) := by decide +kernel
theorem dX1_mean_28 : decode cX1_mean 28 = .ok (.iadd, 1) := by decide +kernel
theorem dX1_mean_29 : decode cX1_mean 29 = .ok (.istore_n 3, 1) := by decide +kernel
theorem dX1_mean_30 : decode cX1_mean 30 = .ok (.iinc 4 1, 3) := by decide +kernel
theorem dX1_mean_33 : decode cX1_mean 33 = .ok (.goto (-22), 3) := by decide +kernel
theorem dX1_mean_36 : decode cX1_mean 36 = .ok (.iload_n 3, 1) := by decide +kernel
theorem dX1_mean_37 : decode cX1_mean 37 = .ok (.i2d, 1) := by decide +kernel
theorem dX1_mean_38 : decode cX1_mean 38 = .ok (.aload_n 2, 1) := by decide +kernel
theorem dX1_mean_39 : decode cX1_mean 39 = .ok (.getfield 47, 3) := by decide +kernel
theorem dX1_mean_42 : decode cX1_mean 42 = .ok (.i2d, 1) := by decide +kernel
theorem dX1_mean_43 : decode cX1_mean 43 = .ok (.ddiv, 1) := by decide +kernel
theorem dX1_mean_44 : decode cX1_mean 44 = .ok (.dreturn, 1) := by decide +kernel
set_option maxRecDepth 20000 in
theorem ggX1_zeros_X1_rowAt : GoodIn wsX1_zeros wsX1_rowAt := goodIn_ca (goodIn_r _ [6, 7, 8, 9, 19, 20, 21, 22, 23, 24, 25, 26] (by decide +kernel) (by decide +kernel)) (goodIn_sub (fun _ h => List.mem_cons_of_mem _ (List.mem_append_right _ h)) (by decide +kernel))
set_option maxRecDepth 20000 in
theorem gX1_zeros_X1_rowAt : GoodIn wsX1_zeros (wsV RX1 39 RX1 yX1_rowAt wsX1_rowAt) := goodIn_app (goodIn_of _ (by decide +kernel)) ggX1_zeros_X1_rowAt
set_option maxRecDepth 20000 in
theorem ggX1_zeros_X0_countZeros : GoodIn wsX1_zeros wsX0_countZeros := goodIn_r _ [14, 15, 16, 17, 18] (by decide +kernel) (by decide +kernel)
set_option maxRecDepth 20000 in
theorem gX1_zeros_X0_countZeros : GoodIn wsX1_zeros (wsV RX1 127 RX0 yX0_countZeros wsX0_countZeros) := goodIn_app (goodIn_of _ (by decide +kernel)) ggX1_zeros_X0_countZeros
theorem dX1_zeros_0 : decode cX1_zeros 0 = .ok (.aload_n 0, 1) := by decide +kernel
theorem dX1_zeros_1 : decode cX1_zeros 1 = .ok (.iload_n 1, 1) := by decide +kernel
theorem dX1_zeros_2 : decode cX1_zeros 2 = .ok (.invokevirtual 39, 3) := by decide +kernel
theorem dX1_zeros_5 : decode cX1_zeros 5 = .ok (.astore_n 2, 1) := by decide +kernel
theorem dX1_zeros_6 : decode cX1_zeros 6 = .ok (.aload_n 2, 1) := by decide +kernel
theorem dX1_zeros_7 : decode cX1_zeros 7 = .ok (.invokevirtual 127, 3) := by decide +kernel
theorem dX1_zeros_10 : decode cX1_zeros 10 = .ok (.i2f, 1) := by decide +kernel
theorem dX1_zeros_11 : decode cX1_zeros 11 = .ok (.aload_n 2, 1) := by decide +kernel
theorem dX1_zeros_12 : decode cX1_zeros 12 = .ok (.getfield 47, 3) := by decide +kernel
theorem dX1_zeros_15 : decode cX1_zeros 15 = .ok (.i2f, 1) := by decide +kernel
theorem dX1_zeros_16 : decode cX1_zeros 16 = .ok (.fdiv, 1) := by decide +kernel
theorem dX1_zeros_17 : decode cX1_zeros 17 = .ok (.freturn, 1) := by decide +kernel
set_option maxRecDepth 20000 in
theorem ggX1_isBack_X1_rowAt : GoodIn wsX1_isBack wsX1_rowAt := goodIn_ca (goodIn_r _ [5, 6, 7, 8, 104, 105, 106, 107, 108, 109, 110, 111] (by decide +kernel) (by decide +kernel)) (goodIn_sub (fun _ h => List.mem_cons_of_mem _ (List.mem_append_right _ h)) (by decide +kernel))
set_option maxRecDepth 20000 in
theorem gX1_isBack_X1_rowAt : GoodIn wsX1_isBack (wsV RX1 39 RX1 yX1_rowAt wsX1_rowAt) := goodIn_app (goodIn_of _ (by decide +kernel)) ggX1_isBack_X1_rowAt
set_option maxRecDepth 20000 in
theorem ggX1_isBack_X1_holdsOneToThree : GoodIn wsX1_isBack wsX1_holdsOneToThree := goodIn_r _ [12, 13, 14, 15, 4, 16, 17, 18, 19, 20, 21, 22, 23, 24, 25, 26, 27, 28, 29, 30, 31, 32, 33, 34, 35, 36, 37, 38, 39, 40, 41, 42, 43, 44, 45, 46, 47, 48, 49, 50, 51, 52, 53, 54, 55, 56, 57, 58, 59, 60, 61, 62, 63, 64, 65, 66, 67, 68, 69, 70, 71, 72, 73, 74, 75, 76, 77, 78, 79, 80, 81, 82, 83, 84, 85, 86, 87, 88, 89, 90, 91, 92, 93, 94, 95, 96, 97, 98, 99, 100, 101, 102, 103, 112, 113, 104, 105, 106, 107, 108, 109, 110, 111] (by decide +kernel) (by decide +kernel)
set_option maxRecDepth 20000 in
theorem gX1_isBack_X1_holdsOneToThree : GoodIn wsX1_isBack (wsV RX1 190 RX1 yX1_holdsOneToThree wsX1_holdsOneToThree) := goodIn_app (goodIn_of _ (by decide +kernel)) ggX1_isBack_X1_holdsOneToThree
theorem dX1_isBack_0 : decode cX1_isBack 0 = .ok (.aload_n 0, 1) := by decide +kernel
theorem dX1_isBack_1 : decode cX1_isBack 1 = .ok (.aload_n 0, 1) := by decide +kernel
theorem dX1_isBack_2 : decode cX1_isBack 2 = .ok (.iload_n 1, 1) := by decide +kernel
theorem dX1_isBack_3 : decode cX1_isBack 3 = .ok (.invokevirtual 39, 3) := by decide +kernel
theorem dX1_isBack_6 : decode cX1_isBack 6 = .ok (.invokevirtual 190, 3) := by decide +kernel
theorem dX1_isBack_9 : decode cX1_isBack 9 = .ok (.ireturn, 1) := by decide +kernel
set_option maxRecDepth 20000 in
theorem ggX1_isProduct_X1_rowAt : GoodIn wsX1_isProduct wsX1_rowAt := goodIn_ca (goodIn_r _ [5, 6, 7, 8, 91, 92, 93, 94, 95, 96, 97, 98] (by decide +kernel) (by decide +kernel)) (goodIn_sub (fun _ h => List.mem_cons_of_mem _ (List.mem_append_left _ (List.mem_append_right _ h))) (by decide +kernel))
set_option maxRecDepth 20000 in
theorem gX1_isProduct_X1_rowAt : GoodIn wsX1_isProduct (wsV RX1 39 RX1 yX1_rowAt wsX1_rowAt) := goodIn_app (goodIn_of _ (by decide +kernel)) ggX1_isProduct_X1_rowAt
set_option maxRecDepth 20000 in
theorem ggX1_isProduct_X1_needAlike : GoodIn wsX1_isProduct wsX1_needAlike := goodIn_ca (goodIn_r _ [11, 12, 13, 14, 99, 100] (by decide +kernel) (by decide +kernel)) (goodIn_sub (fun _ h => List.mem_cons_of_mem _ (List.mem_append_right _ h)) (by decide +kernel))
set_option maxRecDepth 20000 in
theorem gX1_isProduct_X1_needAlike : GoodIn wsX1_isProduct (va_wsS RX1 111 yX1_needAlike wsX1_needAlike) := goodIn_app (goodIn_of _ (by decide +kernel)) ggX1_isProduct_X1_needAlike
set_option maxRecDepth 20000 in
theorem ggX1_isProduct_X1_holdsProduct : GoodIn wsX1_isProduct wsX1_holdsProduct := goodIn_r _ [18, 19, 20, 21, 22, 23, 24, 25, 26, 4, 27, 28, 29, 30, 31, 14, 32, 33, 34, 35, 36, 37, 38, 39, 40, 41, 42, 43, 44, 45, 46, 47, 48, 49, 50, 51, 52, 53, 54, 55, 56, 57, 58, 59, 60, 61, 62, 63, 64, 65, 66, 67, 68, 69, 70, 71, 72, 73, 74, 75, 76, 77, 78, 79, 80, 81, 82, 83, 84, 85, 86, 87, 88, 89, 90, 91, 92, 93, 94, 95, 96, 97, 98, 99, 100] (by decide +kernel) (by decide +kernel)
set_option maxRecDepth 20000 in
theorem gX1_isProduct_X1_holdsProduct : GoodIn wsX1_isProduct (wsV RX1 193 RX1 yX1_holdsProduct wsX1_holdsProduct) := goodIn_app (goodIn_of _ (by decide +kernel)) ggX1_isProduct_X1_holdsProduct
theorem dX1_isProduct_0 : decode cX1_isProduct 0 = .ok (.aload_n 0, 1) := by decide +kernel
theorem dX1_isProduct_1 : decode cX1_isProduct 1 = .ok (.iload_n 1, 1) := by decide +kernel
theorem dX1_isProduct_2 : decode cX1_isProduct 2 = .ok (.invokevirtual 39, 3) := by decide +kernel
theorem dX1_isProduct_5 : decode cX1_isProduct 5 = .ok (.astore_n 3, 1) := by decide +kernel
theorem dX1_isProduct_6 : decode cX1_isProduct 6 = .ok (.aload_n 0, 1) := by decide +kernel
theorem dX1_isProduct_7 : decode cX1_isProduct 7 = .ok (.iload_n 2, 1) := by decide +kernel
theorem dX1_isProduct_8 : decode cX1_isProduct 8 = .ok (.invokevirtual 39, 3) := by decide +kernel
theorem dX1_isProduct_11 : decode cX1_isProduct 11 = .ok (.astore 4, 2) := by decide +kernel
theorem dX1_isProduct_13 : decode cX1_isProduct 13 = .ok (.aload_n 3, 1) := by decide +kernel
theorem dX1_isProduct_14 : decode cX1_isProduct 14 = .ok (.aload 4, 2) := by decide +kernel
theorem dX1_isProduct_16 : decode cX1_isProduct 16 = .ok (.invokestatic 111, 3) := by decide +kernel
theorem dX1_isProduct_19 : decode cX1_isProduct 19 = .ok (.aload_n 0, 1) := by decide +kernel
theorem dX1_isProduct_20 : decode cX1_isProduct 20 = .ok (.aload_n 3, 1) := by decide +kernel
theorem dX1_isProduct_21 : decode cX1_isProduct 21 = .ok (.aload 4, 2) := by decide +kernel
theorem dX1_isProduct_23 : decode cX1_isProduct 23 = .ok (.invokevirtual 193, 3) := by decide +kernel
theorem dX1_isProduct_26 : decode cX1_isProduct 26 = .ok (.ireturn, 1) := by decide +kernel
set_option maxRecDepth 20000 in
theorem ggX1_isPlain_X1_rowAt : GoodIn wsX1_isPlain wsX1_rowAt := goodIn_ca (goodIn_r _ [5, 6, 7, 8, 71, 72, 73, 74, 75, 76, 77, 78] (by decide +kernel) (by decide +kernel)) (goodIn_sub (fun _ h => List.mem_cons_of_mem _ (List.mem_append_left _ (List.mem_append_right _ h))) (by decide +kernel))
set_option maxRecDepth 20000 in
theorem gX1_isPlain_X1_rowAt : GoodIn wsX1_isPlain (wsV RX1 39 RX1 yX1_rowAt wsX1_rowAt) := goodIn_app (goodIn_of _ (by decide +kernel)) ggX1_isPlain_X1_rowAt
set_option maxRecDepth 20000 in
theorem ggX1_isPlain_X1_needAlike : GoodIn wsX1_isPlain wsX1_needAlike := goodIn_ca (goodIn_r _ [11, 12, 13, 14, 79, 80] (by decide +kernel) (by decide +kernel)) (goodIn_sub (fun _ h => List.mem_cons_of_mem _ (List.mem_append_right _ h)) (by decide +kernel))
set_option maxRecDepth 20000 in
theorem gX1_isPlain_X1_needAlike : GoodIn wsX1_isPlain (va_wsS RX1 111 yX1_needAlike wsX1_needAlike) := goodIn_app (goodIn_of _ (by decide +kernel)) ggX1_isPlain_X1_needAlike
set_option maxRecDepth 20000 in
theorem ggX1_isPlain_X1_needRoom : GoodIn wsX1_isPlain wsX1_needRoom := goodIn_ca (goodIn_r _ [17, 12, 13, 14, 79, 80] (by decide +kernel) (by decide +kernel)) (goodIn_sub (fun _ h => List.mem_cons_of_mem _ (List.mem_append_right _ h)) (by decide +kernel))
set_option maxRecDepth 20000 in
theorem gX1_isPlain_X1_needRoom : GoodIn wsX1_isPlain (va_wsS RX1 121 yX1_needRoom wsX1_needRoom) := goodIn_app (goodIn_of _ (by decide +kernel)) ggX1_isPlain_X1_needRoom
set_option maxRecDepth 20000 in
theorem ggX1_isPlain_X1_holdsPlainProduct : GoodIn wsX1_isPlain wsX1_holdsPlainProduct := goodIn_r _ [21, 22, 23, 24, 25, 26, 14, 27, 28, 29, 30, 31, 32, 33, 34, 35, 36, 37, 38, 39, 40, 41, 42, 43, 44, 45, 46, 47, 48, 49, 50, 51, 52, 53, 54, 4, 55, 56, 57, 58, 59, 60, 61, 62, 63, 64, 65, 66, 67, 68, 69, 70, 71, 72, 73, 74, 75, 76, 77, 78, 79, 80] (by decide +kernel) (by decide +kernel)
set_option maxRecDepth 20000 in
theorem gX1_isPlain_X1_holdsPlainProduct : GoodIn wsX1_isPlain (wsV RX1 197 RX1 yX1_holdsPlainProduct wsX1_holdsPlainProduct) := goodIn_app (goodIn_of _ (by decide +kernel)) ggX1_isPlain_X1_holdsPlainProduct
theorem dX1_isPlain_0 : decode cX1_isPlain 0 = .ok (.aload_n 0, 1) := by decide +kernel
theorem dX1_isPlain_1 : decode cX1_isPlain 1 = .ok (.iload_n 1, 1) := by decide +kernel
theorem dX1_isPlain_2 : decode cX1_isPlain 2 = .ok (.invokevirtual 39, 3) := by decide +kernel
theorem dX1_isPlain_5 : decode cX1_isPlain 5 = .ok (.astore_n 3, 1) := by decide +kernel
theorem dX1_isPlain_6 : decode cX1_isPlain 6 = .ok (.aload_n 0, 1) := by decide +kernel
theorem dX1_isPlain_7 : decode cX1_isPlain 7 = .ok (.iload_n 2, 1) := by decide +kernel
theorem dX1_isPlain_8 : decode cX1_isPlain 8 = .ok (.invokevirtual 39, 3) := by decide +kernel
theorem dX1_isPlain_11 : decode cX1_isPlain 11 = .ok (.astore 4, 2) := by decide +kernel
theorem dX1_isPlain_13 : decode cX1_isPlain 13 = .ok (.aload_n 3, 1) := by decide +kernel
theorem dX1_isPlain_14 : decode cX1_isPlain 14 = .ok (.aload 4, 2) := by decide +kernel
theorem dX1_isPlain_16 : decode cX1_isPlain 16 = .ok (.invokestatic 111, 3) := by decide +kernel
theorem dX1_isPlain_19 : decode cX1_isPlain 19 = .ok (.aload_n 3, 1) := by decide +kernel
theorem dX1_isPlain_20 : decode cX1_isPlain 20 = .ok (.invokestatic 121, 3) := by decide +kernel
theorem dX1_isPlain_23 : decode cX1_isPlain 23 = .ok (.aload_n 0, 1) := by decide +kernel
theorem dX1_isPlain_24 : decode cX1_isPlain 24 = .ok (.aload_n 3, 1) := by decide +kernel
theorem dX1_isPlain_25 : decode cX1_isPlain 25 = .ok (.aload 4, 2) := by decide +kernel
theorem dX1_isPlain_27 : decode cX1_isPlain 27 = .ok (.invokevirtual 197, 3) := by decide +kernel
theorem dX1_isPlain_30 : decode cX1_isPlain 30 = .ok (.ireturn, 1) := by decide +kernel
set_option maxRecDepth 20000 in
theorem ggX1_isShifted_X1_rowAt : GoodIn wsX1_isShifted wsX1_rowAt := goodIn_ca (goodIn_r _ [5, 6, 7, 8, 78, 79, 80, 81, 82, 83, 84, 85] (by decide +kernel) (by decide +kernel)) (goodIn_sub (fun _ h => List.mem_cons_of_mem _ (List.mem_append_right _ h)) (by decide +kernel))
set_option maxRecDepth 20000 in
theorem gX1_isShifted_X1_rowAt : GoodIn wsX1_isShifted (wsV RX1 39 RX1 yX1_rowAt wsX1_rowAt) := goodIn_app (goodIn_of _ (by decide +kernel)) ggX1_isShifted_X1_rowAt
set_option maxRecDepth 20000 in
theorem ggX1_isShifted_X1_holdsShifted : GoodIn wsX1_isShifted wsX1_holdsShifted := goodIn_r _ [12, 13, 14, 15, 16, 17, 18, 19, 20, 21, 22, 23, 24, 25, 26, 27, 28, 29, 30, 31, 32, 33, 34, 35, 36, 37, 38, 4, 39, 40, 41, 42, 43, 44, 45, 46, 47, 48, 49, 50, 51, 52, 53, 54, 55, 56, 57, 58, 59, 60, 61, 62, 63, 64, 65, 66, 67, 68, 69, 70, 71, 72, 73, 78, 79, 80, 81, 82, 83, 84, 85, 86, 87] (by decide +kernel) (by decide +kernel)
set_option maxRecDepth 20000 in
theorem gX1_isShifted_X1_holdsShifted : GoodIn wsX1_isShifted (wsV RX1 200 RX1 yX1_holdsShifted wsX1_holdsShifted) := goodIn_app (goodIn_of _ (by decide +kernel)) ggX1_isShifted_X1_holdsShifted
set_option maxRecDepth 20000 in
theorem ggX1_isShifted_X1_holdsWeighed : GoodIn wsX1_isShifted wsX1_holdsWeighed := goodIn_r _ [77, 13, 14, 15, 16, 63, 64, 65, 4, 66, 44, 45, 46, 25, 26, 20, 27, 22, 23, 28, 29, 30, 31, 47, 48, 49, 50, 51, 52, 53, 54, 55, 56, 57, 58, 67, 68, 69, 59, 60, 61, 62, 36, 37, 38, 39, 40, 41, 42, 43, 17, 18, 19, 21, 24, 32, 33, 34, 35, 70, 71, 72, 73, 78, 79, 80, 81, 82, 83, 84, 85, 86, 87] (by decide +kernel) (by decide +kernel)
set_option maxRecDepth 20000 in
theorem gX1_isShifted_X1_holdsWeighed : GoodIn wsX1_isShifted (wsV RX1 204 RX1 yX1_holdsWeighed wsX1_holdsWeighed) := goodIn_app (goodIn_of _ (by decide +kernel)) ggX1_isShifted_X1_holdsWeighed
theorem dX1_isShifted_0 : decode cX1_isShifted 0 = .ok (.aload_n 0, 1) := by decide +kernel
theorem dX1_isShifted_1 : decode cX1_isShifted 1 = .ok (.iload_n 1, 1) := by decide +kernel
theorem dX1_isShifted_2 : decode cX1_isShifted 2 = .ok (.invokevirtual 39, 3) := by decide +kernel
theorem dX1_isShifted_5 : decode cX1_isShifted 5 = .ok (.astore_n 3, 1) := by decide +kernel
theorem dX1_isShifted_6 : decode cX1_isShifted 6 = .ok (.aload_n 0, 1) := by decide +kernel
theorem dX1_isShifted_7 : decode cX1_isShifted 7 = .ok (.aload_n 3, 1) := by decide +kernel
theorem dX1_isShifted_8 : decode cX1_isShifted 8 = .ok (.iload_n 2, 1) := by decide +kernel
theorem dX1_isShifted_9 : decode cX1_isShifted 9 = .ok (.invokevirtual 200, 3) := by decide +kernel
theorem dX1_isShifted_12 : decode cX1_isShifted 12 = .ok (.ifCond .eq 16, 3) := by decide +kernel
theorem dX1_isShifted_15 : decode cX1_isShifted 15 = .ok (.aload_n 0, 1) := by decide +kernel
theorem dX1_isShifted_16 : decode cX1_isShifted 16 = .ok (.aload_n 3, 1) := by decide +kernel
theorem dX1_isShifted_17 : decode cX1_isShifted 17 = .ok (.iload_n 2, 1) := by decide +kernel
theorem dX1_isShifted_18 : decode cX1_isShifted 18 = .ok (.invokevirtual 204, 3) := by decide +kernel
theorem dX1_isShifted_21 : decode cX1_isShifted 21 = .ok (.ifCond .eq 7, 3) := by decide +kernel
theorem dX1_isShifted_24 : decode cX1_isShifted 24 = .ok (.iconst 1, 1) := by decide +kernel
theorem dX1_isShifted_25 : decode cX1_isShifted 25 = .ok (.goto 4, 3) := by decide +kernel
theorem dX1_isShifted_28 : decode cX1_isShifted 28 = .ok (.iconst 0, 1) := by decide +kernel
theorem dX1_isShifted_29 : decode cX1_isShifted 29 = .ok (.ireturn, 1) := by decide +kernel
set_option maxRecDepth 20000 in
theorem ggX1_isSum_X1_rowAt : GoodIn wsX1_isSum wsX1_rowAt := goodIn_ca (goodIn_r _ [5, 6, 7, 8, 101, 102, 103, 104, 105, 106, 107, 108] (by decide +kernel) (by decide +kernel)) (goodIn_sub (fun _ h => List.mem_cons_of_mem _ (List.mem_append_left _ (List.mem_append_left _ (List.mem_append_right _ h)))) (by decide +kernel))
set_option maxRecDepth 20000 in
theorem gX1_isSum_X1_rowAt : GoodIn wsX1_isSum (wsV RX1 39 RX1 yX1_rowAt wsX1_rowAt) := goodIn_app (goodIn_of _ (by decide +kernel)) ggX1_isSum_X1_rowAt
set_option maxRecDepth 20000 in
theorem ggX1_isSum_X1_needNumber : GoodIn wsX1_isSum wsX1_needNumber := goodIn_ca (goodIn_r _ [11, 12, 13, 14, 15, 4, 16, 17] (by decide +kernel) (by decide +kernel)) (goodIn_sub (fun _ h => List.mem_cons_of_mem _ (List.mem_append_left _ (List.mem_append_right _ h))) (by decide +kernel))
set_option maxRecDepth 20000 in
theorem gX1_isSum_X1_needNumber : GoodIn wsX1_isSum (va_wsS RX1 57 yX1_needNumber wsX1_needNumber) := goodIn_app (goodIn_of _ (by decide +kernel)) ggX1_isSum_X1_needNumber
set_option maxRecDepth 20000 in
theorem ggX1_isSum_X1_needAlike : GoodIn wsX1_isSum wsX1_needAlike := goodIn_ca (goodIn_r _ [20, 21, 22, 23, 109, 110] (by decide +kernel) (by decide +kernel)) (goodIn_sub (fun _ h => List.mem_cons_of_mem _ (List.mem_append_right _ h)) (by decide +kernel))
set_option maxRecDepth 20000 in
theorem gX1_isSum_X1_needAlike : GoodIn wsX1_isSum (va_wsS RX1 111 yX1_needAlike wsX1_needAlike) := goodIn_app (goodIn_of _ (by decide +kernel)) ggX1_isSum_X1_needAlike
set_option maxRecDepth 20000 in
theorem ggX1_isSum_X1_holdsSumOfProducts : GoodIn wsX1_isSum wsX1_holdsSumOfProducts := goodIn_r _ [27, 28, 29, 23, 30, 31, 32, 4, 33, 34, 35, 36, 37, 38, 39, 40, 41, 42, 43, 44, 45, 46, 47, 48, 49, 50, 51, 52, 53, 54, 55, 56, 57, 58, 59, 60, 17, 61, 62, 63, 64, 65, 66, 67, 68, 69, 70, 71, 72, 73, 74, 75, 101, 102, 103, 104, 105, 106, 107, 108, 109, 110] (by decide +kernel) (by decide +kernel)
set_option maxRecDepth 20000 in
theorem gX1_isSum_X1_holdsSumOfProducts : GoodIn wsX1_isSum (wsV RX1 207 RX1 yX1_holdsSumOfProducts wsX1_holdsSumOfProducts) := goodIn_app (goodIn_of _ (by decide +kernel)) ggX1_isSum_X1_holdsSumOfProducts
set_option maxRecDepth 20000 in
theorem ggX1_isSum_X1_holdsSums : GoodIn wsX1_isSum wsX1_holdsSums := goodIn_r _ [79, 80, 81, 28, 29, 82, 83, 84, 85, 42, 86, 44, 45, 87, 4, 88, 17, 30, 31, 32, 33, 34, 35, 36, 37, 23, 38, 39, 40, 41, 43, 46, 47, 48, 49, 50, 51, 52, 53, 54, 55, 56, 57, 58, 59, 60, 61, 62, 63, 64, 89, 90, 91, 92, 101, 102, 103, 104, 105, 106, 107, 108, 109, 110] (by decide +kernel) (by decide +kernel)
set_option maxRecDepth 20000 in
theorem gX1_isSum_X1_holdsSums : GoodIn wsX1_isSum (wsV RX1 210 RX1 yX1_holdsSums wsX1_holdsSums) := goodIn_app (goodIn_of _ (by decide +kernel)) ggX1_isSum_X1_holdsSums
set_option maxRecDepth 20000 in
theorem ggX1_isSum_X1_holdsScaled : GoodIn wsX1_isSum wsX1_holdsScaled := goodIn_r _ [96, 80, 81, 28, 82, 97, 98, 99, 42, 100, 44, 45, 74, 4, 75, 61, 62, 63, 64, 30, 31, 32, 33, 34, 35, 36, 37, 23, 38, 39, 40, 41, 43, 46, 47, 48, 49, 50, 51, 52, 53, 54, 55, 56, 57, 58, 59, 60, 17, 89, 90, 91, 92, 101, 102, 103, 104, 105, 106, 107, 108, 109, 110] (by decide +kernel) (by decide +kernel)
set_option maxRecDepth 20000 in
theorem gX1_isSum_X1_holdsScaled : GoodIn wsX1_isSum (wsV RX1 213 RX1 yX1_holdsScaled wsX1_holdsScaled) := goodIn_app (goodIn_of _ (by decide +kernel)) ggX1_isSum_X1_holdsScaled
theorem dX1_isSum_0 : decode cX1_isSum 0 = .ok (.aload_n 0, 1) := by decide +kernel
theorem dX1_isSum_1 : decode cX1_isSum 1 = .ok (.iload_n 1, 1) := by decide +kernel
theorem dX1_isSum_2 : decode cX1_isSum 2 = .ok (.invokevirtual 39, 3) := by decide +kernel
theorem dX1_isSum_5 : decode cX1_isSum 5 = .ok (.astore 4, 2) := by decide +kernel
theorem dX1_isSum_7 : decode cX1_isSum 7 = .ok (.aload_n 0, 1) := by decide +kernel
theorem dX1_isSum_8 : decode cX1_isSum 8 = .ok (.iload_n 2, 1) := by decide +kernel
theorem dX1_isSum_9 : decode cX1_isSum 9 = .ok (.invokevirtual 39, 3) := by decide +kernel
theorem dX1_isSum_12 : decode cX1_isSum 12 = .ok (.astore 5, 2) := by decide +kernel
theorem dX1_isSum_14 : decode cX1_isSum 14 = .ok (.iload_n 3, 1) := by decide +kernel
theorem dX1_isSum_15 : decode cX1_isSum 15 = .ok (.invokestatic 57, 3) := by decide +kernel
theorem dX1_isSum_18 : decode cX1_isSum 18 = .ok (.aload 4, 2) := by decide +kernel
theorem dX1_isSum_20 : decode cX1_isSum 20 = .ok (.aload 5, 2) := by decide +kernel
theorem dX1_isSum_22 : decode cX1_isSum 22 = .ok (.invokestatic 111, 3) := by decide +kernel
theorem dX1_isSum_25 : decode cX1_isSum 25 = .ok (.aload_n 0, 1) := by decide +kernel
theorem dX1_isSum_26 : decode cX1_isSum 26 = .ok (.aload 4, 2) := by decide +kernel
theorem dX1_isSum_28 : decode cX1_isSum 28 = .ok (.aload 5, 2) := by decide +kernel
theorem dX1_isSum_30 : decode cX1_isSum 30 = .ok (.invokevirtual 207, 3) := by decide +kernel
theorem dX1_isSum_33 : decode cX1_isSum 33 = .ok (.ifCond .eq 28, 3) := by decide +kernel
theorem dX1_isSum_36 : decode cX1_isSum 36 = .ok (.aload_n 0, 1) := by decide +kernel
theorem dX1_isSum_37 : decode cX1_isSum 37 = .ok (.aload 4, 2) := by decide +kernel
theorem dX1_isSum_39 : decode cX1_isSum 39 = .ok (.aload 5, 2) := by decide +kernel
theorem dX1_isSum_41 : decode cX1_isSum 41 = .ok (.invokevirtual 210, 3) := by decide +kernel
theorem dX1_isSum_44 : decode cX1_isSum 44 = .ok (.ifCond .eq 17, 3) := by decide +kernel
theorem dX1_isSum_47 : decode cX1_isSum 47 = .ok (.aload_n 0, 1) := by decide +kernel
theorem dX1_isSum_48 : decode cX1_isSum 48 = .ok (.aload 4, 2) := by decide +kernel
theorem dX1_isSum_50 : decode cX1_isSum 50 = .ok (.iload_n 3, 1) := by decide +kernel
theorem dX1_isSum_51 : decode cX1_isSum 51 = .ok (.invokevirtual 213, 3) := by decide +kernel
theorem dX1_isSum_54 : decode cX1_isSum 54 = .ok (.ifCond .eq 7, 3) := by decide +kernel
theorem dX1_isSum_57 : decode cX1_isSum 57 = .ok (.iconst 1, 1) := by decide +kernel
theorem dX1_isSum_58 : decode cX1_isSum 58 = .ok (.goto 4, 3) := by decide +kernel
theorem dX1_isSum_61 : decode cX1_isSum 61 = .ok (.iconst 0, 1) := by decide +kernel
theorem dX1_isSum_62 : decode cX1_isSum 62 = .ok (.ireturn, 1) := by decide +kernel
set_option maxRecDepth 20000 in
theorem ggX1_isAgain_X1_rowAt : GoodIn wsX1_isAgain wsX1_rowAt := goodIn_ca (goodIn_r _ [6, 7, 8, 9, 77, 78, 79, 80, 81, 82, 83, 84] (by decide +kernel) (by decide +kernel)) (goodIn_sub (fun _ h => List.mem_cons_of_mem _ (List.mem_append_left _ (List.mem_append_right _ h))) (by decide +kernel))
set_option maxRecDepth 20000 in
theorem gX1_isAgain_X1_rowAt : GoodIn wsX1_isAgain (wsV RX1 39 RX1 yX1_rowAt wsX1_rowAt) := goodIn_app (goodIn_of _ (by decide +kernel)) ggX1_isAgain_X1_rowAt
set_option maxRecDepth 20000 in
theorem ggX1_isAgain_X1_needAfter : GoodIn wsX1_isAgain wsX1_needAfter := goodIn_ca (goodIn_r _ [12, 13, 14, 15, 16, 17, 5, 18, 85, 86] (by decide +kernel) (by decide +kernel)) (goodIn_sub (fun _ h => List.mem_cons_of_mem _ (List.mem_append_right _ h)) (by decide +kernel))
set_option maxRecDepth 20000 in
theorem gX1_isAgain_X1_needAfter : GoodIn wsX1_isAgain (va_wsS RX1 170 yX1_needAfter wsX1_needAfter) := goodIn_app (goodIn_of _ (by decide +kernel)) ggX1_isAgain_X1_needAfter
set_option maxRecDepth 20000 in
theorem ggX1_isAgain_X0_becomeRepeated : GoodIn wsX1_isAgain wsX0_becomeRepeated := goodIn_r _ [23, 24, 25, 26, 27, 28, 22, 29, 30, 31, 32, 33, 85, 86] (by decide +kernel) (by decide +kernel)
set_option maxRecDepth 20000 in
theorem gX1_isAgain_X0_becomeRepeated : GoodIn wsX1_isAgain (wsV RX1 173 RX0 yX0_becomeRepeated wsX0_becomeRepeated) := goodIn_app (goodIn_of _ (by decide +kernel)) ggX1_isAgain_X0_becomeRepeated
set_option maxRecDepth 20000 in
theorem ggX1_isAgain_X1_holdsAgain : GoodIn wsX1_isAgain wsX1_holdsAgain := goodIn_r _ [37, 38, 15, 39, 40, 41, 5, 42, 43, 44, 45, 46, 47, 48, 27, 28, 22, 29, 24, 25, 30, 31, 32, 33, 49, 50, 51, 52, 53, 54, 55, 56, 57, 58, 59, 60, 61, 62, 63, 64, 65, 66, 67, 68, 69, 70, 71, 72, 73, 74, 75, 76, 77, 78, 79, 80, 81, 82, 83, 84, 85, 86] (by decide +kernel) (by decide +kernel)
set_option maxRecDepth 20000 in
theorem gX1_isAgain_X1_holdsAgain : GoodIn wsX1_isAgain (wsV RX1 216 RX1 yX1_holdsAgain wsX1_holdsAgain) := goodIn_app (goodIn_of _ (by decide +kernel)) ggX1_isAgain_X1_holdsAgain
theorem dX1_isAgain_0 : decode cX1_isAgain 0 = .ok (.aload_n 0, 1) := by decide +kernel
theorem dX1_isAgain_1 : decode cX1_isAgain 1 = .ok (.iload_n 1, 1) := by decide +kernel
theorem dX1_isAgain_2 : decode cX1_isAgain 2 = .ok (.invokevirtual 39, 3) := by decide +kernel
theorem dX1_isAgain_5 : decode cX1_isAgain 5 = .ok (.astore_n 3, 1) := by decide +kernel
theorem dX1_isAgain_6 : decode cX1_isAgain 6 = .ok (.aload_n 3, 1) := by decide +kernel
theorem dX1_isAgain_7 : decode cX1_isAgain 7 = .ok (.iload_n 2, 1) := by decide +kernel
theorem dX1_isAgain_8 : decode cX1_isAgain 8 = .ok (.invokestatic 170, 3) := by decide +kernel
theorem dX1_isAgain_11 : decode cX1_isAgain 11 = .ok (.aload_n 0, 1) := by decide +kernel
theorem dX1_isAgain_12 : decode cX1_isAgain 12 = .ok (.getfield 26, 3) := by decide +kernel
theorem dX1_isAgain_15 : decode cX1_isAgain 15 = .ok (.aload_n 3, 1) := by decide +kernel
theorem dX1_isAgain_16 : decode cX1_isAgain 16 = .ok (.iload_n 2, 1) := by decide +kernel
theorem dX1_isAgain_17 : decode cX1_isAgain 17 = .ok (.invokevirtual 173, 3) := by decide +kernel
theorem dX1_isAgain_20 : decode cX1_isAgain 20 = .ok (.aload_n 0, 1) := by decide +kernel
theorem dX1_isAgain_21 : decode cX1_isAgain 21 = .ok (.aload_n 3, 1) := by decide +kernel
theorem dX1_isAgain_22 : decode cX1_isAgain 22 = .ok (.invokevirtual 216, 3) := by decide +kernel
theorem dX1_isAgain_25 : decode cX1_isAgain 25 = .ok (.ifCond .eq 18, 3) := by decide +kernel
theorem dX1_isAgain_28 : decode cX1_isAgain 28 = .ok (.aload_n 0, 1) := by decide +kernel
theorem dX1_isAgain_29 : decode cX1_isAgain 29 = .ok (.aload_n 0, 1) := by decide +kernel
theorem dX1_isAgain_30 : decode cX1_isAgain 30 = .ok (.getfield 26, 3) := by decide +kernel
theorem dX1_isAgain_33 : decode cX1_isAgain 33 = .ok (.invokevirtual 216, 3) := by decide +kernel
theorem dX1_isAgain_36 : decode cX1_isAgain 36 = .ok (.ifCond .eq 7, 3) := by decide +kernel
theorem dX1_isAgain_39 : decode cX1_isAgain 39 = .ok (.iconst 1, 1) := by decide +kernel
theorem dX1_isAgain_40 : decode cX1_isAgain 40 = .ok (.goto 4, 3) := by decide +kernel
theorem dX1_isAgain_43 : decode cX1_isAgain 43 = .ok (.iconst 0, 1) := by decide +kernel
theorem dX1_isAgain_44 : decode cX1_isAgain 44 = .ok (.ireturn, 1) := by decide +kernel
set_option maxRecDepth 20000 in
theorem ggX1_isOwn_X1_rowAt : GoodIn wsX1_isOwn wsX1_rowAt := goodIn_ca (goodIn_r _ [5, 6, 7, 8, 86, 87, 88, 89, 90, 91, 92, 93] (by decide +kernel) (by decide +kernel)) (goodIn_sub (fun _ h => List.mem_cons_of_mem _ (List.mem_append_right _ h)) (by decide +kernel))
set_option maxRecDepth 20000 in
theorem gX1_isOwn_X1_rowAt : GoodIn wsX1_isOwn (wsV RX1 39 RX1 yX1_rowAt wsX1_rowAt) := goodIn_app (goodIn_of _ (by decide +kernel)) ggX1_isOwn_X1_rowAt
set_option maxRecDepth 20000 in
theorem ggX1_isOwn_X1_holdsOwn : GoodIn wsX1_isOwn wsX1_holdsOwn := goodIn_r _ [12, 13, 14, 15, 16, 17, 18, 19, 4, 20, 21, 22, 23, 24, 25, 26, 27, 28, 29, 30, 31, 32, 33, 34, 35, 36, 37, 38, 39, 40, 41, 42, 43, 44, 45, 46, 47, 48, 49, 50, 51, 52, 53, 54, 55, 56, 57, 58, 59, 60, 61, 62, 63, 64, 65, 66, 67, 68, 69, 70, 71, 72, 73, 74, 75, 76, 77, 78, 79, 80, 81, 82, 83, 84, 85, 86, 87, 88, 89, 90, 91, 92, 93, 94, 95] (by decide +kernel) (by decide +kernel)
set_option maxRecDepth 20000 in
theorem gX1_isOwn_X1_holdsOwn : GoodIn wsX1_isOwn (wsV RX1 219 RX1 yX1_holdsOwn wsX1_holdsOwn) := goodIn_app (goodIn_of _ (by decide +kernel)) ggX1_isOwn_X1_holdsOwn
theorem dX1_isOwn_0 : decode cX1_isOwn 0 = .ok (.aload_n 0, 1) := by decide +kernel
theorem dX1_isOwn_1 : decode cX1_isOwn 1 = .ok (.aload_n 0, 1) := by decide +kernel
theorem dX1_isOwn_2 : decode cX1_isOwn 2 = .ok (.iload_n 1, 1) := by decide +kernel
theorem dX1_isOwn_3 : decode cX1_isOwn 3 = .ok (.invokevirtual 39, 3) := by decide +kernel
theorem dX1_isOwn_6 : decode cX1_isOwn 6 = .ok (.invokevirtual 219, 3) := by decide +kernel
theorem dX1_isOwn_9 : decode cX1_isOwn 9 = .ok (.ireturn, 1) := by decide +kernel
set_option maxRecDepth 20000 in
theorem ggX1_isInverse_X1_rowAt : GoodIn wsX1_isInverse wsX1_rowAt := goodIn_ca (goodIn_r _ [5, 6, 7, 8, 90, 91, 92, 93, 94, 95, 96, 97] (by decide +kernel) (by decide +kernel)) (goodIn_sub (fun _ h => List.mem_cons_of_mem _ (List.mem_append_right _ h)) (by decide +kernel))
set_option maxRecDepth 20000 in
theorem gX1_isInverse_X1_rowAt : GoodIn wsX1_isInverse (wsV RX1 39 RX1 yX1_rowAt wsX1_rowAt) := goodIn_app (goodIn_of _ (by decide +kernel)) ggX1_isInverse_X1_rowAt
set_option maxRecDepth 20000 in
theorem ggX1_isInverse_X1_holdsInverse : GoodIn wsX1_isInverse wsX1_holdsInverse := goodIn_r _ [12, 13, 14, 15, 16, 17, 18, 19, 20, 21, 4, 22, 23, 24, 25, 26, 27, 28, 29, 30, 31, 32, 33, 34, 35, 36, 37, 38, 39, 40, 41, 42, 43, 44, 45, 46, 47, 48, 49, 50, 51, 52, 53, 54, 55, 56, 57, 58, 59, 60, 61, 62, 63, 64, 65, 66, 67, 68, 69, 70, 71, 72, 73, 74, 75, 76, 77, 78, 79, 80, 81, 82, 83, 84, 85, 86, 87, 88, 89, 90, 91, 92, 93, 94, 95, 96, 97, 98, 99] (by decide +kernel) (by decide +kernel)
set_option maxRecDepth 20000 in
theorem gX1_isInverse_X1_holdsInverse : GoodIn wsX1_isInverse (wsV RX1 222 RX1 yX1_holdsInverse wsX1_holdsInverse) := goodIn_app (goodIn_of _ (by decide +kernel)) ggX1_isInverse_X1_holdsInverse
theorem dX1_isInverse_0 : decode cX1_isInverse 0 = .ok (.aload_n 0, 1) := by decide +kernel
theorem dX1_isInverse_1 : decode cX1_isInverse 1 = .ok (.aload_n 0, 1) := by decide +kernel
theorem dX1_isInverse_2 : decode cX1_isInverse 2 = .ok (.iload_n 1, 1) := by decide +kernel
theorem dX1_isInverse_3 : decode cX1_isInverse 3 = .ok (.invokevirtual 39, 3) := by decide +kernel
theorem dX1_isInverse_6 : decode cX1_isInverse 6 = .ok (.invokevirtual 222, 3) := by decide +kernel
theorem dX1_isInverse_9 : decode cX1_isInverse 9 = .ok (.ireturn, 1) := by decide +kernel
set_option maxRecDepth 20000 in
theorem ggX1_isSound_X0_isInRange : GoodIn wsX1_isSound wsX0_isInRange := goodIn_r _ [6, 7, 8, 9, 10, 11, 12, 112, 113] (by decide +kernel) (by decide +kernel)
set_option maxRecDepth 20000 in
theorem gX1_isSound_X0_isInRange : GoodIn wsX1_isSound (wsV RX1 225 RX0 yX0_isInRange wsX0_isInRange) := goodIn_app (goodIn_of _ (by decide +kernel)) ggX1_isSound_X0_isInRange
set_option maxRecDepth 20000 in
theorem ggX1_isSound_X1_holdsOneToThree : GoodIn wsX1_isSound wsX1_holdsOneToThree := goodIn_r _ [16, 17, 18, 19, 10, 20, 21, 22, 23, 24, 25, 26, 27, 28, 29, 30, 5, 31, 7, 8, 32, 33, 34, 35, 36, 37, 38, 39, 40, 41, 42, 43, 44, 45, 46, 47, 48, 49, 50, 51, 52, 53, 54, 55, 56, 57, 58, 59, 12, 60, 61, 62, 63, 64, 65, 66, 67, 68, 69, 70, 71, 72, 73, 74, 75, 76, 77, 78, 79, 80, 81, 82, 83, 84, 85, 86, 87, 88, 89, 90, 91, 92, 93, 94, 95, 96, 97, 98, 99, 100, 101, 102, 103, 112, 113, 104, 105, 106, 107, 108, 109, 110, 111] (by decide +kernel) (by decide +kernel)
set_option maxRecDepth 20000 in
theorem gX1_isSound_X1_holdsOneToThree : GoodIn wsX1_isSound (wsV RX1 190 RX1 yX1_holdsOneToThree wsX1_holdsOneToThree) := goodIn_app (goodIn_of _ (by decide +kernel)) ggX1_isSound_X1_holdsOneToThree
theorem dX1_isSound_0 : decode cX1_isSound 0 = .ok (.iconst 0, 1) := by decide +kernel
theorem dX1_isSound_1 : decode cX1_isSound 1 = .ok (.istore_n 1, 1) := by decide +kernel
theorem dX1_isSound_2 : decode cX1_isSound 2 = .ok (.iload_n 1, 1) := by decide +kernel
theorem dX1_isSound_3 : decode cX1_isSound 3 = .ok (.iconst 4, 1) := by decide +kernel
theorem dX1_isSound_4 : decode cX1_isSound 4 = .ok (.if_icmp .ge 23, 3) := by decide +kernel
theorem dX1_isSound_7 : decode cX1_isSound 7 = .ok (.aload_n 0, 1) := by decide +kernel
theorem dX1_isSound_8 : decode cX1_isSound 8 = .ok (.getfield 11, 3) := by decide +kernel
theorem dX1_isSound_11 : decode cX1_isSound 11 = .ok (.iload_n 1, 1) := by decide +kernel
theorem dX1_isSound_12 : decode cX1_isSound 12 = .ok (.aaload, 1) := by decide +kernel
theorem dX1_isSound_13 : decode cX1_isSound 13 = .ok (.invokevirtual 225, 3) := by decide +kernel
theorem dX1_isSound_16 : decode cX1_isSound 16 = .ok (.ifCond .ne 5, 3) := by decide +kernel
theorem dX1_isSound_19 : decode cX1_isSound 19 = .ok (.iconst 0, 1) := by decide +kernel
theorem dX1_isSound_20 : decode cX1_isSound 20 = .ok (.ireturn, 1) := by decide +kernel
theorem dX1_isSound_21 : decode cX1_isSound 21 = .ok (.iinc 1 1, 3) := by decide +kernel
theorem dX1_isSound_24 : decode cX1_isSound 24 = .ok (.goto (-22), 3) := by decide +kernel
theorem dX1_isSound_27 : decode cX1_isSound 27 = .ok (.aload_n 0, 1) := by decide +kernel
theorem dX1_isSound_28 : decode cX1_isSound 28 = .ok (.aload_n 0, 1) := by decide +kernel
theorem dX1_isSound_29 : decode cX1_isSound 29 = .ok (.getfield 11, 3) := by decide +kernel
theorem dX1_isSound_32 : decode cX1_isSound 32 = .ok (.iconst 0, 1) := by decide +kernel
theorem dX1_isSound_33 : decode cX1_isSound 33 = .ok (.aaload, 1) := by decide +kernel
theorem dX1_isSound_34 : decode cX1_isSound 34 = .ok (.invokevirtual 190, 3) := by decide +kernel
theorem dX1_isSound_37 : decode cX1_isSound 37 = .ok (.ireturn, 1) := by decide +kernel
theorem dX1_checksum_0 : decode cX1_checksum 0 = .ok (.ldc2_w 229, 3) := by decide +kernel
theorem dX1_checksum_3 : decode cX1_checksum 3 = .ok (.aload_n 0, 1) := by decide +kernel
theorem dX1_checksum_4 : decode cX1_checksum 4 = .ok (.getfield 35, 3) := by decide +kernel
theorem dX1_checksum_7 : decode cX1_checksum 7 = .ok (.i2l, 1) := by decide +kernel
theorem dX1_checksum_8 : decode cX1_checksum 8 = .ok (.ladd, 1) := by decide +kernel
theorem dX1_checksum_9 : decode cX1_checksum 9 = .ok (.lstore_n 1, 1) := by decide +kernel
theorem dX1_checksum_10 : decode cX1_checksum 10 = .ok (.iconst 0, 1) := by decide +kernel
theorem dX1_checksum_11 : decode cX1_checksum 11 = .ok (.istore_n 3, 1) := by decide +kernel
theorem dX1_checksum_12 : decode cX1_checksum 12 = .ok (.iload_n 3, 1) := by decide +kernel
theorem dX1_checksum_13 : decode cX1_checksum 13 = .ok (.iconst 4, 1) := by decide +kernel
theorem dX1_checksum_14 : decode cX1_checksum 14 = .ok (.if_icmp .ge 65, 3) := by decide +kernel
theorem dX1_checksum_17 : decode cX1_checksum 17 = .ok (.aload_n 0, 1) := by decide +kernel
theorem dX1_checksum_18 : decode cX1_checksum 18 = .ok (.getfield 11, 3) := by decide +kernel
theorem dX1_checksum_21 : decode cX1_checksum 21 = .ok (.iload_n 3, 1) := by decide +kernel
theorem dX1_checksum_22 : decode cX1_checksum 22 = .ok (.aaload, 1) := by decide +kernel
theorem dX1_checksum_23 : decode cX1_checksum 23 = .ok (.astore 4, 2) := by decide +kernel
theorem dX1_checksum_25 : decode cX1_checksum 25 = .ok (.ldc2_w 231, 3) := by decide +kernel
theorem dX1_checksum_28 : decode cX1_checksum 28 = .ok (.lload_n 1, 1) := by decide +kernel
theorem dX1_checksum_29 : decode cX1_checksum 29 = .ok (.lmul, 1) := by decide +kernel
theorem dX1_checksum_30 : decode cX1_checksum 30 = .ok (.aload 4, 2) := by decide +kernel
theorem dX1_checksum_32 : decode cX1_checksum 32 = .ok (.getfield 47, 3) := by decide +kernel
theorem dX1_checksum_35 : decode cX1_checksum 35 = .ok (.i2l, 1) := by decide +kernel
theorem dX1_checksum_36 : decode cX1_checksum 36 = .ok (.ladd, 1) := by decide +kernel
theorem dX1_checksum_37 : decode cX1_checksum 37 = .ok (.lstore_n 1, 1) := by decide +kernel
theorem dX1_checksum_38 : decode cX1_checksum 38 = .ok (.iconst 0, 1) := by decide +kernel
theorem dX1_checksum_39 : decode cX1_checksum 39 = .ok (.istore 5, 2) := by decide +kernel
theorem dX1_checksum_41 : decode cX1_checksum 41 = .ok (.iload 5, 2) := by decide +kernel
theorem dX1_checksum_43 : decode cX1_checksum 43 = .ok (.aload 4, 2) := by decide +kernel
theorem dX1_checksum_45 : decode cX1_checksum 45 = .ok (.getfield 47, 3) := by decide +kernel
theorem dX1_checksum_48 : decode cX1_checksum 48 = .ok (.if_icmp .ge 25, 3) := by decide +kernel
theorem dX1_checksum_51 : decode cX1_checksum 51 = .ok (.ldc2_w 231, 3) := by decide +kernel
theorem dX1_checksum_54 : decode cX1_checksum 54 = .ok (.lload_n 1, 1) := by decide +kernel
theorem dX1_checksum_55 : decode cX1_checksum 55 = .ok (.lmul, 1) := by decide +kernel
theorem dX1_checksum_56 : decode cX1_checksum 56 = .ok (.aload 4, 2) := by decide +kernel
theorem dX1_checksum_58 : decode cX1_checksum 58 = .ok (.getfield 60, 3) := by decide +kernel
theorem dX1_checksum_61 : decode cX1_checksum 61 = .ok (.iload 5, 2) := by decide +kernel
theorem dX1_checksum_63 : decode cX1_checksum 63 = .ok (.iaload, 1) := by decide +kernel
theorem dX1_checksum_64 : decode cX1_checksum 64 = .ok (.i2l, 1) := by decide +kernel
theorem dX1_checksum_65 : decode cX1_checksum 65 = .ok (.ladd, 1) := by decide +kernel
theorem dX1_checksum_66 : decode cX1_checksum 66 = .ok (.lstore_n 1, 1) := by decide +kernel
theorem dX1_checksum_67 : decode cX1_checksum 67 = .ok (.iinc 5 1, 3) := by decide +kernel
theorem dX1_checksum_70 : decode cX1_checksum 70 = .ok (.goto (-29), 3) := by decide +kernel
theorem dX1_checksum_73 : decode cX1_checksum 73 = .ok (.iinc 3 1, 3) := by decide +kernel
theorem dX1_checksum_76 : decode cX1_checksum 76 = .ok (.goto (-64), 3) := by decide +kernel
theorem dX1_checksum_79 : decode cX1_checksum 79 = .ok (.lload_n 1, 1) := by decide +kernel
theorem dX1_checksum_80 : decode cX1_checksum 80 = .ok (.lreturn, 1) := by decide +kernel
theorem dX1_rowAt_0 : decode cX1_rowAt 0 = .ok (.iload_n 1, 1) := by decide +kernel
theorem dX1_rowAt_1 : decode cX1_rowAt 1 = .ok (.ifCond .lt 8, 3) := by decide +kernel
theorem dX1_rowAt_4 : decode cX1_rowAt 4 = .ok (.iload_n 1, 1) := by decide +kernel
theorem dX1_rowAt_5 : decode cX1_rowAt 5 = .ok (.iconst 4, 1) := by decide +kernel
theorem dX1_rowAt_6 : decode cX1_rowAt 6 = .ok (.if_icmp .lt 13, 3) := by decide +kernel
theorem dX1_rowAt_9 : decode cX1_rowAt 9 = .ok (.new 64, 3) := by decide +kernel
theorem dX1_rowAt_12 : decode cX1_rowAt 12 = .ok (.dup, 1) := by decide +kernel
theorem dX1_rowAt_13 : decode cX1_rowAt 13 = .ok (.ldc 233, 2) := by decide +kernel
theorem dX1_rowAt_15 : decode cX1_rowAt 15 = .ok (.invokespecial 68, 3) := by decide +kernel
theorem dX1_rowAt_18 : decode cX1_rowAt 18 = .ok (.athrow, 1) := by decide +kernel
theorem dX1_rowAt_19 : decode cX1_rowAt 19 = .ok (.aload_n 0, 1) := by decide +kernel
theorem dX1_rowAt_20 : decode cX1_rowAt 20 = .ok (.getfield 11, 3) := by decide +kernel
theorem dX1_rowAt_23 : decode cX1_rowAt 23 = .ok (.iload_n 1, 1) := by decide +kernel
theorem dX1_rowAt_24 : decode cX1_rowAt 24 = .ok (.aaload, 1) := by decide +kernel
theorem dX1_rowAt_25 : decode cX1_rowAt 25 = .ok (.areturn, 1) := by decide +kernel
theorem dX1_needPlace_0 : decode cX1_needPlace 0 = .ok (.iload_n 1, 1) := by decide +kernel
theorem dX1_needPlace_1 : decode cX1_needPlace 1 = .ok (.ifCond .lt 11, 3) := by decide +kernel
theorem dX1_needPlace_4 : decode cX1_needPlace 4 = .ok (.iload_n 1, 1) := by decide +kernel
theorem dX1_needPlace_5 : decode cX1_needPlace 5 = .ok (.aload_n 0, 1) := by decide +kernel
theorem dX1_needPlace_6 : decode cX1_needPlace 6 = .ok (.getfield 47, 3) := by decide +kernel
theorem dX1_needPlace_9 : decode cX1_needPlace 9 = .ok (.if_icmp .lt 13, 3) := by decide +kernel
theorem dX1_needPlace_12 : decode cX1_needPlace 12 = .ok (.new 64, 3) := by decide +kernel
theorem dX1_needPlace_15 : decode cX1_needPlace 15 = .ok (.dup, 1) := by decide +kernel
theorem dX1_needPlace_16 : decode cX1_needPlace 16 = .ok (.ldc 235, 2) := by decide +kernel
theorem dX1_needPlace_18 : decode cX1_needPlace 18 = .ok (.invokespecial 68, 3) := by decide +kernel
theorem dX1_needPlace_21 : decode cX1_needPlace 21 = .ok (.athrow, 1) := by decide +kernel
theorem dX1_needPlace_22 : decode cX1_needPlace 22 = .ok (.return_, 1) := by decide +kernel
set_option maxRecDepth 20000 in
theorem ggX1_needNumber_X1_isNumber : GoodIn wsX1_needNumber wsX1_isNumber := goodIn_r _ [6, 7] (by decide +kernel) (by decide +kernel)
set_option maxRecDepth 20000 in
theorem gX1_needNumber_X1_isNumber : GoodIn wsX1_needNumber (va_wsS RX1 237 yX1_isNumber wsX1_isNumber) := goodIn_app (goodIn_of _ (by decide +kernel)) ggX1_needNumber_X1_isNumber
theorem dX1_needNumber_0 : decode cX1_needNumber 0 = .ok (.iload_n 0, 1) := by decide +kernel
theorem dX1_needNumber_1 : decode cX1_needNumber 1 = .ok (.invokestatic 237, 3) := by decide +kernel
theorem dX1_needNumber_4 : decode cX1_needNumber 4 = .ok (.ifCond .ne 13, 3) := by decide +kernel
theorem dX1_needNumber_7 : decode cX1_needNumber 7 = .ok (.new 83, 3) := by decide +kernel
theorem dX1_needNumber_10 : decode cX1_needNumber 10 = .ok (.dup, 1) := by decide +kernel
theorem dX1_needNumber_11 : decode cX1_needNumber 11 = .ok (.ldc 240, 2) := by decide +kernel
theorem dX1_needNumber_13 : decode cX1_needNumber 13 = .ok (.invokespecial 87, 3) := by decide +kernel
theorem dX1_needNumber_16 : decode cX1_needNumber 16 = .ok (.athrow, 1) := by decide +kernel
theorem dX1_needNumber_17 : decode cX1_needNumber 17 = .ok (.return_, 1) := by decide +kernel
set_option maxRecDepth 20000 in
theorem ggX1_needLength_X1_isPowerOfTwo : GoodIn wsX1_needLength wsX1_isPowerOfTwo := goodIn_r _ [6] (by decide +kernel) (by decide +kernel)
set_option maxRecDepth 20000 in
theorem gX1_needLength_X1_isPowerOfTwo : GoodIn wsX1_needLength (va_wsS RX1 242 yX1_isPowerOfTwo wsX1_isPowerOfTwo) := goodIn_app (goodIn_of _ (by decide +kernel)) ggX1_needLength_X1_isPowerOfTwo
theorem dX1_needLength_0 : decode cX1_needLength 0 = .ok (.iload_n 0, 1) := by decide +kernel
theorem dX1_needLength_1 : decode cX1_needLength 1 = .ok (.iconst 2, 1) := by decide +kernel
theorem dX1_needLength_2 : decode cX1_needLength 2 = .ok (.if_icmp .lt 10, 3) := by decide +kernel
theorem dX1_needLength_5 : decode cX1_needLength 5 = .ok (.iload_n 0, 1) := by decide +kernel
theorem dX1_needLength_6 : decode cX1_needLength 6 = .ok (.invokestatic 242, 3) := by decide +kernel
theorem dX1_needLength_9 : decode cX1_needLength 9 = .ok (.ifCond .ne 13, 3) := by decide +kernel
theorem dX1_needLength_12 : decode cX1_needLength 12 = .ok (.new 83, 3) := by decide +kernel
theorem dX1_needLength_15 : decode cX1_needLength 15 = .ok (.dup, 1) := by decide +kernel
theorem dX1_needLength_16 : decode cX1_needLength 16 = .ok (.ldc 245, 2) := by decide +kernel
theorem dX1_needLength_18 : decode cX1_needLength 18 = .ok (.invokespecial 87, 3) := by decide +kernel
theorem dX1_needLength_21 : decode cX1_needLength 21 = .ok (.athrow, 1) := by decide +kernel
theorem dX1_needLength_22 : decode cX1_needLength 22 = .ok (.return_, 1) := by decide +kernel
set_option maxRecDepth 20000 in
theorem ggX1_needAfter_X1_isPowerOfTwo : GoodIn wsX1_needAfter wsX1_isPowerOfTwo := goodIn_r _ [7] (by decide +kernel) (by decide +kernel)
set_option maxRecDepth 20000 in
theorem gX1_needAfter_X1_isPowerOfTwo : GoodIn wsX1_needAfter (va_wsS RX1 242 yX1_isPowerOfTwo wsX1_isPowerOfTwo) := goodIn_app (goodIn_of _ (by decide +kernel)) ggX1_needAfter_X1_isPowerOfTwo
theorem dX1_needAfter_0 : decode cX1_needAfter 0 = .ok (.iload_n 1, 1) := by decide +kernel
theorem dX1_needAfter_1 : decode cX1_needAfter 1 = .ok (.invokestatic 242, 3) := by decide +kernel
theorem dX1_needAfter_4 : decode cX1_needAfter 4 = .ok (.ifCond .eq 11, 3) := by decide +kernel
theorem dX1_needAfter_7 : decode cX1_needAfter 7 = .ok (.iload_n 1, 1) := by decide +kernel
theorem dX1_needAfter_8 : decode cX1_needAfter 8 = .ok (.aload_n 0, 1) := by decide +kernel
theorem dX1_needAfter_9 : decode cX1_needAfter 9 = .ok (.getfield 47, 3) := by decide +kernel
theorem dX1_needAfter_12 : decode cX1_needAfter 12 = .ok (.if_icmp .le 13, 3) := by decide +kernel
theorem dX1_needAfter_15 : decode cX1_needAfter 15 = .ok (.new 83, 3) := by decide +kernel
theorem dX1_needAfter_18 : decode cX1_needAfter 18 = .ok (.dup, 1) := by decide +kernel
theorem dX1_needAfter_19 : decode cX1_needAfter 19 = .ok (.ldc 247, 2) := by decide +kernel
theorem dX1_needAfter_21 : decode cX1_needAfter 21 = .ok (.invokespecial 87, 3) := by decide +kernel
theorem dX1_needAfter_24 : decode cX1_needAfter 24 = .ok (.athrow, 1) := by decide +kernel
theorem dX1_needAfter_25 : decode cX1_needAfter 25 = .ok (.return_, 1) := by decide +kernel
theorem dX1_needAlike_0 : decode cX1_needAlike 0 = .ok (.aload_n 0, 1) := by decide +kernel
theorem dX1_needAlike_1 : decode cX1_needAlike 1 = .ok (.getfield 47, 3) := by decide +kernel
theorem dX1_needAlike_4 : decode cX1_needAlike 4 = .ok (.aload_n 1, 1) := by decide +kernel
theorem dX1_needAlike_5 : decode cX1_needAlike 5 = .ok (.getfield 47, 3) := by decide +kernel
theorem dX1_needAlike_8 : decode cX1_needAlike 8 = .ok (.if_icmp .eq 13, 3) := by decide +kernel
theorem dX1_needAlike_11 : decode cX1_needAlike 11 = .ok (.new 131, 3) := by decide +kernel
theorem dX1_needAlike_14 : decode cX1_needAlike 14 = .ok (.dup, 1) := by decide +kernel
theorem dX1_needAlike_15 : decode cX1_needAlike 15 = .ok (.ldc 249, 2) := by decide +kernel
theorem dX1_needAlike_17 : decode cX1_needAlike 17 = .ok (.invokespecial 135, 3) := by decide +kernel
theorem dX1_needAlike_20 : decode cX1_needAlike 20 = .ok (.athrow, 1) := by decide +kernel
theorem dX1_needAlike_21 : decode cX1_needAlike 21 = .ok (.return_, 1) := by decide +kernel
theorem dX1_needRoom_0 : decode cX1_needRoom 0 = .ok (.aload_n 0, 1) := by decide +kernel
theorem dX1_needRoom_1 : decode cX1_needRoom 1 = .ok (.getfield 47, 3) := by decide +kernel
theorem dX1_needRoom_4 : decode cX1_needRoom 4 = .ok (.bipush 16, 2) := by decide +kernel
theorem dX1_needRoom_6 : decode cX1_needRoom 6 = .ok (.if_icmp .lt 13, 3) := by decide +kernel
theorem dX1_needRoom_9 : decode cX1_needRoom 9 = .ok (.new 131, 3) := by decide +kernel
theorem dX1_needRoom_12 : decode cX1_needRoom 12 = .ok (.dup, 1) := by decide +kernel
theorem dX1_needRoom_13 : decode cX1_needRoom 13 = .ok (.ldc 251, 2) := by decide +kernel
theorem dX1_needRoom_15 : decode cX1_needRoom 15 = .ok (.invokespecial 135, 3) := by decide +kernel
theorem dX1_needRoom_18 : decode cX1_needRoom 18 = .ok (.athrow, 1) := by decide +kernel
theorem dX1_needRoom_19 : decode cX1_needRoom 19 = .ok (.return_, 1) := by decide +kernel
theorem dX1_isPowerOfTwo_0 : decode cX1_isPowerOfTwo 0 = .ok (.iload_n 0, 1) := by decide +kernel
theorem dX1_isPowerOfTwo_1 : decode cX1_isPowerOfTwo 1 = .ok (.iconst 1, 1) := by decide +kernel
theorem dX1_isPowerOfTwo_2 : decode cX1_isPowerOfTwo 2 = .ok (.if_icmp .eq 25, 3) := by decide +kernel
theorem dX1_isPowerOfTwo_5 : decode cX1_isPowerOfTwo 5 = .ok (.iload_n 0, 1) := by decide +kernel
theorem dX1_isPowerOfTwo_6 : decode cX1_isPowerOfTwo 6 = .ok (.iconst 2, 1) := by decide +kernel
theorem dX1_isPowerOfTwo_7 : decode cX1_isPowerOfTwo 7 = .ok (.if_icmp .eq 20, 3) := by decide +kernel
theorem dX1_isPowerOfTwo_10 : decode cX1_isPowerOfTwo 10 = .ok (.iload_n 0, 1) := by decide +kernel
theorem dX1_isPowerOfTwo_11 : decode cX1_isPowerOfTwo 11 = .ok (.iconst 4, 1) := by decide +kernel
theorem dX1_isPowerOfTwo_12 : decode cX1_isPowerOfTwo 12 = .ok (.if_icmp .eq 15, 3) := by decide +kernel
theorem dX1_isPowerOfTwo_15 : decode cX1_isPowerOfTwo 15 = .ok (.iload_n 0, 1) := by decide +kernel
theorem dX1_isPowerOfTwo_16 : decode cX1_isPowerOfTwo 16 = .ok (.bipush 8, 2) := by decide +kernel
theorem dX1_isPowerOfTwo_18 : decode cX1_isPowerOfTwo 18 = .ok (.if_icmp .eq 9, 3) := by decide +kernel
theorem dX1_isPowerOfTwo_21 : decode cX1_isPowerOfTwo 21 = .ok (.iload_n 0, 1) := by decide +kernel
theorem dX1_isPowerOfTwo_22 : decode cX1_isPowerOfTwo 22 = .ok (.bipush 16, 2) := by decide +kernel
theorem dX1_isPowerOfTwo_24 : decode cX1_isPowerOfTwo 24 = .ok (.if_icmp .ne 7, 3) := by decide +kernel
theorem dX1_isPowerOfTwo_27 : decode cX1_isPowerOfTwo 27 = .ok (.iconst 1, 1) := by decide +kernel
theorem dX1_isPowerOfTwo_28 : decode cX1_isPowerOfTwo 28 = .ok (.goto 4, 3) := by decide +kernel
theorem dX1_isPowerOfTwo_31 : decode cX1_isPowerOfTwo 31 = .ok (.iconst 0, 1) := by decide +kernel
theorem dX1_isPowerOfTwo_32 : decode cX1_isPowerOfTwo 32 = .ok (.ireturn, 1) := by decide +kernel
theorem dX1_isNumber_0 : decode cX1_isNumber 0 = .ok (.iload_n 0, 1) := by decide +kernel
theorem dX1_isNumber_1 : decode cX1_isNumber 1 = .ok (.ifCond .lt 13, 3) := by decide +kernel
theorem dX1_isNumber_4 : decode cX1_isNumber 4 = .ok (.iload_n 0, 1) := by decide +kernel
theorem dX1_isNumber_5 : decode cX1_isNumber 5 = .ok (.ldc 253, 2) := by decide +kernel
theorem dX1_isNumber_7 : decode cX1_isNumber 7 = .ok (.if_icmp .ge 7, 3) := by decide +kernel
theorem dX1_isNumber_10 : decode cX1_isNumber 10 = .ok (.iconst 1, 1) := by decide +kernel
theorem dX1_isNumber_11 : decode cX1_isNumber 11 = .ok (.goto 4, 3) := by decide +kernel
theorem dX1_isNumber_14 : decode cX1_isNumber 14 = .ok (.iconst 0, 1) := by decide +kernel
theorem dX1_isNumber_15 : decode cX1_isNumber 15 = .ok (.ireturn, 1) := by decide +kernel
theorem dX1_added_0 : decode cX1_added 0 = .ok (.iload_n 0, 1) := by decide +kernel
theorem dX1_added_1 : decode cX1_added 1 = .ok (.iload_n 1, 1) := by decide +kernel
theorem dX1_added_2 : decode cX1_added 2 = .ok (.iadd, 1) := by decide +kernel
theorem dX1_added_3 : decode cX1_added 3 = .ok (.ldc 253, 2) := by decide +kernel
theorem dX1_added_5 : decode cX1_added 5 = .ok (.irem, 1) := by decide +kernel
theorem dX1_added_6 : decode cX1_added 6 = .ok (.ireturn, 1) := by decide +kernel
theorem dX1_lessened_0 : decode cX1_lessened 0 = .ok (.iload_n 0, 1) := by decide +kernel
theorem dX1_lessened_1 : decode cX1_lessened 1 = .ok (.ldc 253, 2) := by decide +kernel
theorem dX1_lessened_3 : decode cX1_lessened 3 = .ok (.iadd, 1) := by decide +kernel
theorem dX1_lessened_4 : decode cX1_lessened 4 = .ok (.iload_n 1, 1) := by decide +kernel
theorem dX1_lessened_5 : decode cX1_lessened 5 = .ok (.isub, 1) := by decide +kernel
theorem dX1_lessened_6 : decode cX1_lessened 6 = .ok (.ldc 253, 2) := by decide +kernel
theorem dX1_lessened_8 : decode cX1_lessened 8 = .ok (.irem, 1) := by decide +kernel
theorem dX1_lessened_9 : decode cX1_lessened 9 = .ok (.ireturn, 1) := by decide +kernel
set_option maxRecDepth 20000 in
theorem ggX1_multiplied_X1_reduced : GoodIn wsX1_multiplied wsX1_reduced := goodIn_r _ [4, 5] (by decide +kernel) (by decide +kernel)
set_option maxRecDepth 20000 in
theorem gX1_multiplied_X1_reduced : GoodIn wsX1_multiplied (va_wsS RX1 254 yX1_reduced wsX1_reduced) := goodIn_app (goodIn_of _ (by decide +kernel)) ggX1_multiplied_X1_reduced
theorem dX1_multiplied_0 : decode cX1_multiplied 0 = .ok (.iload_n 0, 1) := by decide +kernel
theorem dX1_multiplied_1 : decode cX1_multiplied 1 = .ok (.i2l, 1) := by decide +kernel
theorem dX1_multiplied_2 : decode cX1_multiplied 2 = .ok (.iload_n 1, 1) := by decide +kernel
theorem dX1_multiplied_3 : decode cX1_multiplied 3 = .ok (.i2l, 1) := by decide +kernel
theorem dX1_multiplied_4 : decode cX1_multiplied 4 = .ok (.lmul, 1) := by decide +kernel
theorem dX1_multiplied_5 : decode cX1_multiplied 5 = .ok (.invokestatic 254, 3) := by decide +kernel
theorem dX1_multiplied_8 : decode cX1_multiplied 8 = .ok (.ireturn, 1) := by decide +kernel
theorem dX1_reduced_0 : decode cX1_reduced 0 = .ok (.lload_n 0, 1) := by decide +kernel
theorem dX1_reduced_1 : decode cX1_reduced 1 = .ok (.ldc2_w 258, 3) := by decide +kernel
theorem dX1_reduced_4 : decode cX1_reduced 4 = .ok (.lrem, 1) := by decide +kernel
theorem dX1_reduced_5 : decode cX1_reduced 5 = .ok (.l2i, 1) := by decide +kernel
theorem dX1_reduced_6 : decode cX1_reduced 6 = .ok (.ireturn, 1) := by decide +kernel
set_option maxRecDepth 20000 in
theorem ggX1_inverseOf_X1_multiplied : GoodIn wsX1_inverseOf wsX1_multiplied := goodIn_r _ [4, 5, 6, 3, 7, 8] (by decide +kernel) (by decide +kernel)
set_option maxRecDepth 20000 in
theorem gX1_inverseOf_X1_multiplied : GoodIn wsX1_inverseOf (va_wsS RX1 105 yX1_multiplied wsX1_multiplied) := goodIn_app (goodIn_of _ (by decide +kernel)) ggX1_inverseOf_X1_multiplied
theorem dX1_inverseOf_0 : decode cX1_inverseOf 0 = .ok (.iconst 1, 1) := by decide +kernel
theorem dX1_inverseOf_1 : decode cX1_inverseOf 1 = .ok (.istore_n 1, 1) := by decide +kernel
theorem dX1_inverseOf_2 : decode cX1_inverseOf 2 = .ok (.iload_n 0, 1) := by decide +kernel
theorem dX1_inverseOf_3 : decode cX1_inverseOf 3 = .ok (.istore_n 2, 1) := by decide +kernel
theorem dX1_inverseOf_4 : decode cX1_inverseOf 4 = .ok (.iconst 0, 1) := by decide +kernel
theorem dX1_inverseOf_5 : decode cX1_inverseOf 5 = .ok (.istore_n 3, 1) := by decide +kernel
theorem dX1_inverseOf_6 : decode cX1_inverseOf 6 = .ok (.iload_n 3, 1) := by decide +kernel
theorem dX1_inverseOf_7 : decode cX1_inverseOf 7 = .ok (.bipush 16, 2) := by decide +kernel
theorem dX1_inverseOf_9 : decode cX1_inverseOf 9 = .ok (.if_icmp .ge 21, 3) := by decide +kernel
theorem dX1_inverseOf_12 : decode cX1_inverseOf 12 = .ok (.iload_n 1, 1) := by decide +kernel
theorem dX1_inverseOf_13 : decode cX1_inverseOf 13 = .ok (.iload_n 2, 1) := by decide +kernel
theorem dX1_inverseOf_14 : decode cX1_inverseOf 14 = .ok (.invokestatic 105, 3) := by decide +kernel
theorem dX1_inverseOf_17 : decode cX1_inverseOf 17 = .ok (.istore_n 1, 1) := by decide +kernel
theorem dX1_inverseOf_18 : decode cX1_inverseOf 18 = .ok (.iload_n 2, 1) := by decide +kernel
theorem dX1_inverseOf_19 : decode cX1_inverseOf 19 = .ok (.iload_n 2, 1) := by decide +kernel
theorem dX1_inverseOf_20 : decode cX1_inverseOf 20 = .ok (.invokestatic 105, 3) := by decide +kernel
theorem dX1_inverseOf_23 : decode cX1_inverseOf 23 = .ok (.istore_n 2, 1) := by decide +kernel
theorem dX1_inverseOf_24 : decode cX1_inverseOf 24 = .ok (.iinc 3 1, 3) := by decide +kernel
theorem dX1_inverseOf_27 : decode cX1_inverseOf 27 = .ok (.goto (-21), 3) := by decide +kernel
theorem dX1_inverseOf_30 : decode cX1_inverseOf 30 = .ok (.iload_n 1, 1) := by decide +kernel
theorem dX1_inverseOf_31 : decode cX1_inverseOf 31 = .ok (.ireturn, 1) := by decide +kernel
theorem dX1_twoTo_0 : decode cX1_twoTo 0 = .ok (.iload_n 0, 1) := by decide +kernel
theorem dX1_twoTo_1 : decode cX1_twoTo 1 = .ok (.bipush 31, 2) := by decide +kernel
theorem dX1_twoTo_3 : decode cX1_twoTo 3 = .ok (.iand, 1) := by decide +kernel
theorem dX1_twoTo_4 : decode cX1_twoTo 4 = .ok (.istore_n 1, 1) := by decide +kernel
theorem dX1_twoTo_5 : decode cX1_twoTo 5 = .ok (.iload_n 1, 1) := by decide +kernel
theorem dX1_twoTo_6 : decode cX1_twoTo 6 = .ok (.bipush 16, 2) := by decide +kernel
theorem dX1_twoTo_8 : decode cX1_twoTo 8 = .ok (.if_icmp .ge 9, 3) := by decide +kernel
theorem dX1_twoTo_11 : decode cX1_twoTo 11 = .ok (.iconst 1, 1) := by decide +kernel
theorem dX1_twoTo_12 : decode cX1_twoTo 12 = .ok (.iload_n 1, 1) := by decide +kernel
theorem dX1_twoTo_13 : decode cX1_twoTo 13 = .ok (.ishl, 1) := by decide +kernel
theorem dX1_twoTo_14 : decode cX1_twoTo 14 = .ok (.goto 12, 3) := by decide +kernel
theorem dX1_twoTo_17 : decode cX1_twoTo 17 = .ok (.ldc 253, 2) := by decide +kernel
theorem dX1_twoTo_19 : decode cX1_twoTo 19 = .ok (.iconst 1, 1) := by decide +kernel
theorem dX1_twoTo_20 : decode cX1_twoTo 20 = .ok (.iload_n 1, 1) := by decide +kernel
theorem dX1_twoTo_21 : decode cX1_twoTo 21 = .ok (.bipush 16, 2) := by decide +kernel
theorem dX1_twoTo_23 : decode cX1_twoTo 23 = .ok (.isub, 1) := by decide +kernel
theorem dX1_twoTo_24 : decode cX1_twoTo 24 = .ok (.ishl, 1) := by decide +kernel
theorem dX1_twoTo_25 : decode cX1_twoTo 25 = .ok (.isub, 1) := by decide +kernel
theorem dX1_twoTo_26 : decode cX1_twoTo 26 = .ok (.ireturn, 1) := by decide +kernel
set_option maxRecDepth 20000 in
theorem ggX1_rootTo_X1_stepOf : GoodIn wsX1_rootTo wsX1_stepOf := goodIn_r _ [5] (by decide +kernel) (by decide +kernel)
set_option maxRecDepth 20000 in
theorem gX1_rootTo_X1_stepOf : GoodIn wsX1_rootTo (va_wsS RX1 260 yX1_stepOf wsX1_stepOf) := goodIn_app (goodIn_of _ (by decide +kernel)) ggX1_rootTo_X1_stepOf
set_option maxRecDepth 20000 in
theorem ggX1_rootTo_X1_twoTo : GoodIn wsX1_rootTo wsX1_twoTo := goodIn_r _ [8, 9] (by decide +kernel) (by decide +kernel)
set_option maxRecDepth 20000 in
theorem gX1_rootTo_X1_twoTo : GoodIn wsX1_rootTo (va_wsS RX1 264 yX1_twoTo wsX1_twoTo) := goodIn_app (goodIn_of _ (by decide +kernel)) ggX1_rootTo_X1_twoTo
theorem dX1_rootTo_0 : decode cX1_rootTo 0 = .ok (.aload_n 0, 1) := by decide +kernel
theorem dX1_rootTo_1 : decode cX1_rootTo 1 = .ok (.getfield 35, 3) := by decide +kernel
theorem dX1_rootTo_4 : decode cX1_rootTo 4 = .ok (.iload_n 1, 1) := by decide +kernel
theorem dX1_rootTo_5 : decode cX1_rootTo 5 = .ok (.invokestatic 260, 3) := by decide +kernel
theorem dX1_rootTo_8 : decode cX1_rootTo 8 = .ok (.imul, 1) := by decide +kernel
theorem dX1_rootTo_9 : decode cX1_rootTo 9 = .ok (.iload_n 2, 1) := by decide +kernel
theorem dX1_rootTo_10 : decode cX1_rootTo 10 = .ok (.imul, 1) := by decide +kernel
theorem dX1_rootTo_11 : decode cX1_rootTo 11 = .ok (.invokestatic 264, 3) := by decide +kernel
theorem dX1_rootTo_14 : decode cX1_rootTo 14 = .ok (.ireturn, 1) := by decide +kernel
theorem dX1_stepOf_0 : decode cX1_stepOf 0 = .ok (.iload_n 0, 1) := by decide +kernel
theorem dX1_stepOf_1 : decode cX1_stepOf 1 = .ok (.lookupswitch 53 #[(2, 43), (4, 46), (8, 49), (16, 51)], 43) := by decide +kernel
theorem dX1_stepOf_44 : decode cX1_stepOf 44 = .ok (.bipush 16, 2) := by decide +kernel
theorem dX1_stepOf_46 : decode cX1_stepOf 46 = .ok (.ireturn, 1) := by decide +kernel
theorem dX1_stepOf_47 : decode cX1_stepOf 47 = .ok (.bipush 8, 2) := by decide +kernel
theorem dX1_stepOf_49 : decode cX1_stepOf 49 = .ok (.ireturn, 1) := by decide +kernel
theorem dX1_stepOf_50 : decode cX1_stepOf 50 = .ok (.iconst 4, 1) := by decide +kernel
theorem dX1_stepOf_51 : decode cX1_stepOf 51 = .ok (.ireturn, 1) := by decide +kernel
theorem dX1_stepOf_52 : decode cX1_stepOf 52 = .ok (.iconst 2, 1) := by decide +kernel
theorem dX1_stepOf_53 : decode cX1_stepOf 53 = .ok (.ireturn, 1) := by decide +kernel
theorem dX1_stepOf_54 : decode cX1_stepOf 54 = .ok (.bipush 32, 2) := by decide +kernel
theorem dX1_stepOf_56 : decode cX1_stepOf 56 = .ok (.ireturn, 1) := by decide +kernel
set_option maxRecDepth 20000 in
theorem ggX1_plainValues_X1_sumsWithPowers : GoodIn wsX1_plainValues wsX1_sumsWithPowers := goodIn_r _ [5, 6, 7, 8, 9, 10, 11, 12, 13, 14, 15, 16, 17, 18, 19, 20, 21, 4, 22, 23, 24, 25, 26, 27, 28, 29, 30, 31, 32, 33, 34, 35, 36, 37, 38, 39, 40, 41, 42, 43, 44] (by decide +kernel) (by decide +kernel)
set_option maxRecDepth 20000 in
theorem gX1_plainValues_X1_sumsWithPowers : GoodIn wsX1_plainValues (wsV RX1 267 RX1 yX1_sumsWithPowers wsX1_sumsWithPowers) := goodIn_app (goodIn_of _ (by decide +kernel)) ggX1_plainValues_X1_sumsWithPowers
theorem dX1_plainValues_0 : decode cX1_plainValues 0 = .ok (.aload_n 0, 1) := by decide +kernel
theorem dX1_plainValues_1 : decode cX1_plainValues 1 = .ok (.aload_n 1, 1) := by decide +kernel
theorem dX1_plainValues_2 : decode cX1_plainValues 2 = .ok (.iconst 1, 1) := by decide +kernel
theorem dX1_plainValues_3 : decode cX1_plainValues 3 = .ok (.aload_n 2, 1) := by decide +kernel
theorem dX1_plainValues_4 : decode cX1_plainValues 4 = .ok (.invokevirtual 267, 3) := by decide +kernel
theorem dX1_plainValues_7 : decode cX1_plainValues 7 = .ok (.return_, 1) := by decide +kernel
set_option maxRecDepth 20000 in
theorem ggX1_backRow_X1_sumsWithPowers : GoodIn wsX1_backRow wsX1_sumsWithPowers := goodIn_r _ [6, 1, 7, 8, 9, 10, 11, 12, 13, 14, 15, 16, 17, 18, 19, 20, 21, 5, 22, 23, 24, 25, 26, 27, 28, 29, 30, 31, 32, 33, 34, 45, 46, 47, 48, 49, 50, 51, 52, 53, 54] (by decide +kernel) (by decide +kernel)
set_option maxRecDepth 20000 in
theorem gX1_backRow_X1_sumsWithPowers : GoodIn wsX1_backRow (wsV RX1 267 RX1 yX1_sumsWithPowers wsX1_sumsWithPowers) := goodIn_app (goodIn_of _ (by decide +kernel)) ggX1_backRow_X1_sumsWithPowers
set_option maxRecDepth 20000 in
theorem ggX1_backRow_X1_inverseOf : GoodIn wsX1_backRow wsX1_inverseOf := goodIn_r _ [37, 38, 39, 5, 40, 31, 32, 33, 34] (by decide +kernel) (by decide +kernel)
set_option maxRecDepth 20000 in
theorem gX1_backRow_X1_inverseOf : GoodIn wsX1_backRow (va_wsS RX1 270 yX1_inverseOf wsX1_inverseOf) := goodIn_app (goodIn_of _ (by decide +kernel)) ggX1_backRow_X1_inverseOf
set_option maxRecDepth 20000 in
theorem ggX1_backRow_X0_becomeScaled : GoodIn wsX1_backRow wsX0_becomeScaled := goodIn_r _ [44, 13, 14, 39, 5, 40, 31, 32, 33, 34, 45, 46] (by decide +kernel) (by decide +kernel)
set_option maxRecDepth 20000 in
theorem gX1_backRow_X0_becomeScaled : GoodIn wsX1_backRow (wsV RX1 167 RX0 yX0_becomeScaled wsX0_becomeScaled) := goodIn_app (goodIn_of _ (by decide +kernel)) ggX1_backRow_X0_becomeScaled
theorem dX1_backRow_0 : decode cX1_backRow 0 = .ok (.aload_n 0, 1) := by decide +kernel
theorem dX1_backRow_1 : decode cX1_backRow 1 = .ok (.aload_n 1, 1) := by decide +kernel
theorem dX1_backRow_2 : decode cX1_backRow 2 = .ok (.iconst (-1), 1) := by decide +kernel
theorem dX1_backRow_3 : decode cX1_backRow 3 = .ok (.aload_n 2, 1) := by decide +kernel
theorem dX1_backRow_4 : decode cX1_backRow 4 = .ok (.invokevirtual 267, 3) := by decide +kernel
theorem dX1_backRow_7 : decode cX1_backRow 7 = .ok (.aload_n 2, 1) := by decide +kernel
theorem dX1_backRow_8 : decode cX1_backRow 8 = .ok (.aload_n 2, 1) := by decide +kernel
theorem dX1_backRow_9 : decode cX1_backRow 9 = .ok (.aload_n 1, 1) := by decide +kernel
theorem dX1_backRow_10 : decode cX1_backRow 10 = .ok (.getfield 47, 3) := by decide +kernel
theorem dX1_backRow_13 : decode cX1_backRow 13 = .ok (.invokestatic 270, 3) := by decide +kernel
theorem dX1_backRow_16 : decode cX1_backRow 16 = .ok (.invokevirtual 167, 3) := by decide +kernel
theorem dX1_backRow_19 : decode cX1_backRow 19 = .ok (.return_, 1) := by decide +kernel
set_option maxRecDepth 20000 in
theorem ggX1_sumsWithPowers_X0_clear : GoodIn wsX1_sumsWithPowers wsX0_clear := goodIn_r _ [7, 8, 9, 10, 11, 12, 13, 31, 32] (by decide +kernel) (by decide +kernel)
set_option maxRecDepth 20000 in
theorem gX1_sumsWithPowers_X0_clear : GoodIn wsX1_sumsWithPowers (wsV RX1 50 RX0 yX0_clear wsX0_clear) := goodIn_app (goodIn_of _ (by decide +kernel)) ggX1_sumsWithPowers_X0_clear
set_option maxRecDepth 20000 in
theorem ggX1_sumsWithPowers_X1_rootTo : GoodIn wsX1_sumsWithPowers wsX1_rootTo := goodIn_r _ [18, 19, 20, 21, 17, 22, 23, 24, 25, 26, 33, 34, 35, 36, 37, 38, 39, 40] (by decide +kernel) (by decide +kernel)
set_option maxRecDepth 20000 in
theorem gX1_sumsWithPowers_X1_rootTo : GoodIn wsX1_sumsWithPowers (wsV RX1 88 RX1 yX1_rootTo wsX1_rootTo) := goodIn_app (goodIn_of _ (by decide +kernel)) ggX1_sumsWithPowers_X1_rootTo
set_option maxRecDepth 20000 in
theorem ggX1_sumsWithPowers_X1_reduced : GoodIn wsX1_sumsWithPowers wsX1_reduced := goodIn_r _ [29, 30] (by decide +kernel) (by decide +kernel)
set_option maxRecDepth 20000 in
theorem gX1_sumsWithPowers_X1_reduced : GoodIn wsX1_sumsWithPowers (va_wsS RX1 254 yX1_reduced wsX1_reduced) := goodIn_app (goodIn_of _ (by decide +kernel)) ggX1_sumsWithPowers_X1_reduced
theorem dX1_sumsWithPowers_0 : decode cX1_sumsWithPowers 0 = .ok (.aload_n 3, 1) := by decide +kernel
theorem dX1_sumsWithPowers_1 : decode cX1_sumsWithPowers 1 = .ok (.aload_n 1, 1) := by decide +kernel
theorem dX1_sumsWithPowers_2 : decode cX1_sumsWithPowers 2 = .ok (.getfield 47, 3) := by decide +kernel
theorem dX1_sumsWithPowers_5 : decode cX1_sumsWithPowers 5 = .ok (.invokevirtual 50, 3) := by decide +kernel
theorem dX1_sumsWithPowers_8 : decode cX1_sumsWithPowers 8 = .ok (.iconst 0, 1) := by decide +kernel
theorem dX1_sumsWithPowers_9 : decode cX1_sumsWithPowers 9 = .ok (.istore 4, 2) := by decide +kernel
theorem dX1_sumsWithPowers_11 : decode cX1_sumsWithPowers 11 = .ok (.iload 4, 2) := by decide +kernel
theorem dX1_sumsWithPowers_13 : decode cX1_sumsWithPowers 13 = .ok (.aload_n 1, 1) := by decide +kernel
theorem dX1_sumsWithPowers_14 : decode cX1_sumsWithPowers 14 = .ok (.getfield 47, 3) := by decide +kernel
theorem dX1_sumsWithPowers_17 : decode cX1_sumsWithPowers 17 = .ok (.if_icmp .ge 72, 3) := by decide +kernel
theorem dX1_sumsWithPowers_20 : decode cX1_sumsWithPowers 20 = .ok (.lconst 0, 1) := by decide +kernel
theorem dX1_sumsWithPowers_21 : decode cX1_sumsWithPowers 21 = .ok (.lstore 5, 2) := by decide +kernel
theorem dX1_sumsWithPowers_23 : decode cX1_sumsWithPowers 23 = .ok (.iconst 0, 1) := by decide +kernel
theorem dX1_sumsWithPowers_24 : decode cX1_sumsWithPowers 24 = .ok (.istore 7, 2) := by decide +kernel
theorem dX1_sumsWithPowers_26 : decode cX1_sumsWithPowers 26 = .ok (.iload 7, 2) := by decide +kernel
theorem dX1_sumsWithPowers_28 : decode cX1_sumsWithPowers 28 = .ok (.aload_n 1, 1) := by decide +kernel
theorem dX1_sumsWithPowers_29 : decode cX1_sumsWithPowers 29 = .ok (.getfield 47, 3) := by decide +kernel
theorem dX1_sumsWithPowers_32 : decode cX1_sumsWithPowers 32 = .ok (.if_icmp .ge 39, 3) := by decide +kernel
theorem dX1_sumsWithPowers_35 : decode cX1_sumsWithPowers 35 = .ok (.lload 5, 2) := by decide +kernel
theorem dX1_sumsWithPowers_37 : decode cX1_sumsWithPowers 37 = .ok (.aload_n 1, 1) := by decide +kernel
theorem dX1_sumsWithPowers_38 : decode cX1_sumsWithPowers 38 = .ok (.getfield 60, 3) := by decide +kernel
theorem dX1_sumsWithPowers_41 : decode cX1_sumsWithPowers 41 = .ok (.iload 7, 2) := by decide +kernel
theorem dX1_sumsWithPowers_43 : decode cX1_sumsWithPowers 43 = .ok (.iaload, 1) := by decide +kernel
theorem dX1_sumsWithPowers_44 : decode cX1_sumsWithPowers 44 = .ok (.i2l, 1) := by decide +kernel
theorem dX1_sumsWithPowers_45 : decode cX1_sumsWithPowers 45 = .ok (.aload_n 0, 1) := by decide +kernel
theorem dX1_sumsWithPowers_46 : decode cX1_sumsWithPowers 46 = .ok (.aload_n 1, 1) := by decide +kernel
theorem dX1_sumsWithPowers_47 : decode cX1_sumsWithPowers 47 = .ok (.getfield 47, 3) := by decide +kernel
theorem dX1_sumsWithPowers_50 : decode cX1_sumsWithPowers 50 = .ok (.iload_n 2, 1) := by decide +kernel
theorem dX1_sumsWithPowers_51 : decode cX1_sumsWithPowers 51 = .ok (.iload 7, 2) := by decide +kernel
theorem dX1_sumsWithPowers_53 : decode cX1_sumsWithPowers 53 = .ok (.imul, 1) := by decide +kernel
theorem dX1_sumsWithPowers_54 : decode cX1_sumsWithPowers 54 = .ok (.iload 4, 2) := by decide +kernel
theorem dX1_sumsWithPowers_56 : decode cX1_sumsWithPowers 56 = .ok (.imul, 1) := by decide +kernel
theorem dX1_sumsWithPowers_57 : decode cX1_sumsWithPowers 57 = .ok (.invokevirtual 88, 3) := by decide +kernel
theorem dX1_sumsWithPowers_60 : decode cX1_sumsWithPowers 60 = .ok (.i2l, 1) := by decide +kernel
theorem dX1_sumsWithPowers_61 : decode cX1_sumsWithPowers 61 = .ok (.lmul, 1) := by decide +kernel
theorem dX1_sumsWithPowers_62 : decode cX1_sumsWithPowers 62 = .ok (.ladd, 1) := by decide +kernel
theorem dX1_sumsWithPowers_63 : decode cX1_sumsWithPowers 63 = .ok (.lstore 5, 2) := by decide +kernel
theorem dX1_sumsWithPowers_65 : decode cX1_sumsWithPowers 65 = .ok (.iinc 7 1, 3) := by decide +kernel
theorem dX1_sumsWithPowers_68 : decode cX1_sumsWithPowers 68 = .ok (.goto (-42), 3) := by decide +kernel
theorem dX1_sumsWithPowers_71 : decode cX1_sumsWithPowers 71 = .ok (.aload_n 3, 1) := by decide +kernel
theorem dX1_sumsWithPowers_72 : decode cX1_sumsWithPowers 72 = .ok (.getfield 60, 3) := by decide +kernel
theorem dX1_sumsWithPowers_75 : decode cX1_sumsWithPowers 75 = .ok (.iload 4, 2) := by decide +kernel
theorem dX1_sumsWithPowers_77 : decode cX1_sumsWithPowers 77 = .ok (.lload 5, 2) := by decide +kernel
theorem dX1_sumsWithPowers_79 : decode cX1_sumsWithPowers 79 = .ok (.invokestatic 254, 3) := by decide +kernel
theorem dX1_sumsWithPowers_82 : decode cX1_sumsWithPowers 82 = .ok (.iastore, 1) := by decide +kernel
theorem dX1_sumsWithPowers_83 : decode cX1_sumsWithPowers 83 = .ok (.iinc 4 1, 3) := by decide +kernel
theorem dX1_sumsWithPowers_86 : decode cX1_sumsWithPowers 86 = .ok (.goto (-75), 3) := by decide +kernel
theorem dX1_sumsWithPowers_89 : decode cX1_sumsWithPowers 89 = .ok (.return_, 1) := by decide +kernel
set_option maxRecDepth 20000 in
theorem ggX1_halvedValues_X0_take : GoodIn wsX1_halvedValues wsX0_take := goodIn_r _ [7, 8, 9, 10, 11, 12, 13, 45, 46] (by decide +kernel) (by decide +kernel)
set_option maxRecDepth 20000 in
theorem gX1_halvedValues_X0_take : GoodIn wsX1_halvedValues (wsV RX1 71 RX0 yX0_take wsX0_take) := goodIn_app (goodIn_of _ (by decide +kernel)) ggX1_halvedValues_X0_take
set_option maxRecDepth 20000 in
theorem ggX1_halvedValues_X1_joinParts : GoodIn wsX1_halvedValues wsX1_joinParts := goodIn_r _ [18, 2, 19, 20, 21, 22, 17, 23, 24, 25, 26, 27, 28, 29, 30, 31, 32, 33, 34, 35, 36, 37, 38, 39, 40, 41, 42, 43, 44, 47, 48, 49, 50, 51, 52, 53, 54, 45, 46] (by decide +kernel) (by decide +kernel)
set_option maxRecDepth 20000 in
theorem gX1_halvedValues_X1_joinParts : GoodIn wsX1_halvedValues (wsV RX1 273 RX1 yX1_joinParts wsX1_joinParts) := goodIn_app (goodIn_of _ (by decide +kernel)) ggX1_halvedValues_X1_joinParts
theorem dX1_halvedValues_0 : decode cX1_halvedValues 0 = .ok (.aload_n 2, 1) := by decide +kernel
theorem dX1_halvedValues_1 : decode cX1_halvedValues 1 = .ok (.aload_n 1, 1) := by decide +kernel
theorem dX1_halvedValues_2 : decode cX1_halvedValues 2 = .ok (.invokevirtual 71, 3) := by decide +kernel
theorem dX1_halvedValues_5 : decode cX1_halvedValues 5 = .ok (.aload_n 1, 1) := by decide +kernel
theorem dX1_halvedValues_6 : decode cX1_halvedValues 6 = .ok (.getfield 47, 3) := by decide +kernel
theorem dX1_halvedValues_9 : decode cX1_halvedValues 9 = .ok (.iconst 2, 1) := by decide +kernel
theorem dX1_halvedValues_10 : decode cX1_halvedValues 10 = .ok (.idiv, 1) := by decide +kernel
theorem dX1_halvedValues_11 : decode cX1_halvedValues 11 = .ok (.istore_n 3, 1) := by decide +kernel
theorem dX1_halvedValues_12 : decode cX1_halvedValues 12 = .ok (.iconst 1, 1) := by decide +kernel
theorem dX1_halvedValues_13 : decode cX1_halvedValues 13 = .ok (.istore 4, 2) := by decide +kernel
theorem dX1_halvedValues_15 : decode cX1_halvedValues 15 = .ok (.iload 4, 2) := by decide +kernel
theorem dX1_halvedValues_17 : decode cX1_halvedValues 17 = .ok (.aload_n 1, 1) := by decide +kernel
theorem dX1_halvedValues_18 : decode cX1_halvedValues 18 = .ok (.getfield 47, 3) := by decide +kernel
theorem dX1_halvedValues_21 : decode cX1_halvedValues 21 = .ok (.if_icmp .ge 32, 3) := by decide +kernel
theorem dX1_halvedValues_24 : decode cX1_halvedValues 24 = .ok (.aload_n 0, 1) := by decide +kernel
theorem dX1_halvedValues_25 : decode cX1_halvedValues 25 = .ok (.getfield 32, 3) := by decide +kernel
theorem dX1_halvedValues_28 : decode cX1_halvedValues 28 = .ok (.aload_n 2, 1) := by decide +kernel
theorem dX1_halvedValues_29 : decode cX1_halvedValues 29 = .ok (.invokevirtual 71, 3) := by decide +kernel
theorem dX1_halvedValues_32 : decode cX1_halvedValues 32 = .ok (.aload_n 0, 1) := by decide +kernel
theorem dX1_halvedValues_33 : decode cX1_halvedValues 33 = .ok (.iload 4, 2) := by decide +kernel
theorem dX1_halvedValues_35 : decode cX1_halvedValues 35 = .ok (.iload_n 3, 1) := by decide +kernel
theorem dX1_halvedValues_36 : decode cX1_halvedValues 36 = .ok (.aload_n 2, 1) := by decide +kernel
theorem dX1_halvedValues_37 : decode cX1_halvedValues 37 = .ok (.invokevirtual 273, 3) := by decide +kernel
theorem dX1_halvedValues_40 : decode cX1_halvedValues 40 = .ok (.iload_n 3, 1) := by decide +kernel
theorem dX1_halvedValues_41 : decode cX1_halvedValues 41 = .ok (.iconst 2, 1) := by decide +kernel
theorem dX1_halvedValues_42 : decode cX1_halvedValues 42 = .ok (.idiv, 1) := by decide +kernel
theorem dX1_halvedValues_43 : decode cX1_halvedValues 43 = .ok (.istore_n 3, 1) := by decide +kernel
theorem dX1_halvedValues_44 : decode cX1_halvedValues 44 = .ok (.iload 4, 2) := by decide +kernel
theorem dX1_halvedValues_46 : decode cX1_halvedValues 46 = .ok (.iconst 2, 1) := by decide +kernel
theorem dX1_halvedValues_47 : decode cX1_halvedValues 47 = .ok (.imul, 1) := by decide +kernel
theorem dX1_halvedValues_48 : decode cX1_halvedValues 48 = .ok (.istore 4, 2) := by decide +kernel
theorem dX1_halvedValues_50 : decode cX1_halvedValues 50 = .ok (.goto (-35), 3) := by decide +kernel
theorem dX1_halvedValues_53 : decode cX1_halvedValues 53 = .ok (.return_, 1) := by decide +kernel
set_option maxRecDepth 20000 in
theorem ggX1_joinParts_X1_rootTo : GoodIn wsX1_joinParts wsX1_rootTo := goodIn_r _ [7, 8, 9, 10, 6, 11, 12, 13, 14, 15, 29, 30, 31, 32, 33, 34, 35, 36] (by decide +kernel) (by decide +kernel)
set_option maxRecDepth 20000 in
theorem gX1_joinParts_X1_rootTo : GoodIn wsX1_joinParts (wsV RX1 88 RX1 yX1_rootTo wsX1_rootTo) := goodIn_app (goodIn_of _ (by decide +kernel)) ggX1_joinParts_X1_rootTo
set_option maxRecDepth 20000 in
theorem ggX1_joinParts_X1_multiplied : GoodIn wsX1_joinParts wsX1_multiplied := goodIn_r _ [18, 19, 20, 6, 21, 22] (by decide +kernel) (by decide +kernel)
set_option maxRecDepth 20000 in
theorem gX1_joinParts_X1_multiplied : GoodIn wsX1_joinParts (va_wsS RX1 105 yX1_multiplied wsX1_multiplied) := goodIn_app (goodIn_of _ (by decide +kernel)) ggX1_joinParts_X1_multiplied
set_option maxRecDepth 20000 in
theorem ggX1_joinParts_X1_added : GoodIn wsX1_joinParts wsX1_added := goodIn_r _ [25, 15] (by decide +kernel) (by decide +kernel)
set_option maxRecDepth 20000 in
theorem gX1_joinParts_X1_added : GoodIn wsX1_joinParts (va_wsS RX1 108 yX1_added wsX1_added) := goodIn_app (goodIn_of _ (by decide +kernel)) ggX1_joinParts_X1_added
set_option maxRecDepth 20000 in
theorem ggX1_joinParts_X1_lessened : GoodIn wsX1_joinParts wsX1_lessened := goodIn_r _ [28, 15] (by decide +kernel) (by decide +kernel)
set_option maxRecDepth 20000 in
theorem gX1_joinParts_X1_lessened : GoodIn wsX1_joinParts (va_wsS RX1 277 yX1_lessened wsX1_lessened) := goodIn_app (goodIn_of _ (by decide +kernel)) ggX1_joinParts_X1_lessened
theorem dX1_joinParts_0 : decode cX1_joinParts 0 = .ok (.iconst 0, 1) := by decide +kernel
theorem dX1_joinParts_1 : decode cX1_joinParts 1 = .ok (.istore 4, 2) := by decide +kernel
theorem dX1_joinParts_3 : decode cX1_joinParts 3 = .ok (.iload 4, 2) := by decide +kernel
theorem dX1_joinParts_5 : decode cX1_joinParts 5 = .ok (.iload_n 2, 1) := by decide +kernel
theorem dX1_joinParts_6 : decode cX1_joinParts 6 = .ok (.if_icmp .ge 116, 3) := by decide +kernel
theorem dX1_joinParts_9 : decode cX1_joinParts 9 = .ok (.iconst 0, 1) := by decide +kernel
theorem dX1_joinParts_10 : decode cX1_joinParts 10 = .ok (.istore 5, 2) := by decide +kernel
theorem dX1_joinParts_12 : decode cX1_joinParts 12 = .ok (.iload 5, 2) := by decide +kernel
theorem dX1_joinParts_14 : decode cX1_joinParts 14 = .ok (.iload_n 1, 1) := by decide +kernel
theorem dX1_joinParts_15 : decode cX1_joinParts 15 = .ok (.if_icmp .ge 101, 3) := by decide +kernel
theorem dX1_joinParts_18 : decode cX1_joinParts 18 = .ok (.aload_n 0, 1) := by decide +kernel
theorem dX1_joinParts_19 : decode cX1_joinParts 19 = .ok (.getfield 32, 3) := by decide +kernel
theorem dX1_joinParts_22 : decode cX1_joinParts 22 = .ok (.getfield 60, 3) := by decide +kernel
theorem dX1_joinParts_25 : decode cX1_joinParts 25 = .ok (.iload 4, 2) := by decide +kernel
theorem dX1_joinParts_27 : decode cX1_joinParts 27 = .ok (.iload_n 1, 1) := by decide +kernel
theorem dX1_joinParts_28 : decode cX1_joinParts 28 = .ok (.imul, 1) := by decide +kernel
theorem dX1_joinParts_29 : decode cX1_joinParts 29 = .ok (.iload 5, 2) := by decide +kernel
theorem dX1_joinParts_31 : decode cX1_joinParts 31 = .ok (.iadd, 1) := by decide +kernel
theorem dX1_joinParts_32 : decode cX1_joinParts 32 = .ok (.iaload, 1) := by decide +kernel
theorem dX1_joinParts_33 : decode cX1_joinParts 33 = .ok (.istore 6, 2) := by decide +kernel
theorem dX1_joinParts_35 : decode cX1_joinParts 35 = .ok (.aload_n 0, 1) := by decide +kernel
theorem dX1_joinParts_36 : decode cX1_joinParts 36 = .ok (.getfield 32, 3) := by decide +kernel
theorem dX1_joinParts_39 : decode cX1_joinParts 39 = .ok (.getfield 60, 3) := by decide +kernel
theorem dX1_joinParts_42 : decode cX1_joinParts 42 = .ok (.iload 4, 2) := by decide +kernel
theorem dX1_joinParts_44 : decode cX1_joinParts 44 = .ok (.iload_n 2, 1) := by decide +kernel
theorem dX1_joinParts_45 : decode cX1_joinParts 45 = .ok (.iadd, 1) := by decide +kernel
theorem dX1_joinParts_46 : decode cX1_joinParts 46 = .ok (.iload_n 1, 1) := by decide +kernel
theorem dX1_joinParts_47 : decode cX1_joinParts 47 = .ok (.imul, 1) := by decide +kernel
theorem dX1_joinParts_48 : decode cX1_joinParts 48 = .ok (.iload 5, 2) := by decide +kernel
theorem dX1_joinParts_50 : decode cX1_joinParts 50 = .ok (.iadd, 1) := by decide +kernel
theorem dX1_joinParts_51 : decode cX1_joinParts 51 = .ok (.iaload, 1) := by decide +kernel
theorem dX1_joinParts_52 : decode cX1_joinParts 52 = .ok (.aload_n 0, 1) := by decide +kernel
theorem dX1_joinParts_53 : decode cX1_joinParts 53 = .ok (.iconst 2, 1) := by decide +kernel
theorem dX1_joinParts_54 : decode cX1_joinParts 54 = .ok (.iload_n 1, 1) := by decide +kernel
theorem dX1_joinParts_55 : decode cX1_joinParts 55 = .ok (.imul, 1) := by decide +kernel
theorem dX1_joinParts_56 : decode cX1_joinParts 56 = .ok (.iload 5, 2) := by decide +kernel
theorem dX1_joinParts_58 : decode cX1_joinParts 58 = .ok (.invokevirtual 88, 3) := by decide +kernel
theorem dX1_joinParts_61 : decode cX1_joinParts 61 = .ok (.invokestatic 105, 3) := by decide +kernel
theorem dX1_joinParts_64 : decode cX1_joinParts 64 = .ok (.istore 7, 2) := by decide +kernel
theorem dX1_joinParts_66 : decode cX1_joinParts 66 = .ok (.aload_n 3, 1) := by decide +kernel
theorem dX1_joinParts_67 : decode cX1_joinParts 67 = .ok (.getfield 60, 3) := by decide +kernel
theorem dX1_joinParts_70 : decode cX1_joinParts 70 = .ok (.iconst 2, 1) := by decide +kernel
theorem dX1_joinParts_71 : decode cX1_joinParts 71 = .ok (.iload 4, 2) := by decide +kernel
theorem dX1_joinParts_73 : decode cX1_joinParts 73 = .ok (.imul, 1) := by decide +kernel
theorem dX1_joinParts_74 : decode cX1_joinParts 74 = .ok (.iload_n 1, 1) := by decide +kernel
theorem dX1_joinParts_75 : decode cX1_joinParts 75 = .ok (.imul, 1) := by decide +kernel
theorem dX1_joinParts_76 : decode cX1_joinParts 76 = .ok (.iload 5, 2) := by decide +kernel
theorem dX1_joinParts_78 : decode cX1_joinParts 78 = .ok (.iadd, 1) := by decide +kernel
theorem dX1_joinParts_79 : decode cX1_joinParts 79 = .ok (.iload 6, 2) := by decide +kernel
theorem dX1_joinParts_81 : decode cX1_joinParts 81 = .ok (.iload 7, 2) := by decide +kernel
theorem dX1_joinParts_83 : decode cX1_joinParts 83 = .ok (.invokestatic 108, 3) := by decide +kernel
theorem dX1_joinParts_86 : decode cX1_joinParts 86 = .ok (.iastore, 1) := by decide +kernel
theorem dX1_joinParts_87 : decode cX1_joinParts 87 = .ok (.aload_n 3, 1) := by decide +kernel
theorem dX1_joinParts_88 : decode cX1_joinParts 88 = .ok (.getfield 60, 3) := by decide +kernel
theorem dX1_joinParts_91 : decode cX1_joinParts 91 = .ok (.iconst 2, 1) := by decide +kernel
theorem dX1_joinParts_92 : decode cX1_joinParts 92 = .ok (.iload 4, 2) := by decide +kernel
theorem dX1_joinParts_94 : decode cX1_joinParts 94 = .ok (.imul, 1) := by decide +kernel
theorem dX1_joinParts_95 : decode cX1_joinParts 95 = .ok (.iload_n 1, 1) := by decide +kernel
theorem dX1_joinParts_96 : decode cX1_joinParts 96 = .ok (.imul, 1) := by decide +kernel
theorem dX1_joinParts_97 : decode cX1_joinParts 97 = .ok (.iload_n 1, 1) := by decide +kernel
theorem dX1_joinParts_98 : decode cX1_joinParts 98 = .ok (.iadd, 1) := by decide +kernel
theorem dX1_joinParts_99 : decode cX1_joinParts 99 = .ok (.iload 5, 2) := by decide +kernel
theorem dX1_joinParts_101 : decode cX1_joinParts 101 = .ok (.iadd, 1) := by decide +kernel
theorem dX1_joinParts_102 : decode cX1_joinParts 102 = .ok (.iload 6, 2) := by decide +kernel
theorem dX1_joinParts_104 : decode cX1_joinParts 104 = .ok (.iload 7, 2) := by decide +kernel
theorem dX1_joinParts_106 : decode cX1_joinParts 106 = .ok (.invokestatic 277, 3) := by decide +kernel
theorem dX1_joinParts_109 : decode cX1_joinParts 109 = .ok (.iastore, 1) := by decide +kernel
theorem dX1_joinParts_110 : decode cX1_joinParts 110 = .ok (.iinc 5 1, 3) := by decide +kernel
theorem dX1_joinParts_113 : decode cX1_joinParts 113 = .ok (.goto (-101), 3) := by decide +kernel
theorem dX1_joinParts_116 : decode cX1_joinParts 116 = .ok (.iinc 4 1, 3) := by decide +kernel
theorem dX1_joinParts_119 : decode cX1_joinParts 119 = .ok (.goto (-116), 3) := by decide +kernel
theorem dX1_joinParts_122 : decode cX1_joinParts 122 = .ok (.return_, 1) := by decide +kernel
set_option maxRecDepth 20000 in
theorem ggX1_productByValues_X1_halvedValues : GoodIn wsX1_productByValues wsX1_halvedValues := goodIn_r _ [8, 9, 10, 11, 12, 13, 14, 15, 16, 17, 18, 19, 20, 21, 22, 23, 24, 7, 25, 26, 27, 28, 29, 30, 31, 32, 33, 34, 35, 36, 37, 38, 39, 40, 41, 42, 43, 44, 45, 46, 47, 48, 49, 50, 51, 87, 88, 79, 80, 81, 82, 83, 84, 85, 86] (by decide +kernel) (by decide +kernel)
set_option maxRecDepth 20000 in
theorem gX1_productByValues_X1_halvedValues : GoodIn wsX1_productByValues (wsV RX1 92 RX1 yX1_halvedValues wsX1_halvedValues) := goodIn_app (goodIn_of _ (by decide +kernel)) ggX1_productByValues_X1_halvedValues
set_option maxRecDepth 20000 in
theorem ggX1_productByValues_X0_becomeProducts : GoodIn wsX1_productByValues wsX0_becomeProducts := goodIn_r _ [55, 16, 17, 40, 7, 41, 42, 43, 44, 45, 87, 88] (by decide +kernel) (by decide +kernel)
set_option maxRecDepth 20000 in
theorem gX1_productByValues_X0_becomeProducts : GoodIn wsX1_productByValues (wsV RX1 164 RX0 yX0_becomeProducts wsX0_becomeProducts) := goodIn_app (goodIn_of _ (by decide +kernel)) ggX1_productByValues_X0_becomeProducts
set_option maxRecDepth 20000 in
theorem ggX1_productByValues_X1_backRow : GoodIn wsX1_productByValues wsX1_backRow := goodIn_r _ [59, 9, 60, 61, 62, 7, 63, 26, 64, 65, 66, 14, 67, 16, 17, 68, 69, 70, 71, 27, 28, 29, 30, 31, 32, 33, 34, 35, 36, 37, 38, 42, 43, 44, 45, 72, 73, 74, 39, 40, 41, 75, 76, 77, 78, 87, 88, 79, 80, 81, 82, 83, 84, 85, 86] (by decide +kernel) (by decide +kernel)
set_option maxRecDepth 20000 in
theorem gX1_productByValues_X1_backRow : GoodIn wsX1_productByValues (wsV RX1 102 RX1 yX1_backRow wsX1_backRow) := goodIn_app (goodIn_of _ (by decide +kernel)) ggX1_productByValues_X1_backRow
theorem dX1_productByValues_0 : decode cX1_productByValues 0 = .ok (.aload_n 0, 1) := by decide +kernel
theorem dX1_productByValues_1 : decode cX1_productByValues 1 = .ok (.aload_n 1, 1) := by decide +kernel
theorem dX1_productByValues_2 : decode cX1_productByValues 2 = .ok (.aload_n 0, 1) := by decide +kernel
theorem dX1_productByValues_3 : decode cX1_productByValues 3 = .ok (.getfield 16, 3) := by decide +kernel
theorem dX1_productByValues_6 : decode cX1_productByValues 6 = .ok (.invokevirtual 92, 3) := by decide +kernel
theorem dX1_productByValues_9 : decode cX1_productByValues 9 = .ok (.aload_n 0, 1) := by decide +kernel
theorem dX1_productByValues_10 : decode cX1_productByValues 10 = .ok (.aload_n 2, 1) := by decide +kernel
theorem dX1_productByValues_11 : decode cX1_productByValues 11 = .ok (.aload_n 0, 1) := by decide +kernel
theorem dX1_productByValues_12 : decode cX1_productByValues 12 = .ok (.getfield 20, 3) := by decide +kernel
theorem dX1_productByValues_15 : decode cX1_productByValues 15 = .ok (.invokevirtual 92, 3) := by decide +kernel
theorem dX1_productByValues_18 : decode cX1_productByValues 18 = .ok (.aload_n 0, 1) := by decide +kernel
theorem dX1_productByValues_19 : decode cX1_productByValues 19 = .ok (.getfield 23, 3) := by decide +kernel
theorem dX1_productByValues_22 : decode cX1_productByValues 22 = .ok (.aload_n 0, 1) := by decide +kernel
theorem dX1_productByValues_23 : decode cX1_productByValues 23 = .ok (.getfield 16, 3) := by decide +kernel
theorem dX1_productByValues_26 : decode cX1_productByValues 26 = .ok (.aload_n 0, 1) := by decide +kernel
theorem dX1_productByValues_27 : decode cX1_productByValues 27 = .ok (.getfield 20, 3) := by decide +kernel
theorem dX1_productByValues_30 : decode cX1_productByValues 30 = .ok (.invokevirtual 164, 3) := by decide +kernel
theorem dX1_productByValues_33 : decode cX1_productByValues 33 = .ok (.aload_n 0, 1) := by decide +kernel
theorem dX1_productByValues_34 : decode cX1_productByValues 34 = .ok (.aload_n 0, 1) := by decide +kernel
theorem dX1_productByValues_35 : decode cX1_productByValues 35 = .ok (.getfield 23, 3) := by decide +kernel
theorem dX1_productByValues_38 : decode cX1_productByValues 38 = .ok (.aload_n 3, 1) := by decide +kernel
theorem dX1_productByValues_39 : decode cX1_productByValues 39 = .ok (.invokevirtual 102, 3) := by decide +kernel
theorem dX1_productByValues_42 : decode cX1_productByValues 42 = .ok (.return_, 1) := by decide +kernel
set_option maxRecDepth 20000 in
theorem ggX1_inverseByValues_X0_clear : GoodIn wsX1_inverseByValues wsX0_clear := goodIn_r _ [8, 9, 10, 11, 12, 13, 14, 58, 59] (by decide +kernel) (by decide +kernel)
set_option maxRecDepth 20000 in
theorem gX1_inverseByValues_X0_clear : GoodIn wsX1_inverseByValues (wsV RX1 50 RX0 yX0_clear wsX0_clear) := goodIn_app (goodIn_of _ (by decide +kernel)) ggX1_inverseByValues_X0_clear
set_option maxRecDepth 20000 in
theorem ggX1_inverseByValues_X1_inverseOf : GoodIn wsX1_inverseByValues wsX1_inverseOf := goodIn_r _ [18, 19, 20, 17, 21, 22, 23, 24, 25] (by decide +kernel) (by decide +kernel)
set_option maxRecDepth 20000 in
theorem gX1_inverseByValues_X1_inverseOf : GoodIn wsX1_inverseByValues (va_wsS RX1 270 yX1_inverseOf wsX1_inverseOf) := goodIn_app (goodIn_of _ (by decide +kernel)) ggX1_inverseByValues_X1_inverseOf
set_option maxRecDepth 20000 in
theorem ggX1_inverseByValues_X1_backRow : GoodIn wsX1_inverseByValues wsX1_backRow := goodIn_r _ [29, 2, 30, 31, 32, 17, 33, 3, 4, 5, 6, 7, 8, 9, 10, 11, 12, 13, 14, 34, 35, 36, 37, 38, 39, 40, 41, 42, 43, 44, 45, 22, 23, 24, 25, 15, 16, 18, 19, 20, 21, 46, 47, 48, 49, 58, 59, 50, 51, 52, 53, 54, 55, 56, 57] (by decide +kernel) (by decide +kernel)
set_option maxRecDepth 20000 in
theorem gX1_inverseByValues_X1_backRow : GoodIn wsX1_inverseByValues (wsV RX1 102 RX1 yX1_backRow wsX1_backRow) := goodIn_app (goodIn_of _ (by decide +kernel)) ggX1_inverseByValues_X1_backRow
theorem dX1_inverseByValues_0 : decode cX1_inverseByValues 0 = .ok (.aload_n 0, 1) := by decide +kernel
theorem dX1_inverseByValues_1 : decode cX1_inverseByValues 1 = .ok (.getfield 23, 3) := by decide +kernel
theorem dX1_inverseByValues_4 : decode cX1_inverseByValues 4 = .ok (.aload_n 1, 1) := by decide +kernel
theorem dX1_inverseByValues_5 : decode cX1_inverseByValues 5 = .ok (.getfield 47, 3) := by decide +kernel
theorem dX1_inverseByValues_8 : decode cX1_inverseByValues 8 = .ok (.invokevirtual 50, 3) := by decide +kernel
theorem dX1_inverseByValues_11 : decode cX1_inverseByValues 11 = .ok (.iconst 0, 1) := by decide +kernel
theorem dX1_inverseByValues_12 : decode cX1_inverseByValues 12 = .ok (.istore_n 3, 1) := by decide +kernel
theorem dX1_inverseByValues_13 : decode cX1_inverseByValues 13 = .ok (.iload_n 3, 1) := by decide +kernel
theorem dX1_inverseByValues_14 : decode cX1_inverseByValues 14 = .ok (.aload_n 1, 1) := by decide +kernel
theorem dX1_inverseByValues_15 : decode cX1_inverseByValues 15 = .ok (.getfield 47, 3) := by decide +kernel
theorem dX1_inverseByValues_18 : decode cX1_inverseByValues 18 = .ok (.if_icmp .ge 27, 3) := by decide +kernel
theorem dX1_inverseByValues_21 : decode cX1_inverseByValues 21 = .ok (.aload_n 0, 1) := by decide +kernel
theorem dX1_inverseByValues_22 : decode cX1_inverseByValues 22 = .ok (.getfield 23, 3) := by decide +kernel
theorem dX1_inverseByValues_25 : decode cX1_inverseByValues 25 = .ok (.getfield 60, 3) := by decide +kernel
theorem dX1_inverseByValues_28 : decode cX1_inverseByValues 28 = .ok (.iload_n 3, 1) := by decide +kernel
theorem dX1_inverseByValues_29 : decode cX1_inverseByValues 29 = .ok (.aload_n 1, 1) := by decide +kernel
theorem dX1_inverseByValues_30 : decode cX1_inverseByValues 30 = .ok (.getfield 60, 3) := by decide +kernel
theorem dX1_inverseByValues_33 : decode cX1_inverseByValues 33 = .ok (.iload_n 3, 1) := by decide +kernel
theorem dX1_inverseByValues_34 : decode cX1_inverseByValues 34 = .ok (.iaload, 1) := by decide +kernel
theorem dX1_inverseByValues_35 : decode cX1_inverseByValues 35 = .ok (.invokestatic 270, 3) := by decide +kernel
theorem dX1_inverseByValues_38 : decode cX1_inverseByValues 38 = .ok (.iastore, 1) := by decide +kernel
theorem dX1_inverseByValues_39 : decode cX1_inverseByValues 39 = .ok (.iinc 3 1, 3) := by decide +kernel
theorem dX1_inverseByValues_42 : decode cX1_inverseByValues 42 = .ok (.goto (-29), 3) := by decide +kernel
theorem dX1_inverseByValues_45 : decode cX1_inverseByValues 45 = .ok (.aload_n 0, 1) := by decide +kernel
theorem dX1_inverseByValues_46 : decode cX1_inverseByValues 46 = .ok (.aload_n 0, 1) := by decide +kernel
theorem dX1_inverseByValues_47 : decode cX1_inverseByValues 47 = .ok (.getfield 23, 3) := by decide +kernel
theorem dX1_inverseByValues_50 : decode cX1_inverseByValues 50 = .ok (.aload_n 2, 1) := by decide +kernel
theorem dX1_inverseByValues_51 : decode cX1_inverseByValues 51 = .ok (.invokevirtual 102, 3) := by decide +kernel
theorem dX1_inverseByValues_54 : decode cX1_inverseByValues 54 = .ok (.return_, 1) := by decide +kernel
set_option maxRecDepth 20000 in
theorem ggX1_weighedRow_X0_clear : GoodIn wsX1_weighedRow wsX0_clear := goodIn_r _ [7, 8, 9, 10, 11, 12, 13, 34, 35] (by decide +kernel) (by decide +kernel)
set_option maxRecDepth 20000 in
theorem gX1_weighedRow_X0_clear : GoodIn wsX1_weighedRow (wsV RX1 50 RX0 yX0_clear wsX0_clear) := goodIn_app (goodIn_of _ (by decide +kernel)) ggX1_weighedRow_X0_clear
set_option maxRecDepth 20000 in
theorem ggX1_weighedRow_X1_rootTo : GoodIn wsX1_weighedRow wsX1_rootTo := goodIn_r _ [18, 19, 20, 21, 17, 22, 23, 24, 25, 26, 36, 37, 38, 39, 40, 41, 42, 43] (by decide +kernel) (by decide +kernel)
set_option maxRecDepth 20000 in
theorem gX1_weighedRow_X1_rootTo : GoodIn wsX1_weighedRow (wsV RX1 88 RX1 yX1_rootTo wsX1_rootTo) := goodIn_app (goodIn_of _ (by decide +kernel)) ggX1_weighedRow_X1_rootTo
set_option maxRecDepth 20000 in
theorem ggX1_weighedRow_X1_multiplied : GoodIn wsX1_weighedRow wsX1_multiplied := goodIn_r _ [29, 30, 31, 17, 32, 33] (by decide +kernel) (by decide +kernel)
set_option maxRecDepth 20000 in
theorem gX1_weighedRow_X1_multiplied : GoodIn wsX1_weighedRow (va_wsS RX1 105 yX1_multiplied wsX1_multiplied) := goodIn_app (goodIn_of _ (by decide +kernel)) ggX1_weighedRow_X1_multiplied
theorem dX1_weighedRow_0 : decode cX1_weighedRow 0 = .ok (.aload_n 3, 1) := by decide +kernel
theorem dX1_weighedRow_1 : decode cX1_weighedRow 1 = .ok (.aload_n 1, 1) := by decide +kernel
theorem dX1_weighedRow_2 : decode cX1_weighedRow 2 = .ok (.getfield 47, 3) := by decide +kernel
theorem dX1_weighedRow_5 : decode cX1_weighedRow 5 = .ok (.invokevirtual 50, 3) := by decide +kernel
theorem dX1_weighedRow_8 : decode cX1_weighedRow 8 = .ok (.iconst 0, 1) := by decide +kernel
theorem dX1_weighedRow_9 : decode cX1_weighedRow 9 = .ok (.istore 4, 2) := by decide +kernel
theorem dX1_weighedRow_11 : decode cX1_weighedRow 11 = .ok (.iload 4, 2) := by decide +kernel
theorem dX1_weighedRow_13 : decode cX1_weighedRow 13 = .ok (.aload_n 1, 1) := by decide +kernel
theorem dX1_weighedRow_14 : decode cX1_weighedRow 14 = .ok (.getfield 47, 3) := by decide +kernel
theorem dX1_weighedRow_17 : decode cX1_weighedRow 17 = .ok (.if_icmp .ge 38, 3) := by decide +kernel
theorem dX1_weighedRow_20 : decode cX1_weighedRow 20 = .ok (.aload_n 3, 1) := by decide +kernel
theorem dX1_weighedRow_21 : decode cX1_weighedRow 21 = .ok (.getfield 60, 3) := by decide +kernel
theorem dX1_weighedRow_24 : decode cX1_weighedRow 24 = .ok (.iload 4, 2) := by decide +kernel
theorem dX1_weighedRow_26 : decode cX1_weighedRow 26 = .ok (.aload_n 1, 1) := by decide +kernel
theorem dX1_weighedRow_27 : decode cX1_weighedRow 27 = .ok (.getfield 60, 3) := by decide +kernel
theorem dX1_weighedRow_30 : decode cX1_weighedRow 30 = .ok (.iload 4, 2) := by decide +kernel
theorem dX1_weighedRow_32 : decode cX1_weighedRow 32 = .ok (.iaload, 1) := by decide +kernel
theorem dX1_weighedRow_33 : decode cX1_weighedRow 33 = .ok (.aload_n 0, 1) := by decide +kernel
theorem dX1_weighedRow_34 : decode cX1_weighedRow 34 = .ok (.aload_n 1, 1) := by decide +kernel
theorem dX1_weighedRow_35 : decode cX1_weighedRow 35 = .ok (.getfield 47, 3) := by decide +kernel
theorem dX1_weighedRow_38 : decode cX1_weighedRow 38 = .ok (.iload_n 2, 1) := by decide +kernel
theorem dX1_weighedRow_39 : decode cX1_weighedRow 39 = .ok (.iload 4, 2) := by decide +kernel
theorem dX1_weighedRow_41 : decode cX1_weighedRow 41 = .ok (.imul, 1) := by decide +kernel
theorem dX1_weighedRow_42 : decode cX1_weighedRow 42 = .ok (.invokevirtual 88, 3) := by decide +kernel
theorem dX1_weighedRow_45 : decode cX1_weighedRow 45 = .ok (.invokestatic 105, 3) := by decide +kernel
theorem dX1_weighedRow_48 : decode cX1_weighedRow 48 = .ok (.iastore, 1) := by decide +kernel
theorem dX1_weighedRow_49 : decode cX1_weighedRow 49 = .ok (.iinc 4 1, 3) := by decide +kernel
theorem dX1_weighedRow_52 : decode cX1_weighedRow 52 = .ok (.goto (-41), 3) := by decide +kernel
theorem dX1_weighedRow_55 : decode cX1_weighedRow 55 = .ok (.return_, 1) := by decide +kernel
set_option maxRecDepth 20000 in
theorem ggX1_ownRow_X0_becomeTurned : GoodIn wsX1_ownRow wsX0_becomeTurned := goodIn_r _ [7, 8, 9, 10, 11, 12, 6, 13, 14, 15, 16, 17, 18, 19, 20, 21, 72, 73] (by decide +kernel) (by decide +kernel)
set_option maxRecDepth 20000 in
theorem gX1_ownRow_X0_becomeTurned : GoodIn wsX1_ownRow (wsV RX1 153 RX0 yX0_becomeTurned wsX0_becomeTurned) := goodIn_app (goodIn_of _ (by decide +kernel)) ggX1_ownRow_X0_becomeTurned
set_option maxRecDepth 20000 in
theorem ggX1_ownRow_X0_becomeSums : GoodIn wsX1_ownRow wsX0_becomeSums := goodIn_r _ [25, 8, 9, 26, 27, 28, 29, 72, 73] (by decide +kernel) (by decide +kernel)
set_option maxRecDepth 20000 in
theorem gX1_ownRow_X0_becomeSums : GoodIn wsX1_ownRow (wsV RX1 158 RX0 yX0_becomeSums wsX0_becomeSums) := goodIn_app (goodIn_of _ (by decide +kernel)) ggX1_ownRow_X0_becomeSums
set_option maxRecDepth 20000 in
theorem ggX1_ownRow_X1_plainValues : GoodIn wsX1_ownRow wsX1_plainValues := goodIn_r _ [33, 34, 35, 36, 27, 37, 2, 38, 39, 11, 12, 6, 13, 8, 9, 14, 15, 16, 17, 40, 41, 42, 43, 44, 45, 46, 47, 48, 49, 50, 29, 51, 52, 53, 54, 72, 73, 64, 65, 66, 67, 68, 69, 70, 71] (by decide +kernel) (by decide +kernel)
set_option maxRecDepth 20000 in
theorem gX1_ownRow_X1_plainValues : GoodIn wsX1_ownRow (wsV RX1 96 RX1 yX1_plainValues wsX1_plainValues) := goodIn_app (goodIn_of _ (by decide +kernel)) ggX1_ownRow_X1_plainValues
set_option maxRecDepth 20000 in
theorem ggX1_ownRow_X1_ownScale : GoodIn wsX1_ownRow wsX1_ownScale := goodIn_r _ [57] (by decide +kernel) (by decide +kernel)
set_option maxRecDepth 20000 in
theorem gX1_ownRow_X1_ownScale : GoodIn wsX1_ownRow (va_wsS RX1 280 yX1_ownScale wsX1_ownScale) := goodIn_app (goodIn_of _ (by decide +kernel)) ggX1_ownRow_X1_ownScale
set_option maxRecDepth 20000 in
theorem ggX1_ownRow_X0_becomeScaled : GoodIn wsX1_ownRow wsX0_becomeScaled := goodIn_r _ [61, 8, 9, 62, 27, 63, 51, 52, 53, 54, 72, 73] (by decide +kernel) (by decide +kernel)
set_option maxRecDepth 20000 in
theorem gX1_ownRow_X0_becomeScaled : GoodIn wsX1_ownRow (wsV RX1 167 RX0 yX0_becomeScaled wsX0_becomeScaled) := goodIn_app (goodIn_of _ (by decide +kernel)) ggX1_ownRow_X0_becomeScaled
theorem dX1_ownRow_0 : decode cX1_ownRow 0 = .ok (.aload_n 0, 1) := by decide +kernel
theorem dX1_ownRow_1 : decode cX1_ownRow 1 = .ok (.getfield 23, 3) := by decide +kernel
theorem dX1_ownRow_4 : decode cX1_ownRow 4 = .ok (.aload_n 1, 1) := by decide +kernel
theorem dX1_ownRow_5 : decode cX1_ownRow 5 = .ok (.invokevirtual 153, 3) := by decide +kernel
theorem dX1_ownRow_8 : decode cX1_ownRow 8 = .ok (.aload_n 0, 1) := by decide +kernel
theorem dX1_ownRow_9 : decode cX1_ownRow 9 = .ok (.getfield 23, 3) := by decide +kernel
theorem dX1_ownRow_12 : decode cX1_ownRow 12 = .ok (.aload_n 1, 1) := by decide +kernel
theorem dX1_ownRow_13 : decode cX1_ownRow 13 = .ok (.aload_n 0, 1) := by decide +kernel
theorem dX1_ownRow_14 : decode cX1_ownRow 14 = .ok (.getfield 23, 3) := by decide +kernel
theorem dX1_ownRow_17 : decode cX1_ownRow 17 = .ok (.invokevirtual 158, 3) := by decide +kernel
theorem dX1_ownRow_20 : decode cX1_ownRow 20 = .ok (.aload_n 0, 1) := by decide +kernel
theorem dX1_ownRow_21 : decode cX1_ownRow 21 = .ok (.aload_n 0, 1) := by decide +kernel
theorem dX1_ownRow_22 : decode cX1_ownRow 22 = .ok (.getfield 23, 3) := by decide +kernel
theorem dX1_ownRow_25 : decode cX1_ownRow 25 = .ok (.aload_n 2, 1) := by decide +kernel
theorem dX1_ownRow_26 : decode cX1_ownRow 26 = .ok (.invokevirtual 96, 3) := by decide +kernel
theorem dX1_ownRow_29 : decode cX1_ownRow 29 = .ok (.aload_n 0, 1) := by decide +kernel
theorem dX1_ownRow_30 : decode cX1_ownRow 30 = .ok (.getfield 23, 3) := by decide +kernel
theorem dX1_ownRow_33 : decode cX1_ownRow 33 = .ok (.aload_n 0, 1) := by decide +kernel
theorem dX1_ownRow_34 : decode cX1_ownRow 34 = .ok (.getfield 23, 3) := by decide +kernel
theorem dX1_ownRow_37 : decode cX1_ownRow 37 = .ok (.aload_n 1, 1) := by decide +kernel
theorem dX1_ownRow_38 : decode cX1_ownRow 38 = .ok (.getfield 47, 3) := by decide +kernel
theorem dX1_ownRow_41 : decode cX1_ownRow 41 = .ok (.invokestatic 280, 3) := by decide +kernel
theorem dX1_ownRow_44 : decode cX1_ownRow 44 = .ok (.invokevirtual 167, 3) := by decide +kernel
theorem dX1_ownRow_47 : decode cX1_ownRow 47 = .ok (.aload_n 2, 1) := by decide +kernel
theorem dX1_ownRow_48 : decode cX1_ownRow 48 = .ok (.aload_n 2, 1) := by decide +kernel
theorem dX1_ownRow_49 : decode cX1_ownRow 49 = .ok (.aload_n 0, 1) := by decide +kernel
theorem dX1_ownRow_50 : decode cX1_ownRow 50 = .ok (.getfield 23, 3) := by decide +kernel
theorem dX1_ownRow_53 : decode cX1_ownRow 53 = .ok (.invokevirtual 158, 3) := by decide +kernel
theorem dX1_ownRow_56 : decode cX1_ownRow 56 = .ok (.return_, 1) := by decide +kernel
theorem dX1_ownScale_0 : decode cX1_ownScale 0 = .ok (.iload_n 0, 1) := by decide +kernel
theorem dX1_ownScale_1 : decode cX1_ownScale 1 = .ok (.lookupswitch 45 #[(2, 35), (4, 39), (8, 41)], 35) := by decide +kernel
theorem dX1_ownScale_36 : decode cX1_ownScale 36 = .ok (.sipush 4080, 3) := by decide +kernel
theorem dX1_ownScale_39 : decode cX1_ownScale 39 = .ok (.ireturn, 1) := by decide +kernel
theorem dX1_ownScale_40 : decode cX1_ownScale 40 = .ok (.iconst 2, 1) := by decide +kernel
theorem dX1_ownScale_41 : decode cX1_ownScale 41 = .ok (.ireturn, 1) := by decide +kernel
theorem dX1_ownScale_42 : decode cX1_ownScale 42 = .ok (.sipush 8160, 3) := by decide +kernel
theorem dX1_ownScale_45 : decode cX1_ownScale 45 = .ok (.ireturn, 1) := by decide +kernel
theorem dX1_ownScale_46 : decode cX1_ownScale 46 = .ok (.iconst 4, 1) := by decide +kernel
theorem dX1_ownScale_47 : decode cX1_ownScale 47 = .ok (.ireturn, 1) := by decide +kernel
set_option maxRecDepth 20000 in
theorem ggX1_onlyFactor_X1_inverseOf : GoodIn wsX1_onlyFactor wsX1_inverseOf := goodIn_r _ [6, 7, 8, 5, 9, 10, 11, 12, 13] (by decide +kernel) (by decide +kernel)
set_option maxRecDepth 20000 in
theorem gX1_onlyFactor_X1_inverseOf : GoodIn wsX1_onlyFactor (va_wsS RX1 270 yX1_inverseOf wsX1_inverseOf) := goodIn_app (goodIn_of _ (by decide +kernel)) ggX1_onlyFactor_X1_inverseOf
set_option maxRecDepth 20000 in
theorem ggX1_onlyFactor_X1_multiplied : GoodIn wsX1_onlyFactor wsX1_multiplied := goodIn_r _ [9, 10, 11, 5, 12, 13] (by decide +kernel) (by decide +kernel)
set_option maxRecDepth 20000 in
theorem gX1_onlyFactor_X1_multiplied : GoodIn wsX1_onlyFactor (va_wsS RX1 105 yX1_multiplied wsX1_multiplied) := goodIn_app (goodIn_of _ (by decide +kernel)) ggX1_onlyFactor_X1_multiplied
theorem dX1_onlyFactor_0 : decode cX1_onlyFactor 0 = .ok (.iconst 0, 1) := by decide +kernel
theorem dX1_onlyFactor_1 : decode cX1_onlyFactor 1 = .ok (.istore_n 2, 1) := by decide +kernel
theorem dX1_onlyFactor_2 : decode cX1_onlyFactor 2 = .ok (.iload_n 2, 1) := by decide +kernel
theorem dX1_onlyFactor_3 : decode cX1_onlyFactor 3 = .ok (.aload_n 0, 1) := by decide +kernel
theorem dX1_onlyFactor_4 : decode cX1_onlyFactor 4 = .ok (.getfield 47, 3) := by decide +kernel
theorem dX1_onlyFactor_7 : decode cX1_onlyFactor 7 = .ok (.if_icmp .ge 37, 3) := by decide +kernel
theorem dX1_onlyFactor_10 : decode cX1_onlyFactor 10 = .ok (.aload_n 0, 1) := by decide +kernel
theorem dX1_onlyFactor_11 : decode cX1_onlyFactor 11 = .ok (.getfield 60, 3) := by decide +kernel
theorem dX1_onlyFactor_14 : decode cX1_onlyFactor 14 = .ok (.iload_n 2, 1) := by decide +kernel
theorem dX1_onlyFactor_15 : decode cX1_onlyFactor 15 = .ok (.iaload, 1) := by decide +kernel
theorem dX1_onlyFactor_16 : decode cX1_onlyFactor 16 = .ok (.ifCond .eq 22, 3) := by decide +kernel
theorem dX1_onlyFactor_19 : decode cX1_onlyFactor 19 = .ok (.aload_n 1, 1) := by decide +kernel
theorem dX1_onlyFactor_20 : decode cX1_onlyFactor 20 = .ok (.getfield 60, 3) := by decide +kernel
theorem dX1_onlyFactor_23 : decode cX1_onlyFactor 23 = .ok (.iload_n 2, 1) := by decide +kernel
theorem dX1_onlyFactor_24 : decode cX1_onlyFactor 24 = .ok (.iaload, 1) := by decide +kernel
theorem dX1_onlyFactor_25 : decode cX1_onlyFactor 25 = .ok (.aload_n 0, 1) := by decide +kernel
theorem dX1_onlyFactor_26 : decode cX1_onlyFactor 26 = .ok (.getfield 60, 3) := by decide +kernel
theorem dX1_onlyFactor_29 : decode cX1_onlyFactor 29 = .ok (.iload_n 2, 1) := by decide +kernel
theorem dX1_onlyFactor_30 : decode cX1_onlyFactor 30 = .ok (.iaload, 1) := by decide +kernel
theorem dX1_onlyFactor_31 : decode cX1_onlyFactor 31 = .ok (.invokestatic 270, 3) := by decide +kernel
theorem dX1_onlyFactor_34 : decode cX1_onlyFactor 34 = .ok (.invokestatic 105, 3) := by decide +kernel
theorem dX1_onlyFactor_37 : decode cX1_onlyFactor 37 = .ok (.ireturn, 1) := by decide +kernel
theorem dX1_onlyFactor_38 : decode cX1_onlyFactor 38 = .ok (.iinc 2 1, 3) := by decide +kernel
theorem dX1_onlyFactor_41 : decode cX1_onlyFactor 41 = .ok (.goto (-39), 3) := by decide +kernel
theorem dX1_onlyFactor_44 : decode cX1_onlyFactor 44 = .ok (.iconst 0, 1) := by decide +kernel
theorem dX1_onlyFactor_45 : decode cX1_onlyFactor 45 = .ok (.ireturn, 1) := by decide +kernel
set_option maxRecDepth 20000 in
theorem ggX1_zerosAsNow_X0_take : GoodIn wsX1_zerosAsNow wsX0_take := goodIn_r _ [5, 6, 7, 8, 9, 10, 11, 16, 17] (by decide +kernel) (by decide +kernel)
set_option maxRecDepth 20000 in
theorem gX1_zerosAsNow_X0_take : GoodIn wsX1_zerosAsNow (wsV RX1 71 RX0 yX0_take wsX0_take) := goodIn_app (goodIn_of _ (by decide +kernel)) ggX1_zerosAsNow_X0_take
set_option maxRecDepth 20000 in
theorem ggX1_zerosAsNow_X0_countZeros : GoodIn wsX1_zerosAsNow wsX0_countZeros := goodIn_r _ [15, 6, 7, 16, 17] (by decide +kernel) (by decide +kernel)
set_option maxRecDepth 20000 in
theorem gX1_zerosAsNow_X0_countZeros : GoodIn wsX1_zerosAsNow (wsV RX1 127 RX0 yX0_countZeros wsX0_countZeros) := goodIn_app (goodIn_of _ (by decide +kernel)) ggX1_zerosAsNow_X0_countZeros
theorem dX1_zerosAsNow_0 : decode cX1_zerosAsNow 0 = .ok (.aload_n 0, 1) := by decide +kernel
theorem dX1_zerosAsNow_1 : decode cX1_zerosAsNow 1 = .ok (.aload_n 1, 1) := by decide +kernel
theorem dX1_zerosAsNow_2 : decode cX1_zerosAsNow 2 = .ok (.invokevirtual 71, 3) := by decide +kernel
theorem dX1_zerosAsNow_5 : decode cX1_zerosAsNow 5 = .ok (.aload_n 0, 1) := by decide +kernel
theorem dX1_zerosAsNow_6 : decode cX1_zerosAsNow 6 = .ok (.invokevirtual 127, 3) := by decide +kernel
theorem dX1_zerosAsNow_9 : decode cX1_zerosAsNow 9 = .ok (.ireturn, 1) := by decide +kernel
set_option maxRecDepth 20000 in
theorem ggX1_changed_X0_take : GoodIn wsX1_changed wsX0_take := goodIn_r _ [7, 8, 9, 10, 11, 12, 13, 14, 15] (by decide +kernel) (by decide +kernel)
set_option maxRecDepth 20000 in
theorem gX1_changed_X0_take : GoodIn wsX1_changed (wsV RX1 71 RX0 yX0_take wsX0_take) := goodIn_app (goodIn_of _ (by decide +kernel)) ggX1_changed_X0_take
theorem dX1_changed_0 : decode cX1_changed 0 = .ok (.iconst 0, 1) := by decide +kernel
theorem dX1_changed_1 : decode cX1_changed 1 = .ok (.istore_n 2, 1) := by decide +kernel
theorem dX1_changed_2 : decode cX1_changed 2 = .ok (.iconst 0, 1) := by decide +kernel
theorem dX1_changed_3 : decode cX1_changed 3 = .ok (.istore_n 3, 1) := by decide +kernel
theorem dX1_changed_4 : decode cX1_changed 4 = .ok (.iload_n 3, 1) := by decide +kernel
theorem dX1_changed_5 : decode cX1_changed 5 = .ok (.aload_n 1, 1) := by decide +kernel
theorem dX1_changed_6 : decode cX1_changed 6 = .ok (.getfield 47, 3) := by decide +kernel
theorem dX1_changed_9 : decode cX1_changed 9 = .ok (.if_icmp .ge 27, 3) := by decide +kernel
theorem dX1_changed_12 : decode cX1_changed 12 = .ok (.aload_n 0, 1) := by decide +kernel
theorem dX1_changed_13 : decode cX1_changed 13 = .ok (.getfield 60, 3) := by decide +kernel
theorem dX1_changed_16 : decode cX1_changed 16 = .ok (.iload_n 3, 1) := by decide +kernel
theorem dX1_changed_17 : decode cX1_changed 17 = .ok (.iaload, 1) := by decide +kernel
theorem dX1_changed_18 : decode cX1_changed 18 = .ok (.aload_n 1, 1) := by decide +kernel
theorem dX1_changed_19 : decode cX1_changed 19 = .ok (.getfield 60, 3) := by decide +kernel
theorem dX1_changed_22 : decode cX1_changed 22 = .ok (.iload_n 3, 1) := by decide +kernel
theorem dX1_changed_23 : decode cX1_changed 23 = .ok (.iaload, 1) := by decide +kernel
theorem dX1_changed_24 : decode cX1_changed 24 = .ok (.if_icmp .eq 6, 3) := by decide +kernel
theorem dX1_changed_27 : decode cX1_changed 27 = .ok (.iinc 2 1, 3) := by decide +kernel
theorem dX1_changed_30 : decode cX1_changed 30 = .ok (.iinc 3 1, 3) := by decide +kernel
theorem dX1_changed_33 : decode cX1_changed 33 = .ok (.goto (-29), 3) := by decide +kernel
theorem dX1_changed_36 : decode cX1_changed 36 = .ok (.aload_n 0, 1) := by decide +kernel
theorem dX1_changed_37 : decode cX1_changed 37 = .ok (.aload_n 1, 1) := by decide +kernel
theorem dX1_changed_38 : decode cX1_changed 38 = .ok (.invokevirtual 71, 3) := by decide +kernel
theorem dX1_changed_41 : decode cX1_changed 41 = .ok (.iload_n 2, 1) := by decide +kernel
theorem dX1_changed_42 : decode cX1_changed 42 = .ok (.ireturn, 1) := by decide +kernel
set_option maxRecDepth 20000 in
theorem ggX1_holdsOneToThree_X1_holdsHalving : GoodIn wsX1_holdsOneToThree wsX1_holdsHalving := goodIn_r _ [5, 6, 7, 8, 9, 10, 11, 12, 13, 14, 15, 16, 17, 18, 19, 20, 21, 22, 23, 24, 25, 26, 27, 28, 29, 30, 4, 31, 32, 33, 34, 35, 36, 37, 38, 39, 40, 41, 42, 43, 44, 45, 46, 47, 48, 49, 50, 51, 52, 53, 54, 55, 56, 57, 58, 59, 60, 61, 93, 94, 95, 96, 97, 98, 99, 100, 101, 102] (by decide +kernel) (by decide +kernel)
set_option maxRecDepth 20000 in
theorem gX1_holdsOneToThree_X1_holdsHalving : GoodIn wsX1_holdsOneToThree (wsV RX1 283 RX1 yX1_holdsHalving wsX1_holdsHalving) := goodIn_app (goodIn_of _ (by decide +kernel)) ggX1_holdsOneToThree_X1_holdsHalving
set_option maxRecDepth 20000 in
theorem ggX1_holdsOneToThree_X1_holdsBack : GoodIn wsX1_holdsOneToThree wsX1_holdsBack := goodIn_r _ [65, 7, 11, 8, 10, 28, 29, 30, 4, 31, 32, 33, 34, 35, 6, 12, 36, 21, 22, 16, 23, 18, 19, 24, 25, 26, 27, 37, 38, 39, 40, 41, 42, 43, 44, 45, 46, 47, 48, 49, 50, 51, 52, 66, 67, 68, 69, 70, 71, 72, 53, 54, 55, 73, 74, 75, 76, 77, 78, 79, 80, 95, 96, 97, 98, 99, 100, 101, 102, 93, 94] (by decide +kernel) (by decide +kernel)
set_option maxRecDepth 20000 in
theorem gX1_holdsOneToThree_X1_holdsBack : GoodIn wsX1_holdsOneToThree (wsV RX1 286 RX1 yX1_holdsBack wsX1_holdsBack) := goodIn_app (goodIn_of _ (by decide +kernel)) ggX1_holdsOneToThree_X1_holdsBack
set_option maxRecDepth 20000 in
theorem ggX1_holdsOneToThree_X1_holdsTwice : GoodIn wsX1_holdsOneToThree wsX1_holdsTwice := goodIn_r _ [84, 7, 11, 10, 6, 28, 29, 30, 4, 31, 32, 33, 34, 35, 12, 36, 21, 22, 16, 23, 18, 19, 24, 25, 26, 27, 37, 38, 39, 40, 41, 42, 43, 44, 45, 46, 47, 48, 49, 50, 51, 52, 85, 86, 87, 88, 20, 89, 90, 91, 92, 73, 74, 75, 76, 54, 55, 77, 78, 79, 80, 95, 96, 97, 98, 99, 100, 101, 102, 93, 94] (by decide +kernel) (by decide +kernel)
set_option maxRecDepth 20000 in
theorem gX1_holdsOneToThree_X1_holdsTwice : GoodIn wsX1_holdsOneToThree (wsV RX1 289 RX1 yX1_holdsTwice wsX1_holdsTwice) := goodIn_app (goodIn_of _ (by decide +kernel)) ggX1_holdsOneToThree_X1_holdsTwice
theorem dX1_holdsOneToThree_0 : decode cX1_holdsOneToThree 0 = .ok (.aload_n 0, 1) := by decide +kernel
theorem dX1_holdsOneToThree_1 : decode cX1_holdsOneToThree 1 = .ok (.aload_n 1, 1) := by decide +kernel
theorem dX1_holdsOneToThree_2 : decode cX1_holdsOneToThree 2 = .ok (.invokevirtual 283, 3) := by decide +kernel
theorem dX1_holdsOneToThree_5 : decode cX1_holdsOneToThree 5 = .ok (.ifCond .eq 23, 3) := by decide +kernel
theorem dX1_holdsOneToThree_8 : decode cX1_holdsOneToThree 8 = .ok (.aload_n 0, 1) := by decide +kernel
theorem dX1_holdsOneToThree_9 : decode cX1_holdsOneToThree 9 = .ok (.aload_n 1, 1) := by decide +kernel
theorem dX1_holdsOneToThree_10 : decode cX1_holdsOneToThree 10 = .ok (.invokevirtual 286, 3) := by decide +kernel
theorem dX1_holdsOneToThree_13 : decode cX1_holdsOneToThree 13 = .ok (.ifCond .eq 15, 3) := by decide +kernel
theorem dX1_holdsOneToThree_16 : decode cX1_holdsOneToThree 16 = .ok (.aload_n 0, 1) := by decide +kernel
theorem dX1_holdsOneToThree_17 : decode cX1_holdsOneToThree 17 = .ok (.aload_n 1, 1) := by decide +kernel
theorem dX1_holdsOneToThree_18 : decode cX1_holdsOneToThree 18 = .ok (.invokevirtual 289, 3) := by decide +kernel
theorem dX1_holdsOneToThree_21 : decode cX1_holdsOneToThree 21 = .ok (.ifCond .eq 7, 3) := by decide +kernel
theorem dX1_holdsOneToThree_24 : decode cX1_holdsOneToThree 24 = .ok (.iconst 1, 1) := by decide +kernel
theorem dX1_holdsOneToThree_25 : decode cX1_holdsOneToThree 25 = .ok (.goto 4, 3) := by decide +kernel
theorem dX1_holdsOneToThree_28 : decode cX1_holdsOneToThree 28 = .ok (.iconst 0, 1) := by decide +kernel
theorem dX1_holdsOneToThree_29 : decode cX1_holdsOneToThree 29 = .ok (.ireturn, 1) := by decide +kernel
set_option maxRecDepth 20000 in
theorem ggX1_holdsHalving_X0_becomeEverySecond : GoodIn wsX1_holdsHalving wsX0_becomeEverySecond := goodIn_r _ [12, 13, 14, 15, 16, 17, 11, 18, 19, 20, 21, 22, 58, 59] (by decide +kernel) (by decide +kernel)
set_option maxRecDepth 20000 in
theorem gX1_holdsHalving_X0_becomeEverySecond : GoodIn wsX1_holdsHalving (wsV RX1 292 RX0 yX0_becomeEverySecond wsX0_becomeEverySecond) := goodIn_app (goodIn_of _ (by decide +kernel)) ggX1_holdsHalving_X0_becomeEverySecond
set_option maxRecDepth 20000 in
theorem ggX1_holdsHalving_X1_plainValues : GoodIn wsX1_holdsHalving wsX1_plainValues := goodIn_r _ [27, 28, 29, 30, 26, 31, 1, 7, 32, 16, 17, 11, 18, 13, 14, 19, 20, 21, 22, 33, 34, 35, 36, 37, 38, 39, 40, 41, 42, 43, 44, 45, 46, 47, 48, 58, 59, 60, 61, 62, 63, 64, 65, 66, 67] (by decide +kernel) (by decide +kernel)
set_option maxRecDepth 20000 in
theorem gX1_holdsHalving_X1_plainValues : GoodIn wsX1_holdsHalving (wsV RX1 96 RX1 yX1_plainValues wsX1_plainValues) := goodIn_app (goodIn_of _ (by decide +kernel)) ggX1_holdsHalving_X1_plainValues
set_option maxRecDepth 20000 in
theorem ggX1_holdsHalving_X1_rootTo : GoodIn wsX1_holdsHalving wsX1_rootTo := goodIn_r _ [36, 37, 38, 39, 26, 40, 41, 42, 43, 44, 60, 61, 62, 63, 64, 65, 66, 67] (by decide +kernel) (by decide +kernel)
set_option maxRecDepth 20000 in
theorem gX1_holdsHalving_X1_rootTo : GoodIn wsX1_holdsHalving (wsV RX1 88 RX1 yX1_rootTo wsX1_rootTo) := goodIn_app (goodIn_of _ (by decide +kernel)) ggX1_holdsHalving_X1_rootTo
set_option maxRecDepth 20000 in
theorem ggX1_holdsHalving_X1_multiplied : GoodIn wsX1_holdsHalving wsX1_multiplied := goodIn_r _ [51, 45, 46, 26, 47, 48] (by decide +kernel) (by decide +kernel)
set_option maxRecDepth 20000 in
theorem gX1_holdsHalving_X1_multiplied : GoodIn wsX1_holdsHalving (va_wsS RX1 105 yX1_multiplied wsX1_multiplied) := goodIn_app (goodIn_of _ (by decide +kernel)) ggX1_holdsHalving_X1_multiplied
set_option maxRecDepth 20000 in
theorem ggX1_holdsHalving_X1_added : GoodIn wsX1_holdsHalving wsX1_added := goodIn_r _ [54, 44] (by decide +kernel) (by decide +kernel)
set_option maxRecDepth 20000 in
theorem gX1_holdsHalving_X1_added : GoodIn wsX1_holdsHalving (va_wsS RX1 108 yX1_added wsX1_added) := goodIn_app (goodIn_of _ (by decide +kernel)) ggX1_holdsHalving_X1_added
set_option maxRecDepth 20000 in
theorem ggX1_holdsHalving_X1_lessened : GoodIn wsX1_holdsHalving wsX1_lessened := goodIn_r _ [57, 44] (by decide +kernel) (by decide +kernel)
set_option maxRecDepth 20000 in
theorem gX1_holdsHalving_X1_lessened : GoodIn wsX1_holdsHalving (va_wsS RX1 277 yX1_lessened wsX1_lessened) := goodIn_app (goodIn_of _ (by decide +kernel)) ggX1_holdsHalving_X1_lessened
theorem dX1_holdsHalving_0 : decode cX1_holdsHalving 0 = .ok (.aload_n 1, 1) := by decide +kernel
theorem dX1_holdsHalving_1 : decode cX1_holdsHalving 1 = .ok (.getfield 47, 3) := by decide +kernel
theorem dX1_holdsHalving_4 : decode cX1_holdsHalving 4 = .ok (.iconst 2, 1) := by decide +kernel
theorem dX1_holdsHalving_5 : decode cX1_holdsHalving 5 = .ok (.idiv, 1) := by decide +kernel
theorem dX1_holdsHalving_6 : decode cX1_holdsHalving 6 = .ok (.istore_n 2, 1) := by decide +kernel
theorem dX1_holdsHalving_7 : decode cX1_holdsHalving 7 = .ok (.aload_n 0, 1) := by decide +kernel
theorem dX1_holdsHalving_8 : decode cX1_holdsHalving 8 = .ok (.getfield 16, 3) := by decide +kernel
theorem dX1_holdsHalving_11 : decode cX1_holdsHalving 11 = .ok (.aload_n 1, 1) := by decide +kernel
theorem dX1_holdsHalving_12 : decode cX1_holdsHalving 12 = .ok (.iconst 0, 1) := by decide +kernel
theorem dX1_holdsHalving_13 : decode cX1_holdsHalving 13 = .ok (.invokevirtual 292, 3) := by decide +kernel
theorem dX1_holdsHalving_16 : decode cX1_holdsHalving 16 = .ok (.aload_n 0, 1) := by decide +kernel
theorem dX1_holdsHalving_17 : decode cX1_holdsHalving 17 = .ok (.getfield 20, 3) := by decide +kernel
theorem dX1_holdsHalving_20 : decode cX1_holdsHalving 20 = .ok (.aload_n 1, 1) := by decide +kernel
theorem dX1_holdsHalving_21 : decode cX1_holdsHalving 21 = .ok (.iconst 1, 1) := by decide +kernel
theorem dX1_holdsHalving_22 : decode cX1_holdsHalving 22 = .ok (.invokevirtual 292, 3) := by decide +kernel
theorem dX1_holdsHalving_25 : decode cX1_holdsHalving 25 = .ok (.aload_n 0, 1) := by decide +kernel
theorem dX1_holdsHalving_26 : decode cX1_holdsHalving 26 = .ok (.aload_n 0, 1) := by decide +kernel
theorem dX1_holdsHalving_27 : decode cX1_holdsHalving 27 = .ok (.getfield 16, 3) := by decide +kernel
theorem dX1_holdsHalving_30 : decode cX1_holdsHalving 30 = .ok (.aload_n 0, 1) := by decide +kernel
theorem dX1_holdsHalving_31 : decode cX1_holdsHalving 31 = .ok (.getfield 23, 3) := by decide +kernel
theorem dX1_holdsHalving_34 : decode cX1_holdsHalving 34 = .ok (.invokevirtual 96, 3) := by decide +kernel
theorem dX1_holdsHalving_37 : decode cX1_holdsHalving 37 = .ok (.aload_n 0, 1) := by decide +kernel
theorem dX1_holdsHalving_38 : decode cX1_holdsHalving 38 = .ok (.aload_n 0, 1) := by decide +kernel
theorem dX1_holdsHalving_39 : decode cX1_holdsHalving 39 = .ok (.getfield 20, 3) := by decide +kernel
theorem dX1_holdsHalving_42 : decode cX1_holdsHalving 42 = .ok (.aload_n 0, 1) := by decide +kernel
theorem dX1_holdsHalving_43 : decode cX1_holdsHalving 43 = .ok (.getfield 26, 3) := by decide +kernel
theorem dX1_holdsHalving_46 : decode cX1_holdsHalving 46 = .ok (.invokevirtual 96, 3) := by decide +kernel
theorem dX1_holdsHalving_49 : decode cX1_holdsHalving 49 = .ok (.aload_n 0, 1) := by decide +kernel
theorem dX1_holdsHalving_50 : decode cX1_holdsHalving 50 = .ok (.aload_n 1, 1) := by decide +kernel
theorem dX1_holdsHalving_51 : decode cX1_holdsHalving 51 = .ok (.aload_n 0, 1) := by decide +kernel
theorem dX1_holdsHalving_52 : decode cX1_holdsHalving 52 = .ok (.getfield 29, 3) := by decide +kernel
theorem dX1_holdsHalving_55 : decode cX1_holdsHalving 55 = .ok (.invokevirtual 96, 3) := by decide +kernel
theorem dX1_holdsHalving_58 : decode cX1_holdsHalving 58 = .ok (.iconst 0, 1) := by decide +kernel
theorem dX1_holdsHalving_59 : decode cX1_holdsHalving 59 = .ok (.istore_n 3, 1) := by decide +kernel
theorem dX1_holdsHalving_60 : decode cX1_holdsHalving 60 = .ok (.iload_n 3, 1) := by decide +kernel
theorem dX1_holdsHalving_61 : decode cX1_holdsHalving 61 = .ok (.iload_n 2, 1) := by decide +kernel
theorem dX1_holdsHalving_62 : decode cX1_holdsHalving 62 = .ok (.if_icmp .ge 88, 3) := by decide +kernel
theorem dX1_holdsHalving_65 : decode cX1_holdsHalving 65 = .ok (.aload_n 0, 1) := by decide +kernel
theorem dX1_holdsHalving_66 : decode cX1_holdsHalving 66 = .ok (.getfield 26, 3) := by decide +kernel
theorem dX1_holdsHalving_69 : decode cX1_holdsHalving 69 = .ok (.getfield 60, 3) := by decide +kernel
theorem dX1_holdsHalving_72 : decode cX1_holdsHalving 72 = .ok (.iload_n 3, 1) := by decide +kernel
theorem dX1_holdsHalving_73 : decode cX1_holdsHalving 73 = .ok (.iaload, 1) := by decide +kernel
theorem dX1_holdsHalving_74 : decode cX1_holdsHalving 74 = .ok (.aload_n 0, 1) := by decide +kernel
theorem dX1_holdsHalving_75 : decode cX1_holdsHalving 75 = .ok (.aload_n 1, 1) := by decide +kernel
theorem dX1_holdsHalving_76 : decode cX1_holdsHalving 76 = .ok (.getfield 47, 3) := by decide +kernel
theorem dX1_holdsHalving_79 : decode cX1_holdsHalving 79 = .ok (.iload_n 3, 1) := by decide +kernel
theorem dX1_holdsHalving_80 : decode cX1_holdsHalving 80 = .ok (.invokevirtual 88, 3) := by decide +kernel
theorem dX1_holdsHalving_83 : decode cX1_holdsHalving 83 = .ok (.invokestatic 105, 3) := by decide +kernel
theorem dX1_holdsHalving_86 : decode cX1_holdsHalving 86 = .ok (.istore 4, 2) := by decide +kernel
theorem dX1_holdsHalving_88 : decode cX1_holdsHalving 88 = .ok (.aload_n 0, 1) := by decide +kernel
theorem dX1_holdsHalving_89 : decode cX1_holdsHalving 89 = .ok (.getfield 29, 3) := by decide +kernel
theorem dX1_holdsHalving_92 : decode cX1_holdsHalving 92 = .ok (.getfield 60, 3) := by decide +kernel
theorem dX1_holdsHalving_95 : decode cX1_holdsHalving 95 = .ok (.iload_n 3, 1) := by decide +kernel
theorem dX1_holdsHalving_96 : decode cX1_holdsHalving 96 = .ok (.iaload, 1) := by decide +kernel
theorem dX1_holdsHalving_97 : decode cX1_holdsHalving 97 = .ok (.aload_n 0, 1) := by decide +kernel
theorem dX1_holdsHalving_98 : decode cX1_holdsHalving 98 = .ok (.getfield 23, 3) := by decide +kernel
theorem dX1_holdsHalving_101 : decode cX1_holdsHalving 101 = .ok (.getfield 60, 3) := by decide +kernel
theorem dX1_holdsHalving_104 : decode cX1_holdsHalving 104 = .ok (.iload_n 3, 1) := by decide +kernel
theorem dX1_holdsHalving_105 : decode cX1_holdsHalving 105 = .ok (.iaload, 1) := by decide +kernel
theorem dX1_holdsHalving_106 : decode cX1_holdsHalving 106 = .ok (.iload 4, 2) := by decide +kernel
theorem dX1_holdsHalving_108 : decode cX1_holdsHalving 108 = .ok (.invokestatic 108, 3) := by decide +kernel
theorem dX1_holdsHalving_111 : decode cX1_holdsHalving 111 = .ok (.if_icmp .ne 31, 3) := by decide +kernel
theorem dX1_holdsHalving_114 : decode cX1_holdsHalving 114 = .ok (.aload_n 0, 1) := by decide +kernel
theorem dX1_holdsHalving_115 : decode cX1_holdsHalving 115 = .ok (.getfield 29, 3) := by decide +kernel
theorem dX1_holdsHalving_118 : decode cX1_holdsHalving 118 = .ok (.getfield 60, 3) := by decide +kernel
theorem dX1_holdsHalving_121 : decode cX1_holdsHalving 121 = .ok (.iload_n 3, 1) := by decide +kernel
theorem dX1_holdsHalving_122 : decode cX1_holdsHalving 122 = .ok (.iload_n 2, 1) := by decide +kernel
theorem dX1_holdsHalving_123 : decode cX1_holdsHalving 123 = .ok (.iadd, 1) := by decide +kernel
theorem dX1_holdsHalving_124 : decode cX1_holdsHalving 124 = .ok (.iaload, 1) := by decide +kernel
theorem dX1_holdsHalving_125 : decode cX1_holdsHalving 125 = .ok (.aload_n 0, 1) := by decide +kernel
theorem dX1_holdsHalving_126 : decode cX1_holdsHalving 126 = .ok (.getfield 23, 3) := by decide +kernel
theorem dX1_holdsHalving_129 : decode cX1_holdsHalving 129 = .ok (.getfield 60, 3) := by decide +kernel
theorem dX1_holdsHalving_132 : decode cX1_holdsHalving 132 = .ok (.iload_n 3, 1) := by decide +kernel
theorem dX1_holdsHalving_133 : decode cX1_holdsHalving 133 = .ok (.iaload, 1) := by decide +kernel
theorem dX1_holdsHalving_134 : decode cX1_holdsHalving 134 = .ok (.iload 4, 2) := by decide +kernel
theorem dX1_holdsHalving_136 : decode cX1_holdsHalving 136 = .ok (.invokestatic 277, 3) := by decide +kernel
theorem dX1_holdsHalving_139 : decode cX1_holdsHalving 139 = .ok (.if_icmp .eq 5, 3) := by decide +kernel
theorem dX1_holdsHalving_142 : decode cX1_holdsHalving 142 = .ok (.iconst 0, 1) := by decide +kernel
theorem dX1_holdsHalving_143 : decode cX1_holdsHalving 143 = .ok (.ireturn, 1) := by decide +kernel
theorem dX1_holdsHalving_144 : decode cX1_holdsHalving 144 = .ok (.iinc 3 1, 3) := by decide +kernel
theorem dX1_holdsHalving_147 : decode cX1_holdsHalving 147 = .ok (.goto (-87), 3) := by decide +kernel
theorem dX1_holdsHalving_150 : decode cX1_holdsHalving 150 = .ok (.iconst 1, 1) := by decide +kernel
theorem dX1_holdsHalving_151 : decode cX1_holdsHalving 151 = .ok (.ireturn, 1) := by decide +kernel
set_option maxRecDepth 20000 in
theorem ggX1_holdsBack_X1_plainValues : GoodIn wsX1_holdsBack wsX1_plainValues := goodIn_r _ [9, 10, 11, 12, 8, 13, 14, 15, 16, 17, 18, 19, 20, 21, 22, 23, 24, 25, 26, 27, 28, 29, 30, 31, 32, 33, 34, 35, 36, 37, 38, 39, 40, 41, 42, 69, 70, 61, 62, 63, 64, 65, 66, 67, 68] (by decide +kernel) (by decide +kernel)
set_option maxRecDepth 20000 in
theorem gX1_holdsBack_X1_plainValues : GoodIn wsX1_holdsBack (wsV RX1 96 RX1 yX1_plainValues wsX1_plainValues) := goodIn_app (goodIn_of _ (by decide +kernel)) ggX1_holdsBack_X1_plainValues
set_option maxRecDepth 20000 in
theorem ggX1_holdsBack_X1_backRow : GoodIn wsX1_holdsBack wsX1_backRow := goodIn_r _ [46, 14, 10, 11, 12, 8, 13, 15, 16, 17, 18, 19, 20, 21, 22, 23, 24, 25, 26, 27, 28, 29, 30, 31, 32, 33, 34, 35, 36, 37, 38, 39, 40, 41, 42, 47, 48, 49, 50, 51, 52, 53, 54, 55, 56, 69, 70, 61, 62, 63, 64, 65, 66, 67, 68] (by decide +kernel) (by decide +kernel)
set_option maxRecDepth 20000 in
theorem gX1_holdsBack_X1_backRow : GoodIn wsX1_holdsBack (wsV RX1 102 RX1 yX1_backRow wsX1_backRow) := goodIn_app (goodIn_of _ (by decide +kernel)) ggX1_holdsBack_X1_backRow
set_option maxRecDepth 20000 in
theorem ggX1_holdsBack_X0_isLike : GoodIn wsX1_holdsBack wsX0_isLike := goodIn_r _ [60, 21, 22, 69, 70] (by decide +kernel) (by decide +kernel)
set_option maxRecDepth 20000 in
theorem gX1_holdsBack_X0_isLike : GoodIn wsX1_holdsBack (wsV RX1 79 RX0 yX0_isLike wsX0_isLike) := goodIn_app (goodIn_of _ (by decide +kernel)) ggX1_holdsBack_X0_isLike
theorem dX1_holdsBack_0 : decode cX1_holdsBack 0 = .ok (.aload_n 0, 1) := by decide +kernel
theorem dX1_holdsBack_1 : decode cX1_holdsBack 1 = .ok (.aload_n 1, 1) := by decide +kernel
theorem dX1_holdsBack_2 : decode cX1_holdsBack 2 = .ok (.aload_n 0, 1) := by decide +kernel
theorem dX1_holdsBack_3 : decode cX1_holdsBack 3 = .ok (.getfield 16, 3) := by decide +kernel
theorem dX1_holdsBack_6 : decode cX1_holdsBack 6 = .ok (.invokevirtual 96, 3) := by decide +kernel
theorem dX1_holdsBack_9 : decode cX1_holdsBack 9 = .ok (.aload_n 0, 1) := by decide +kernel
theorem dX1_holdsBack_10 : decode cX1_holdsBack 10 = .ok (.aload_n 0, 1) := by decide +kernel
theorem dX1_holdsBack_11 : decode cX1_holdsBack 11 = .ok (.getfield 16, 3) := by decide +kernel
theorem dX1_holdsBack_14 : decode cX1_holdsBack 14 = .ok (.aload_n 0, 1) := by decide +kernel
theorem dX1_holdsBack_15 : decode cX1_holdsBack 15 = .ok (.getfield 29, 3) := by decide +kernel
theorem dX1_holdsBack_18 : decode cX1_holdsBack 18 = .ok (.invokevirtual 102, 3) := by decide +kernel
theorem dX1_holdsBack_21 : decode cX1_holdsBack 21 = .ok (.aload_n 0, 1) := by decide +kernel
theorem dX1_holdsBack_22 : decode cX1_holdsBack 22 = .ok (.aload_n 1, 1) := by decide +kernel
theorem dX1_holdsBack_23 : decode cX1_holdsBack 23 = .ok (.aload_n 0, 1) := by decide +kernel
theorem dX1_holdsBack_24 : decode cX1_holdsBack 24 = .ok (.getfield 20, 3) := by decide +kernel
theorem dX1_holdsBack_27 : decode cX1_holdsBack 27 = .ok (.invokevirtual 102, 3) := by decide +kernel
theorem dX1_holdsBack_30 : decode cX1_holdsBack 30 = .ok (.aload_n 0, 1) := by decide +kernel
theorem dX1_holdsBack_31 : decode cX1_holdsBack 31 = .ok (.aload_n 0, 1) := by decide +kernel
theorem dX1_holdsBack_32 : decode cX1_holdsBack 32 = .ok (.getfield 20, 3) := by decide +kernel
theorem dX1_holdsBack_35 : decode cX1_holdsBack 35 = .ok (.aload_n 0, 1) := by decide +kernel
theorem dX1_holdsBack_36 : decode cX1_holdsBack 36 = .ok (.getfield 26, 3) := by decide +kernel
theorem dX1_holdsBack_39 : decode cX1_holdsBack 39 = .ok (.invokevirtual 96, 3) := by decide +kernel
theorem dX1_holdsBack_42 : decode cX1_holdsBack 42 = .ok (.aload_n 0, 1) := by decide +kernel
theorem dX1_holdsBack_43 : decode cX1_holdsBack 43 = .ok (.getfield 29, 3) := by decide +kernel
theorem dX1_holdsBack_46 : decode cX1_holdsBack 46 = .ok (.aload_n 1, 1) := by decide +kernel
theorem dX1_holdsBack_47 : decode cX1_holdsBack 47 = .ok (.invokevirtual 79, 3) := by decide +kernel
theorem dX1_holdsBack_50 : decode cX1_holdsBack 50 = .ok (.ifCond .eq 18, 3) := by decide +kernel
theorem dX1_holdsBack_53 : decode cX1_holdsBack 53 = .ok (.aload_n 0, 1) := by decide +kernel
theorem dX1_holdsBack_54 : decode cX1_holdsBack 54 = .ok (.getfield 26, 3) := by decide +kernel
theorem dX1_holdsBack_57 : decode cX1_holdsBack 57 = .ok (.aload_n 1, 1) := by decide +kernel
theorem dX1_holdsBack_58 : decode cX1_holdsBack 58 = .ok (.invokevirtual 79, 3) := by decide +kernel
theorem dX1_holdsBack_61 : decode cX1_holdsBack 61 = .ok (.ifCond .eq 7, 3) := by decide +kernel
theorem dX1_holdsBack_64 : decode cX1_holdsBack 64 = .ok (.iconst 1, 1) := by decide +kernel
theorem dX1_holdsBack_65 : decode cX1_holdsBack 65 = .ok (.goto 4, 3) := by decide +kernel
theorem dX1_holdsBack_68 : decode cX1_holdsBack 68 = .ok (.iconst 0, 1) := by decide +kernel
theorem dX1_holdsBack_69 : decode cX1_holdsBack 69 = .ok (.ireturn, 1) := by decide +kernel
set_option maxRecDepth 20000 in
theorem ggX1_holdsTwice_X1_plainValues : GoodIn wsX1_holdsTwice wsX1_plainValues := goodIn_r _ [9, 10, 11, 12, 8, 13, 4, 14, 15, 16, 17, 18, 19, 20, 21, 22, 23, 24, 25, 26, 27, 28, 29, 30, 31, 32, 33, 34, 35, 36, 37, 38, 39, 40, 41, 69, 70, 61, 62, 63, 64, 65, 66, 67, 68] (by decide +kernel) (by decide +kernel)
set_option maxRecDepth 20000 in
theorem gX1_holdsTwice_X1_plainValues : GoodIn wsX1_holdsTwice (wsV RX1 96 RX1 yX1_plainValues wsX1_plainValues) := goodIn_app (goodIn_of _ (by decide +kernel)) ggX1_holdsTwice_X1_plainValues
set_option maxRecDepth 20000 in
theorem ggX1_holdsTwice_X0_becomeTurned : GoodIn wsX1_holdsTwice wsX0_becomeTurned := goodIn_r _ [45, 20, 21, 46, 16, 17, 18, 19, 22, 23, 24, 25, 47, 48, 49, 50, 69, 70] (by decide +kernel) (by decide +kernel)
set_option maxRecDepth 20000 in
theorem gX1_holdsTwice_X0_becomeTurned : GoodIn wsX1_holdsTwice (wsV RX1 153 RX0 yX0_becomeTurned wsX0_becomeTurned) := goodIn_app (goodIn_of _ (by decide +kernel)) ggX1_holdsTwice_X0_becomeTurned
set_option maxRecDepth 20000 in
theorem ggX1_holdsTwice_X0_becomeScaled : GoodIn wsX1_holdsTwice wsX0_becomeScaled := goodIn_r _ [54, 20, 21, 55, 8, 56, 38, 39, 40, 41, 69, 70] (by decide +kernel) (by decide +kernel)
set_option maxRecDepth 20000 in
theorem gX1_holdsTwice_X0_becomeScaled : GoodIn wsX1_holdsTwice (wsV RX1 167 RX0 yX0_becomeScaled wsX0_becomeScaled) := goodIn_app (goodIn_of _ (by decide +kernel)) ggX1_holdsTwice_X0_becomeScaled
set_option maxRecDepth 20000 in
theorem ggX1_holdsTwice_X0_isLike : GoodIn wsX1_holdsTwice wsX0_isLike := goodIn_r _ [60, 20, 21, 69, 70] (by decide +kernel) (by decide +kernel)
set_option maxRecDepth 20000 in
theorem gX1_holdsTwice_X0_isLike : GoodIn wsX1_holdsTwice (wsV RX1 79 RX0 yX0_isLike wsX0_isLike) := goodIn_app (goodIn_of _ (by decide +kernel)) ggX1_holdsTwice_X0_isLike
theorem dX1_holdsTwice_0 : decode cX1_holdsTwice 0 = .ok (.aload_n 0, 1) := by decide +kernel
theorem dX1_holdsTwice_1 : decode cX1_holdsTwice 1 = .ok (.aload_n 1, 1) := by decide +kernel
theorem dX1_holdsTwice_2 : decode cX1_holdsTwice 2 = .ok (.aload_n 0, 1) := by decide +kernel
theorem dX1_holdsTwice_3 : decode cX1_holdsTwice 3 = .ok (.getfield 16, 3) := by decide +kernel
theorem dX1_holdsTwice_6 : decode cX1_holdsTwice 6 = .ok (.invokevirtual 96, 3) := by decide +kernel
theorem dX1_holdsTwice_9 : decode cX1_holdsTwice 9 = .ok (.aload_n 0, 1) := by decide +kernel
theorem dX1_holdsTwice_10 : decode cX1_holdsTwice 10 = .ok (.aload_n 0, 1) := by decide +kernel
theorem dX1_holdsTwice_11 : decode cX1_holdsTwice 11 = .ok (.getfield 16, 3) := by decide +kernel
theorem dX1_holdsTwice_14 : decode cX1_holdsTwice 14 = .ok (.aload_n 0, 1) := by decide +kernel
theorem dX1_holdsTwice_15 : decode cX1_holdsTwice 15 = .ok (.getfield 29, 3) := by decide +kernel
theorem dX1_holdsTwice_18 : decode cX1_holdsTwice 18 = .ok (.invokevirtual 96, 3) := by decide +kernel
theorem dX1_holdsTwice_21 : decode cX1_holdsTwice 21 = .ok (.aload_n 0, 1) := by decide +kernel
theorem dX1_holdsTwice_22 : decode cX1_holdsTwice 22 = .ok (.getfield 26, 3) := by decide +kernel
theorem dX1_holdsTwice_25 : decode cX1_holdsTwice 25 = .ok (.aload_n 1, 1) := by decide +kernel
theorem dX1_holdsTwice_26 : decode cX1_holdsTwice 26 = .ok (.invokevirtual 153, 3) := by decide +kernel
theorem dX1_holdsTwice_29 : decode cX1_holdsTwice 29 = .ok (.aload_n 0, 1) := by decide +kernel
theorem dX1_holdsTwice_30 : decode cX1_holdsTwice 30 = .ok (.getfield 26, 3) := by decide +kernel
theorem dX1_holdsTwice_33 : decode cX1_holdsTwice 33 = .ok (.aload_n 0, 1) := by decide +kernel
theorem dX1_holdsTwice_34 : decode cX1_holdsTwice 34 = .ok (.getfield 26, 3) := by decide +kernel
theorem dX1_holdsTwice_37 : decode cX1_holdsTwice 37 = .ok (.aload_n 1, 1) := by decide +kernel
theorem dX1_holdsTwice_38 : decode cX1_holdsTwice 38 = .ok (.getfield 47, 3) := by decide +kernel
theorem dX1_holdsTwice_41 : decode cX1_holdsTwice 41 = .ok (.invokevirtual 167, 3) := by decide +kernel
theorem dX1_holdsTwice_44 : decode cX1_holdsTwice 44 = .ok (.aload_n 0, 1) := by decide +kernel
theorem dX1_holdsTwice_45 : decode cX1_holdsTwice 45 = .ok (.getfield 29, 3) := by decide +kernel
theorem dX1_holdsTwice_48 : decode cX1_holdsTwice 48 = .ok (.aload_n 0, 1) := by decide +kernel
theorem dX1_holdsTwice_49 : decode cX1_holdsTwice 49 = .ok (.getfield 26, 3) := by decide +kernel
theorem dX1_holdsTwice_52 : decode cX1_holdsTwice 52 = .ok (.invokevirtual 79, 3) := by decide +kernel
theorem dX1_holdsTwice_55 : decode cX1_holdsTwice 55 = .ok (.ireturn, 1) := by decide +kernel
set_option maxRecDepth 20000 in
theorem ggX1_holdsProduct_X1_plainValues : GoodIn wsX1_holdsProduct wsX1_plainValues := goodIn_r _ [10, 11, 12, 13, 9, 14, 15, 16, 17, 18, 19, 20, 21, 22, 23, 24, 25, 26, 27, 28, 29, 30, 31, 32, 33, 34, 35, 36, 37, 38, 39, 40, 41, 42, 43, 83, 84, 75, 76, 77, 78, 79, 80, 81, 82] (by decide +kernel) (by decide +kernel)
set_option maxRecDepth 20000 in
theorem gX1_holdsProduct_X1_plainValues : GoodIn wsX1_holdsProduct (wsV RX1 96 RX1 yX1_plainValues wsX1_plainValues) := goodIn_app (goodIn_of _ (by decide +kernel)) ggX1_holdsProduct_X1_plainValues
set_option maxRecDepth 20000 in
theorem ggX1_holdsProduct_X0_becomeProducts : GoodIn wsX1_holdsProduct wsX0_becomeProducts := goodIn_r _ [47, 22, 23, 48, 9, 49, 40, 41, 42, 43, 83, 84] (by decide +kernel) (by decide +kernel)
set_option maxRecDepth 20000 in
theorem gX1_holdsProduct_X0_becomeProducts : GoodIn wsX1_holdsProduct (wsV RX1 164 RX0 yX0_becomeProducts wsX0_becomeProducts) := goodIn_app (goodIn_of _ (by decide +kernel)) ggX1_holdsProduct_X0_becomeProducts
set_option maxRecDepth 20000 in
theorem ggX1_holdsProduct_X0_becomeRingProduct : GoodIn wsX1_holdsProduct wsX0_becomeRingProduct := goodIn_r _ [53, 22, 23, 54, 18, 19, 20, 21, 24, 25, 26, 27, 55, 56, 57, 58, 41, 9, 42, 43, 83, 84] (by decide +kernel) (by decide +kernel)
set_option maxRecDepth 20000 in
theorem gX1_holdsProduct_X0_becomeRingProduct : GoodIn wsX1_holdsProduct (wsV RX1 118 RX0 yX0_becomeRingProduct wsX0_becomeRingProduct) := goodIn_app (goodIn_of _ (by decide +kernel)) ggX1_holdsProduct_X0_becomeRingProduct
set_option maxRecDepth 20000 in
theorem ggX1_holdsProduct_X0_isLike : GoodIn wsX1_holdsProduct wsX0_isLike := goodIn_r _ [62, 22, 23, 83, 84] (by decide +kernel) (by decide +kernel)
set_option maxRecDepth 20000 in
theorem gX1_holdsProduct_X0_isLike : GoodIn wsX1_holdsProduct (wsV RX1 79 RX0 yX0_isLike wsX0_isLike) := goodIn_app (goodIn_of _ (by decide +kernel)) ggX1_holdsProduct_X0_isLike
set_option maxRecDepth 20000 in
theorem ggX1_holdsProduct_X1_backRow : GoodIn wsX1_holdsProduct wsX1_backRow := goodIn_r _ [66, 15, 11, 12, 13, 9, 14, 16, 17, 18, 19, 20, 21, 22, 23, 24, 25, 26, 27, 28, 29, 30, 31, 32, 33, 34, 35, 36, 37, 38, 39, 40, 41, 42, 43, 67, 68, 69, 70, 48, 49, 71, 72, 73, 74, 83, 84, 75, 76, 77, 78, 79, 80, 81, 82] (by decide +kernel) (by decide +kernel)
set_option maxRecDepth 20000 in
theorem gX1_holdsProduct_X1_backRow : GoodIn wsX1_holdsProduct (wsV RX1 102 RX1 yX1_backRow wsX1_backRow) := goodIn_app (goodIn_of _ (by decide +kernel)) ggX1_holdsProduct_X1_backRow
theorem dX1_holdsProduct_0 : decode cX1_holdsProduct 0 = .ok (.aload_n 0, 1) := by decide +kernel
theorem dX1_holdsProduct_1 : decode cX1_holdsProduct 1 = .ok (.aload_n 1, 1) := by decide +kernel
theorem dX1_holdsProduct_2 : decode cX1_holdsProduct 2 = .ok (.aload_n 0, 1) := by decide +kernel
theorem dX1_holdsProduct_3 : decode cX1_holdsProduct 3 = .ok (.getfield 16, 3) := by decide +kernel
theorem dX1_holdsProduct_6 : decode cX1_holdsProduct 6 = .ok (.invokevirtual 96, 3) := by decide +kernel
theorem dX1_holdsProduct_9 : decode cX1_holdsProduct 9 = .ok (.aload_n 0, 1) := by decide +kernel
theorem dX1_holdsProduct_10 : decode cX1_holdsProduct 10 = .ok (.aload_n 2, 1) := by decide +kernel
theorem dX1_holdsProduct_11 : decode cX1_holdsProduct 11 = .ok (.aload_n 0, 1) := by decide +kernel
theorem dX1_holdsProduct_12 : decode cX1_holdsProduct 12 = .ok (.getfield 20, 3) := by decide +kernel
theorem dX1_holdsProduct_15 : decode cX1_holdsProduct 15 = .ok (.invokevirtual 96, 3) := by decide +kernel
theorem dX1_holdsProduct_18 : decode cX1_holdsProduct 18 = .ok (.aload_n 0, 1) := by decide +kernel
theorem dX1_holdsProduct_19 : decode cX1_holdsProduct 19 = .ok (.getfield 23, 3) := by decide +kernel
theorem dX1_holdsProduct_22 : decode cX1_holdsProduct 22 = .ok (.aload_n 0, 1) := by decide +kernel
theorem dX1_holdsProduct_23 : decode cX1_holdsProduct 23 = .ok (.getfield 16, 3) := by decide +kernel
theorem dX1_holdsProduct_26 : decode cX1_holdsProduct 26 = .ok (.aload_n 0, 1) := by decide +kernel
theorem dX1_holdsProduct_27 : decode cX1_holdsProduct 27 = .ok (.getfield 20, 3) := by decide +kernel
theorem dX1_holdsProduct_30 : decode cX1_holdsProduct 30 = .ok (.invokevirtual 164, 3) := by decide +kernel
theorem dX1_holdsProduct_33 : decode cX1_holdsProduct 33 = .ok (.aload_n 0, 1) := by decide +kernel
theorem dX1_holdsProduct_34 : decode cX1_holdsProduct 34 = .ok (.getfield 26, 3) := by decide +kernel
theorem dX1_holdsProduct_37 : decode cX1_holdsProduct 37 = .ok (.aload_n 1, 1) := by decide +kernel
theorem dX1_holdsProduct_38 : decode cX1_holdsProduct 38 = .ok (.aload_n 2, 1) := by decide +kernel
theorem dX1_holdsProduct_39 : decode cX1_holdsProduct 39 = .ok (.invokevirtual 118, 3) := by decide +kernel
theorem dX1_holdsProduct_42 : decode cX1_holdsProduct 42 = .ok (.aload_n 0, 1) := by decide +kernel
theorem dX1_holdsProduct_43 : decode cX1_holdsProduct 43 = .ok (.aload_n 0, 1) := by decide +kernel
theorem dX1_holdsProduct_44 : decode cX1_holdsProduct 44 = .ok (.getfield 26, 3) := by decide +kernel
theorem dX1_holdsProduct_47 : decode cX1_holdsProduct 47 = .ok (.aload_n 0, 1) := by decide +kernel
theorem dX1_holdsProduct_48 : decode cX1_holdsProduct 48 = .ok (.getfield 29, 3) := by decide +kernel
theorem dX1_holdsProduct_51 : decode cX1_holdsProduct 51 = .ok (.invokevirtual 96, 3) := by decide +kernel
theorem dX1_holdsProduct_54 : decode cX1_holdsProduct 54 = .ok (.aload_n 0, 1) := by decide +kernel
theorem dX1_holdsProduct_55 : decode cX1_holdsProduct 55 = .ok (.getfield 29, 3) := by decide +kernel
theorem dX1_holdsProduct_58 : decode cX1_holdsProduct 58 = .ok (.aload_n 0, 1) := by decide +kernel
theorem dX1_holdsProduct_59 : decode cX1_holdsProduct 59 = .ok (.getfield 23, 3) := by decide +kernel
theorem dX1_holdsProduct_62 : decode cX1_holdsProduct 62 = .ok (.invokevirtual 79, 3) := by decide +kernel
theorem dX1_holdsProduct_65 : decode cX1_holdsProduct 65 = .ok (.ifCond .ne 5, 3) := by decide +kernel
theorem dX1_holdsProduct_68 : decode cX1_holdsProduct 68 = .ok (.iconst 0, 1) := by decide +kernel
theorem dX1_holdsProduct_69 : decode cX1_holdsProduct 69 = .ok (.ireturn, 1) := by decide +kernel
theorem dX1_holdsProduct_70 : decode cX1_holdsProduct 70 = .ok (.aload_n 0, 1) := by decide +kernel
theorem dX1_holdsProduct_71 : decode cX1_holdsProduct 71 = .ok (.aload_n 0, 1) := by decide +kernel
theorem dX1_holdsProduct_72 : decode cX1_holdsProduct 72 = .ok (.getfield 23, 3) := by decide +kernel
theorem dX1_holdsProduct_75 : decode cX1_holdsProduct 75 = .ok (.aload_n 0, 1) := by decide +kernel
theorem dX1_holdsProduct_76 : decode cX1_holdsProduct 76 = .ok (.getfield 29, 3) := by decide +kernel
theorem dX1_holdsProduct_79 : decode cX1_holdsProduct 79 = .ok (.invokevirtual 102, 3) := by decide +kernel
theorem dX1_holdsProduct_82 : decode cX1_holdsProduct 82 = .ok (.aload_n 0, 1) := by decide +kernel
theorem dX1_holdsProduct_83 : decode cX1_holdsProduct 83 = .ok (.getfield 29, 3) := by decide +kernel
theorem dX1_holdsProduct_86 : decode cX1_holdsProduct 86 = .ok (.aload_n 0, 1) := by decide +kernel
theorem dX1_holdsProduct_87 : decode cX1_holdsProduct 87 = .ok (.getfield 26, 3) := by decide +kernel
theorem dX1_holdsProduct_90 : decode cX1_holdsProduct 90 = .ok (.invokevirtual 79, 3) := by decide +kernel
theorem dX1_holdsProduct_93 : decode cX1_holdsProduct 93 = .ok (.ireturn, 1) := by decide +kernel
set_option maxRecDepth 20000 in
theorem ggX1_holdsPlainProduct_X0_becomeLengthened : GoodIn wsX1_holdsPlainProduct wsX0_becomeLengthened := goodIn_r _ [11, 12, 13, 14, 15, 16, 17, 18, 19, 20, 10, 21, 22, 23, 24, 25, 60, 61] (by decide +kernel) (by decide +kernel)
set_option maxRecDepth 20000 in
theorem gX1_holdsPlainProduct_X0_becomeLengthened : GoodIn wsX1_holdsPlainProduct (wsV RX1 295 RX0 yX0_becomeLengthened wsX0_becomeLengthened) := goodIn_app (goodIn_of _ (by decide +kernel)) ggX1_holdsPlainProduct_X0_becomeLengthened
set_option maxRecDepth 20000 in
theorem ggX1_holdsPlainProduct_X0_becomeRingProduct : GoodIn wsX1_holdsPlainProduct wsX0_becomeRingProduct := goodIn_r _ [29, 12, 13, 18, 19, 20, 10, 21, 22, 23, 24, 25, 30, 31, 32, 33, 34, 35, 36, 37, 60, 61] (by decide +kernel) (by decide +kernel)
set_option maxRecDepth 20000 in
theorem gX1_holdsPlainProduct_X0_becomeRingProduct : GoodIn wsX1_holdsPlainProduct (wsV RX1 118 RX0 yX0_becomeRingProduct wsX0_becomeRingProduct) := goodIn_app (goodIn_of _ (by decide +kernel)) ggX1_holdsPlainProduct_X0_becomeRingProduct
set_option maxRecDepth 20000 in
theorem ggX1_holdsPlainProduct_X0_becomePlainProduct : GoodIn wsX1_holdsPlainProduct wsX0_becomePlainProduct := goodIn_r _ [41, 12, 13, 18, 19, 20, 10, 21, 22, 23, 24, 25, 42, 35, 43, 44, 34, 36, 37, 45, 46, 47, 60, 61] (by decide +kernel) (by decide +kernel)
set_option maxRecDepth 20000 in
theorem gX1_holdsPlainProduct_X0_becomePlainProduct : GoodIn wsX1_holdsPlainProduct (wsV RX1 124 RX0 yX0_becomePlainProduct wsX0_becomePlainProduct) := goodIn_app (goodIn_of _ (by decide +kernel)) ggX1_holdsPlainProduct_X0_becomePlainProduct
set_option maxRecDepth 20000 in
theorem ggX1_holdsPlainProduct_X0_isLike : GoodIn wsX1_holdsPlainProduct wsX0_isLike := goodIn_r _ [51, 12, 13, 60, 61] (by decide +kernel) (by decide +kernel)
set_option maxRecDepth 20000 in
theorem gX1_holdsPlainProduct_X0_isLike : GoodIn wsX1_holdsPlainProduct (wsV RX1 79 RX0 yX0_isLike wsX0_isLike) := goodIn_app (goodIn_of _ (by decide +kernel)) ggX1_holdsPlainProduct_X0_isLike
theorem dX1_holdsPlainProduct_0 : decode cX1_holdsPlainProduct 0 = .ok (.aload_n 0, 1) := by decide +kernel
theorem dX1_holdsPlainProduct_1 : decode cX1_holdsPlainProduct 1 = .ok (.getfield 16, 3) := by decide +kernel
theorem dX1_holdsPlainProduct_4 : decode cX1_holdsPlainProduct 4 = .ok (.aload_n 1, 1) := by decide +kernel
theorem dX1_holdsPlainProduct_5 : decode cX1_holdsPlainProduct 5 = .ok (.invokevirtual 295, 3) := by decide +kernel
theorem dX1_holdsPlainProduct_8 : decode cX1_holdsPlainProduct 8 = .ok (.aload_n 0, 1) := by decide +kernel
theorem dX1_holdsPlainProduct_9 : decode cX1_holdsPlainProduct 9 = .ok (.getfield 20, 3) := by decide +kernel
theorem dX1_holdsPlainProduct_12 : decode cX1_holdsPlainProduct 12 = .ok (.aload_n 2, 1) := by decide +kernel
theorem dX1_holdsPlainProduct_13 : decode cX1_holdsPlainProduct 13 = .ok (.invokevirtual 295, 3) := by decide +kernel
theorem dX1_holdsPlainProduct_16 : decode cX1_holdsPlainProduct 16 = .ok (.aload_n 0, 1) := by decide +kernel
theorem dX1_holdsPlainProduct_17 : decode cX1_holdsPlainProduct 17 = .ok (.getfield 29, 3) := by decide +kernel
theorem dX1_holdsPlainProduct_20 : decode cX1_holdsPlainProduct 20 = .ok (.aload_n 0, 1) := by decide +kernel
theorem dX1_holdsPlainProduct_21 : decode cX1_holdsPlainProduct 21 = .ok (.getfield 16, 3) := by decide +kernel
theorem dX1_holdsPlainProduct_24 : decode cX1_holdsPlainProduct 24 = .ok (.aload_n 0, 1) := by decide +kernel
theorem dX1_holdsPlainProduct_25 : decode cX1_holdsPlainProduct 25 = .ok (.getfield 20, 3) := by decide +kernel
theorem dX1_holdsPlainProduct_28 : decode cX1_holdsPlainProduct 28 = .ok (.invokevirtual 118, 3) := by decide +kernel
theorem dX1_holdsPlainProduct_31 : decode cX1_holdsPlainProduct 31 = .ok (.aload_n 0, 1) := by decide +kernel
theorem dX1_holdsPlainProduct_32 : decode cX1_holdsPlainProduct 32 = .ok (.getfield 26, 3) := by decide +kernel
theorem dX1_holdsPlainProduct_35 : decode cX1_holdsPlainProduct 35 = .ok (.aload_n 1, 1) := by decide +kernel
theorem dX1_holdsPlainProduct_36 : decode cX1_holdsPlainProduct 36 = .ok (.aload_n 2, 1) := by decide +kernel
theorem dX1_holdsPlainProduct_37 : decode cX1_holdsPlainProduct 37 = .ok (.invokevirtual 124, 3) := by decide +kernel
theorem dX1_holdsPlainProduct_40 : decode cX1_holdsPlainProduct 40 = .ok (.aload_n 0, 1) := by decide +kernel
theorem dX1_holdsPlainProduct_41 : decode cX1_holdsPlainProduct 41 = .ok (.getfield 29, 3) := by decide +kernel
theorem dX1_holdsPlainProduct_44 : decode cX1_holdsPlainProduct 44 = .ok (.aload_n 0, 1) := by decide +kernel
theorem dX1_holdsPlainProduct_45 : decode cX1_holdsPlainProduct 45 = .ok (.getfield 26, 3) := by decide +kernel
theorem dX1_holdsPlainProduct_48 : decode cX1_holdsPlainProduct 48 = .ok (.invokevirtual 79, 3) := by decide +kernel
theorem dX1_holdsPlainProduct_51 : decode cX1_holdsPlainProduct 51 = .ok (.ifCond .eq 27, 3) := by decide +kernel
theorem dX1_holdsPlainProduct_54 : decode cX1_holdsPlainProduct 54 = .ok (.aload_n 0, 1) := by decide +kernel
theorem dX1_holdsPlainProduct_55 : decode cX1_holdsPlainProduct 55 = .ok (.getfield 26, 3) := by decide +kernel
theorem dX1_holdsPlainProduct_58 : decode cX1_holdsPlainProduct 58 = .ok (.getfield 60, 3) := by decide +kernel
theorem dX1_holdsPlainProduct_61 : decode cX1_holdsPlainProduct 61 = .ok (.aload_n 0, 1) := by decide +kernel
theorem dX1_holdsPlainProduct_62 : decode cX1_holdsPlainProduct 62 = .ok (.getfield 26, 3) := by decide +kernel
theorem dX1_holdsPlainProduct_65 : decode cX1_holdsPlainProduct 65 = .ok (.getfield 47, 3) := by decide +kernel
theorem dX1_holdsPlainProduct_68 : decode cX1_holdsPlainProduct 68 = .ok (.iconst 1, 1) := by decide +kernel
theorem dX1_holdsPlainProduct_69 : decode cX1_holdsPlainProduct 69 = .ok (.isub, 1) := by decide +kernel
theorem dX1_holdsPlainProduct_70 : decode cX1_holdsPlainProduct 70 = .ok (.iaload, 1) := by decide +kernel
theorem dX1_holdsPlainProduct_71 : decode cX1_holdsPlainProduct 71 = .ok (.ifCond .ne 7, 3) := by decide +kernel
theorem dX1_holdsPlainProduct_74 : decode cX1_holdsPlainProduct 74 = .ok (.iconst 1, 1) := by decide +kernel
theorem dX1_holdsPlainProduct_75 : decode cX1_holdsPlainProduct 75 = .ok (.goto 4, 3) := by decide +kernel
theorem dX1_holdsPlainProduct_78 : decode cX1_holdsPlainProduct 78 = .ok (.iconst 0, 1) := by decide +kernel
theorem dX1_holdsPlainProduct_79 : decode cX1_holdsPlainProduct 79 = .ok (.ireturn, 1) := by decide +kernel
set_option maxRecDepth 20000 in
theorem ggX1_holdsShifted_X0_becomeShifted : GoodIn wsX1_holdsShifted wsX0_becomeShifted := goodIn_r _ [9, 10, 11, 12, 13, 14, 8, 15, 16, 17, 18, 19, 20, 21, 22, 23, 71, 72] (by decide +kernel) (by decide +kernel)
set_option maxRecDepth 20000 in
theorem gX1_holdsShifted_X0_becomeShifted : GoodIn wsX1_holdsShifted (wsV RX1 146 RX0 yX0_becomeShifted wsX0_becomeShifted) := goodIn_app (goodIn_of _ (by decide +kernel)) ggX1_holdsShifted_X0_becomeShifted
set_option maxRecDepth 20000 in
theorem ggX1_holdsShifted_X1_plainValues : GoodIn wsX1_holdsShifted wsX1_plainValues := goodIn_r _ [28, 29, 30, 31, 27, 32, 33, 34, 35, 13, 14, 8, 15, 10, 11, 16, 17, 18, 19, 36, 37, 38, 39, 40, 41, 42, 43, 44, 45, 46, 47, 48, 49, 50, 51, 71, 72, 63, 64, 65, 66, 67, 68, 69, 70] (by decide +kernel) (by decide +kernel)
set_option maxRecDepth 20000 in
theorem gX1_holdsShifted_X1_plainValues : GoodIn wsX1_holdsShifted (wsV RX1 96 RX1 yX1_plainValues wsX1_plainValues) := goodIn_app (goodIn_of _ (by decide +kernel)) ggX1_holdsShifted_X1_plainValues
set_option maxRecDepth 20000 in
theorem ggX1_holdsShifted_X1_weighedRow : GoodIn wsX1_holdsShifted wsX1_weighedRow := goodIn_r _ [55, 33, 34, 35, 13, 14, 8, 15, 10, 11, 16, 17, 18, 19, 36, 37, 38, 27, 39, 40, 41, 42, 43, 44, 45, 46, 47, 56, 57, 58, 48, 49, 50, 51, 71, 72, 63, 64, 65, 66, 67, 68, 69, 70] (by decide +kernel) (by decide +kernel)
set_option maxRecDepth 20000 in
theorem gX1_holdsShifted_X1_weighedRow : GoodIn wsX1_holdsShifted (wsV RX1 149 RX1 yX1_weighedRow wsX1_weighedRow) := goodIn_app (goodIn_of _ (by decide +kernel)) ggX1_holdsShifted_X1_weighedRow
set_option maxRecDepth 20000 in
theorem ggX1_holdsShifted_X0_isLike : GoodIn wsX1_holdsShifted wsX0_isLike := goodIn_r _ [62, 10, 11, 71, 72] (by decide +kernel) (by decide +kernel)
set_option maxRecDepth 20000 in
theorem gX1_holdsShifted_X0_isLike : GoodIn wsX1_holdsShifted (wsV RX1 79 RX0 yX0_isLike wsX0_isLike) := goodIn_app (goodIn_of _ (by decide +kernel)) ggX1_holdsShifted_X0_isLike
theorem dX1_holdsShifted_0 : decode cX1_holdsShifted 0 = .ok (.aload_n 0, 1) := by decide +kernel
theorem dX1_holdsShifted_1 : decode cX1_holdsShifted 1 = .ok (.getfield 16, 3) := by decide +kernel
theorem dX1_holdsShifted_4 : decode cX1_holdsShifted 4 = .ok (.aload_n 1, 1) := by decide +kernel
theorem dX1_holdsShifted_5 : decode cX1_holdsShifted 5 = .ok (.iload_n 2, 1) := by decide +kernel
theorem dX1_holdsShifted_6 : decode cX1_holdsShifted 6 = .ok (.invokevirtual 146, 3) := by decide +kernel
theorem dX1_holdsShifted_9 : decode cX1_holdsShifted 9 = .ok (.aload_n 0, 1) := by decide +kernel
theorem dX1_holdsShifted_10 : decode cX1_holdsShifted 10 = .ok (.aload_n 0, 1) := by decide +kernel
theorem dX1_holdsShifted_11 : decode cX1_holdsShifted 11 = .ok (.getfield 16, 3) := by decide +kernel
theorem dX1_holdsShifted_14 : decode cX1_holdsShifted 14 = .ok (.aload_n 0, 1) := by decide +kernel
theorem dX1_holdsShifted_15 : decode cX1_holdsShifted 15 = .ok (.getfield 29, 3) := by decide +kernel
theorem dX1_holdsShifted_18 : decode cX1_holdsShifted 18 = .ok (.invokevirtual 96, 3) := by decide +kernel
theorem dX1_holdsShifted_21 : decode cX1_holdsShifted 21 = .ok (.aload_n 0, 1) := by decide +kernel
theorem dX1_holdsShifted_22 : decode cX1_holdsShifted 22 = .ok (.aload_n 1, 1) := by decide +kernel
theorem dX1_holdsShifted_23 : decode cX1_holdsShifted 23 = .ok (.aload_n 0, 1) := by decide +kernel
theorem dX1_holdsShifted_24 : decode cX1_holdsShifted 24 = .ok (.getfield 20, 3) := by decide +kernel
theorem dX1_holdsShifted_27 : decode cX1_holdsShifted 27 = .ok (.invokevirtual 96, 3) := by decide +kernel
theorem dX1_holdsShifted_30 : decode cX1_holdsShifted 30 = .ok (.aload_n 0, 1) := by decide +kernel
theorem dX1_holdsShifted_31 : decode cX1_holdsShifted 31 = .ok (.aload_n 0, 1) := by decide +kernel
theorem dX1_holdsShifted_32 : decode cX1_holdsShifted 32 = .ok (.getfield 20, 3) := by decide +kernel
theorem dX1_holdsShifted_35 : decode cX1_holdsShifted 35 = .ok (.iload_n 2, 1) := by decide +kernel
theorem dX1_holdsShifted_36 : decode cX1_holdsShifted 36 = .ok (.aload_n 0, 1) := by decide +kernel
theorem dX1_holdsShifted_37 : decode cX1_holdsShifted 37 = .ok (.getfield 26, 3) := by decide +kernel
theorem dX1_holdsShifted_40 : decode cX1_holdsShifted 40 = .ok (.invokevirtual 149, 3) := by decide +kernel
theorem dX1_holdsShifted_43 : decode cX1_holdsShifted 43 = .ok (.aload_n 0, 1) := by decide +kernel
theorem dX1_holdsShifted_44 : decode cX1_holdsShifted 44 = .ok (.getfield 29, 3) := by decide +kernel
theorem dX1_holdsShifted_47 : decode cX1_holdsShifted 47 = .ok (.aload_n 0, 1) := by decide +kernel
theorem dX1_holdsShifted_48 : decode cX1_holdsShifted 48 = .ok (.getfield 26, 3) := by decide +kernel
theorem dX1_holdsShifted_51 : decode cX1_holdsShifted 51 = .ok (.invokevirtual 79, 3) := by decide +kernel
theorem dX1_holdsShifted_54 : decode cX1_holdsShifted 54 = .ok (.ireturn, 1) := by decide +kernel
set_option maxRecDepth 20000 in
theorem ggX1_holdsWeighed_X1_weighedRow : GoodIn wsX1_holdsWeighed wsX1_weighedRow := goodIn_r _ [9, 10, 11, 12, 13, 14, 15, 16, 17, 18, 19, 20, 21, 22, 23, 24, 25, 8, 26, 27, 28, 29, 30, 31, 32, 33, 34, 35, 36, 37, 38, 39, 40, 41, 71, 72, 63, 64, 65, 66, 67, 68, 69, 70] (by decide +kernel) (by decide +kernel)
set_option maxRecDepth 20000 in
theorem gX1_holdsWeighed_X1_weighedRow : GoodIn wsX1_holdsWeighed (wsV RX1 149 RX1 yX1_weighedRow wsX1_weighedRow) := goodIn_app (goodIn_of _ (by decide +kernel)) ggX1_holdsWeighed_X1_weighedRow
set_option maxRecDepth 20000 in
theorem ggX1_holdsWeighed_X1_plainValues : GoodIn wsX1_holdsWeighed wsX1_plainValues := goodIn_r _ [45, 46, 47, 48, 8, 49, 10, 11, 12, 13, 14, 15, 16, 17, 18, 19, 20, 21, 22, 23, 24, 25, 26, 27, 28, 29, 30, 31, 32, 33, 34, 38, 39, 40, 41, 71, 72, 63, 64, 65, 66, 67, 68, 69, 70] (by decide +kernel) (by decide +kernel)
set_option maxRecDepth 20000 in
theorem gX1_holdsWeighed_X1_plainValues : GoodIn wsX1_holdsWeighed (wsV RX1 96 RX1 yX1_plainValues wsX1_plainValues) := goodIn_app (goodIn_of _ (by decide +kernel)) ggX1_holdsWeighed_X1_plainValues
set_option maxRecDepth 20000 in
theorem ggX1_holdsWeighed_X0_becomeShifted : GoodIn wsX1_holdsWeighed wsX0_becomeShifted := goodIn_r _ [53, 17, 18, 54, 13, 14, 15, 16, 19, 20, 21, 22, 55, 56, 57, 58, 71, 72] (by decide +kernel) (by decide +kernel)
set_option maxRecDepth 20000 in
theorem gX1_holdsWeighed_X0_becomeShifted : GoodIn wsX1_holdsWeighed (wsV RX1 146 RX0 yX0_becomeShifted wsX0_becomeShifted) := goodIn_app (goodIn_of _ (by decide +kernel)) ggX1_holdsWeighed_X0_becomeShifted
set_option maxRecDepth 20000 in
theorem ggX1_holdsWeighed_X0_isLike : GoodIn wsX1_holdsWeighed wsX0_isLike := goodIn_r _ [62, 17, 18, 71, 72] (by decide +kernel) (by decide +kernel)
set_option maxRecDepth 20000 in
theorem gX1_holdsWeighed_X0_isLike : GoodIn wsX1_holdsWeighed (wsV RX1 79 RX0 yX0_isLike wsX0_isLike) := goodIn_app (goodIn_of _ (by decide +kernel)) ggX1_holdsWeighed_X0_isLike
theorem dX1_holdsWeighed_0 : decode cX1_holdsWeighed 0 = .ok (.aload_n 0, 1) := by decide +kernel
theorem dX1_holdsWeighed_1 : decode cX1_holdsWeighed 1 = .ok (.aload_n 1, 1) := by decide +kernel
theorem dX1_holdsWeighed_2 : decode cX1_holdsWeighed 2 = .ok (.iload_n 2, 1) := by decide +kernel
theorem dX1_holdsWeighed_3 : decode cX1_holdsWeighed 3 = .ok (.aload_n 0, 1) := by decide +kernel
theorem dX1_holdsWeighed_4 : decode cX1_holdsWeighed 4 = .ok (.getfield 16, 3) := by decide +kernel
theorem dX1_holdsWeighed_7 : decode cX1_holdsWeighed 7 = .ok (.invokevirtual 149, 3) := by decide +kernel
theorem dX1_holdsWeighed_10 : decode cX1_holdsWeighed 10 = .ok (.aload_n 0, 1) := by decide +kernel
theorem dX1_holdsWeighed_11 : decode cX1_holdsWeighed 11 = .ok (.aload_n 0, 1) := by decide +kernel
theorem dX1_holdsWeighed_12 : decode cX1_holdsWeighed 12 = .ok (.getfield 16, 3) := by decide +kernel
theorem dX1_holdsWeighed_15 : decode cX1_holdsWeighed 15 = .ok (.aload_n 0, 1) := by decide +kernel
theorem dX1_holdsWeighed_16 : decode cX1_holdsWeighed 16 = .ok (.getfield 29, 3) := by decide +kernel
theorem dX1_holdsWeighed_19 : decode cX1_holdsWeighed 19 = .ok (.invokevirtual 96, 3) := by decide +kernel
theorem dX1_holdsWeighed_22 : decode cX1_holdsWeighed 22 = .ok (.aload_n 0, 1) := by decide +kernel
theorem dX1_holdsWeighed_23 : decode cX1_holdsWeighed 23 = .ok (.aload_n 1, 1) := by decide +kernel
theorem dX1_holdsWeighed_24 : decode cX1_holdsWeighed 24 = .ok (.aload_n 0, 1) := by decide +kernel
theorem dX1_holdsWeighed_25 : decode cX1_holdsWeighed 25 = .ok (.getfield 20, 3) := by decide +kernel
theorem dX1_holdsWeighed_28 : decode cX1_holdsWeighed 28 = .ok (.invokevirtual 96, 3) := by decide +kernel
theorem dX1_holdsWeighed_31 : decode cX1_holdsWeighed 31 = .ok (.aload_n 0, 1) := by decide +kernel
theorem dX1_holdsWeighed_32 : decode cX1_holdsWeighed 32 = .ok (.getfield 26, 3) := by decide +kernel
theorem dX1_holdsWeighed_35 : decode cX1_holdsWeighed 35 = .ok (.aload_n 0, 1) := by decide +kernel
theorem dX1_holdsWeighed_36 : decode cX1_holdsWeighed 36 = .ok (.getfield 20, 3) := by decide +kernel
theorem dX1_holdsWeighed_39 : decode cX1_holdsWeighed 39 = .ok (.iload_n 2, 1) := by decide +kernel
theorem dX1_holdsWeighed_40 : decode cX1_holdsWeighed 40 = .ok (.ineg, 1) := by decide +kernel
theorem dX1_holdsWeighed_41 : decode cX1_holdsWeighed 41 = .ok (.invokevirtual 146, 3) := by decide +kernel
theorem dX1_holdsWeighed_44 : decode cX1_holdsWeighed 44 = .ok (.aload_n 0, 1) := by decide +kernel
theorem dX1_holdsWeighed_45 : decode cX1_holdsWeighed 45 = .ok (.getfield 29, 3) := by decide +kernel
theorem dX1_holdsWeighed_48 : decode cX1_holdsWeighed 48 = .ok (.aload_n 0, 1) := by decide +kernel
theorem dX1_holdsWeighed_49 : decode cX1_holdsWeighed 49 = .ok (.getfield 26, 3) := by decide +kernel
theorem dX1_holdsWeighed_52 : decode cX1_holdsWeighed 52 = .ok (.invokevirtual 79, 3) := by decide +kernel
theorem dX1_holdsWeighed_55 : decode cX1_holdsWeighed 55 = .ok (.ireturn, 1) := by decide +kernel
set_option maxRecDepth 20000 in
theorem ggX1_holdsSumOfProducts_X1_plainValues : GoodIn wsX1_holdsSumOfProducts wsX1_plainValues := goodIn_r _ [8, 9, 10, 11, 7, 12, 3, 13, 14, 15, 16, 17, 18, 19, 20, 21, 22, 23, 24, 25, 26, 27, 28, 29, 30, 31, 32, 33, 34, 35, 36, 37, 38, 39, 40, 60, 61, 52, 53, 54, 55, 56, 57, 58, 59] (by decide +kernel) (by decide +kernel)
set_option maxRecDepth 20000 in
theorem gX1_holdsSumOfProducts_X1_plainValues : GoodIn wsX1_holdsSumOfProducts (wsV RX1 96 RX1 yX1_plainValues wsX1_plainValues) := goodIn_app (goodIn_of _ (by decide +kernel)) ggX1_holdsSumOfProducts_X1_plainValues
set_option maxRecDepth 20000 in
theorem ggX1_holdsSumOfProducts_X0_sumOfProducts : GoodIn wsX1_holdsSumOfProducts wsX0_sumOfProducts := goodIn_r _ [44, 19, 20, 45, 46, 47, 17, 48, 38, 7, 39, 40, 60, 61] (by decide +kernel) (by decide +kernel)
set_option maxRecDepth 20000 in
theorem gX1_holdsSumOfProducts_X0_sumOfProducts : GoodIn wsX1_holdsSumOfProducts (wsV RX1 186 RX0 yX0_sumOfProducts wsX0_sumOfProducts) := goodIn_app (goodIn_of _ (by decide +kernel)) ggX1_holdsSumOfProducts_X0_sumOfProducts
set_option maxRecDepth 20000 in
theorem ggX1_holdsSumOfProducts_X1_multiplied : GoodIn wsX1_holdsSumOfProducts wsX1_multiplied := goodIn_r _ [51, 37, 38, 7, 39, 40] (by decide +kernel) (by decide +kernel)
set_option maxRecDepth 20000 in
theorem gX1_holdsSumOfProducts_X1_multiplied : GoodIn wsX1_holdsSumOfProducts (va_wsS RX1 105 yX1_multiplied wsX1_multiplied) := goodIn_app (goodIn_of _ (by decide +kernel)) ggX1_holdsSumOfProducts_X1_multiplied
theorem dX1_holdsSumOfProducts_0 : decode cX1_holdsSumOfProducts 0 = .ok (.aload_n 0, 1) := by decide +kernel
theorem dX1_holdsSumOfProducts_1 : decode cX1_holdsSumOfProducts 1 = .ok (.aload_n 1, 1) := by decide +kernel
theorem dX1_holdsSumOfProducts_2 : decode cX1_holdsSumOfProducts 2 = .ok (.aload_n 0, 1) := by decide +kernel
theorem dX1_holdsSumOfProducts_3 : decode cX1_holdsSumOfProducts 3 = .ok (.getfield 16, 3) := by decide +kernel
theorem dX1_holdsSumOfProducts_6 : decode cX1_holdsSumOfProducts 6 = .ok (.invokevirtual 96, 3) := by decide +kernel
theorem dX1_holdsSumOfProducts_9 : decode cX1_holdsSumOfProducts 9 = .ok (.aload_n 0, 1) := by decide +kernel
theorem dX1_holdsSumOfProducts_10 : decode cX1_holdsSumOfProducts 10 = .ok (.aload_n 2, 1) := by decide +kernel
theorem dX1_holdsSumOfProducts_11 : decode cX1_holdsSumOfProducts 11 = .ok (.aload_n 0, 1) := by decide +kernel
theorem dX1_holdsSumOfProducts_12 : decode cX1_holdsSumOfProducts 12 = .ok (.getfield 20, 3) := by decide +kernel
theorem dX1_holdsSumOfProducts_15 : decode cX1_holdsSumOfProducts 15 = .ok (.invokevirtual 96, 3) := by decide +kernel
theorem dX1_holdsSumOfProducts_18 : decode cX1_holdsSumOfProducts 18 = .ok (.aload_n 1, 1) := by decide +kernel
theorem dX1_holdsSumOfProducts_19 : decode cX1_holdsSumOfProducts 19 = .ok (.getfield 47, 3) := by decide +kernel
theorem dX1_holdsSumOfProducts_22 : decode cX1_holdsSumOfProducts 22 = .ok (.aload_n 1, 1) := by decide +kernel
theorem dX1_holdsSumOfProducts_23 : decode cX1_holdsSumOfProducts 23 = .ok (.aload_n 2, 1) := by decide +kernel
theorem dX1_holdsSumOfProducts_24 : decode cX1_holdsSumOfProducts 24 = .ok (.iconst 1, 1) := by decide +kernel
theorem dX1_holdsSumOfProducts_25 : decode cX1_holdsSumOfProducts 25 = .ok (.invokevirtual 186, 3) := by decide +kernel
theorem dX1_holdsSumOfProducts_28 : decode cX1_holdsSumOfProducts 28 = .ok (.invokestatic 105, 3) := by decide +kernel
theorem dX1_holdsSumOfProducts_31 : decode cX1_holdsSumOfProducts 31 = .ok (.aload_n 0, 1) := by decide +kernel
theorem dX1_holdsSumOfProducts_32 : decode cX1_holdsSumOfProducts 32 = .ok (.getfield 16, 3) := by decide +kernel
theorem dX1_holdsSumOfProducts_35 : decode cX1_holdsSumOfProducts 35 = .ok (.aload_n 0, 1) := by decide +kernel
theorem dX1_holdsSumOfProducts_36 : decode cX1_holdsSumOfProducts 36 = .ok (.getfield 20, 3) := by decide +kernel
theorem dX1_holdsSumOfProducts_39 : decode cX1_holdsSumOfProducts 39 = .ok (.iconst 0, 1) := by decide +kernel
theorem dX1_holdsSumOfProducts_40 : decode cX1_holdsSumOfProducts 40 = .ok (.invokevirtual 186, 3) := by decide +kernel
theorem dX1_holdsSumOfProducts_43 : decode cX1_holdsSumOfProducts 43 = .ok (.if_icmp .ne 7, 3) := by decide +kernel
theorem dX1_holdsSumOfProducts_46 : decode cX1_holdsSumOfProducts 46 = .ok (.iconst 1, 1) := by decide +kernel
theorem dX1_holdsSumOfProducts_47 : decode cX1_holdsSumOfProducts 47 = .ok (.goto 4, 3) := by decide +kernel
theorem dX1_holdsSumOfProducts_50 : decode cX1_holdsSumOfProducts 50 = .ok (.iconst 0, 1) := by decide +kernel
theorem dX1_holdsSumOfProducts_51 : decode cX1_holdsSumOfProducts 51 = .ok (.ireturn, 1) := by decide +kernel
set_option maxRecDepth 20000 in
theorem ggX1_holdsSums_X0_becomeSums : GoodIn wsX1_holdsSums wsX0_becomeSums := goodIn_r _ [10, 11, 12, 13, 14, 15, 16, 62, 63] (by decide +kernel) (by decide +kernel)
set_option maxRecDepth 20000 in
theorem gX1_holdsSums_X0_becomeSums : GoodIn wsX1_holdsSums (wsV RX1 158 RX0 yX0_becomeSums wsX0_becomeSums) := goodIn_app (goodIn_of _ (by decide +kernel)) ggX1_holdsSums_X0_becomeSums
set_option maxRecDepth 20000 in
theorem ggX1_holdsSums_X1_plainValues : GoodIn wsX1_holdsSums wsX1_plainValues := goodIn_r _ [20, 21, 22, 23, 14, 24, 25, 26, 27, 28, 29, 9, 30, 11, 12, 31, 32, 33, 34, 35, 36, 37, 38, 39, 40, 41, 42, 43, 44, 45, 16, 46, 47, 48, 49, 62, 63, 54, 55, 56, 57, 58, 59, 60, 61] (by decide +kernel) (by decide +kernel)
set_option maxRecDepth 20000 in
theorem gX1_holdsSums_X1_plainValues : GoodIn wsX1_holdsSums (wsV RX1 96 RX1 yX1_plainValues wsX1_plainValues) := goodIn_app (goodIn_of _ (by decide +kernel)) ggX1_holdsSums_X1_plainValues
set_option maxRecDepth 20000 in
theorem ggX1_holdsSums_X0_isLike : GoodIn wsX1_holdsSums wsX0_isLike := goodIn_r _ [53, 11, 12, 62, 63] (by decide +kernel) (by decide +kernel)
set_option maxRecDepth 20000 in
theorem gX1_holdsSums_X0_isLike : GoodIn wsX1_holdsSums (wsV RX1 79 RX0 yX0_isLike wsX0_isLike) := goodIn_app (goodIn_of _ (by decide +kernel)) ggX1_holdsSums_X0_isLike
theorem dX1_holdsSums_0 : decode cX1_holdsSums 0 = .ok (.aload_n 0, 1) := by decide +kernel
theorem dX1_holdsSums_1 : decode cX1_holdsSums 1 = .ok (.getfield 23, 3) := by decide +kernel
theorem dX1_holdsSums_4 : decode cX1_holdsSums 4 = .ok (.aload_n 1, 1) := by decide +kernel
theorem dX1_holdsSums_5 : decode cX1_holdsSums 5 = .ok (.aload_n 2, 1) := by decide +kernel
theorem dX1_holdsSums_6 : decode cX1_holdsSums 6 = .ok (.invokevirtual 158, 3) := by decide +kernel
theorem dX1_holdsSums_9 : decode cX1_holdsSums 9 = .ok (.aload_n 0, 1) := by decide +kernel
theorem dX1_holdsSums_10 : decode cX1_holdsSums 10 = .ok (.aload_n 0, 1) := by decide +kernel
theorem dX1_holdsSums_11 : decode cX1_holdsSums 11 = .ok (.getfield 23, 3) := by decide +kernel
theorem dX1_holdsSums_14 : decode cX1_holdsSums 14 = .ok (.aload_n 0, 1) := by decide +kernel
theorem dX1_holdsSums_15 : decode cX1_holdsSums 15 = .ok (.getfield 29, 3) := by decide +kernel
theorem dX1_holdsSums_18 : decode cX1_holdsSums 18 = .ok (.invokevirtual 96, 3) := by decide +kernel
theorem dX1_holdsSums_21 : decode cX1_holdsSums 21 = .ok (.aload_n 0, 1) := by decide +kernel
theorem dX1_holdsSums_22 : decode cX1_holdsSums 22 = .ok (.aload_n 1, 1) := by decide +kernel
theorem dX1_holdsSums_23 : decode cX1_holdsSums 23 = .ok (.aload_n 0, 1) := by decide +kernel
theorem dX1_holdsSums_24 : decode cX1_holdsSums 24 = .ok (.getfield 16, 3) := by decide +kernel
theorem dX1_holdsSums_27 : decode cX1_holdsSums 27 = .ok (.invokevirtual 96, 3) := by decide +kernel
theorem dX1_holdsSums_30 : decode cX1_holdsSums 30 = .ok (.aload_n 0, 1) := by decide +kernel
theorem dX1_holdsSums_31 : decode cX1_holdsSums 31 = .ok (.aload_n 2, 1) := by decide +kernel
theorem dX1_holdsSums_32 : decode cX1_holdsSums 32 = .ok (.aload_n 0, 1) := by decide +kernel
theorem dX1_holdsSums_33 : decode cX1_holdsSums 33 = .ok (.getfield 20, 3) := by decide +kernel
theorem dX1_holdsSums_36 : decode cX1_holdsSums 36 = .ok (.invokevirtual 96, 3) := by decide +kernel
theorem dX1_holdsSums_39 : decode cX1_holdsSums 39 = .ok (.aload_n 0, 1) := by decide +kernel
theorem dX1_holdsSums_40 : decode cX1_holdsSums 40 = .ok (.getfield 26, 3) := by decide +kernel
theorem dX1_holdsSums_43 : decode cX1_holdsSums 43 = .ok (.aload_n 0, 1) := by decide +kernel
theorem dX1_holdsSums_44 : decode cX1_holdsSums 44 = .ok (.getfield 16, 3) := by decide +kernel
theorem dX1_holdsSums_47 : decode cX1_holdsSums 47 = .ok (.aload_n 0, 1) := by decide +kernel
theorem dX1_holdsSums_48 : decode cX1_holdsSums 48 = .ok (.getfield 20, 3) := by decide +kernel
theorem dX1_holdsSums_51 : decode cX1_holdsSums 51 = .ok (.invokevirtual 158, 3) := by decide +kernel
theorem dX1_holdsSums_54 : decode cX1_holdsSums 54 = .ok (.aload_n 0, 1) := by decide +kernel
theorem dX1_holdsSums_55 : decode cX1_holdsSums 55 = .ok (.getfield 29, 3) := by decide +kernel
theorem dX1_holdsSums_58 : decode cX1_holdsSums 58 = .ok (.aload_n 0, 1) := by decide +kernel
theorem dX1_holdsSums_59 : decode cX1_holdsSums 59 = .ok (.getfield 26, 3) := by decide +kernel
theorem dX1_holdsSums_62 : decode cX1_holdsSums 62 = .ok (.invokevirtual 79, 3) := by decide +kernel
theorem dX1_holdsSums_65 : decode cX1_holdsSums 65 = .ok (.ireturn, 1) := by decide +kernel
set_option maxRecDepth 20000 in
theorem ggX1_holdsScaled_X0_becomeScaled : GoodIn wsX1_holdsScaled wsX0_becomeScaled := goodIn_r _ [9, 10, 11, 12, 13, 14, 15, 16, 17, 18, 61, 62] (by decide +kernel) (by decide +kernel)
set_option maxRecDepth 20000 in
theorem gX1_holdsScaled_X0_becomeScaled : GoodIn wsX1_holdsScaled (wsV RX1 167 RX0 yX0_becomeScaled wsX0_becomeScaled) := goodIn_app (goodIn_of _ (by decide +kernel)) ggX1_holdsScaled_X0_becomeScaled
set_option maxRecDepth 20000 in
theorem ggX1_holdsScaled_X1_plainValues : GoodIn wsX1_holdsScaled wsX1_plainValues := goodIn_r _ [22, 23, 24, 25, 13, 26, 27, 28, 29, 30, 31, 8, 32, 10, 11, 33, 34, 35, 36, 37, 38, 39, 40, 41, 42, 43, 44, 45, 46, 47, 48, 15, 16, 17, 18, 61, 62, 53, 54, 55, 56, 57, 58, 59, 60] (by decide +kernel) (by decide +kernel)
set_option maxRecDepth 20000 in
theorem gX1_holdsScaled_X1_plainValues : GoodIn wsX1_holdsScaled (wsV RX1 96 RX1 yX1_plainValues wsX1_plainValues) := goodIn_app (goodIn_of _ (by decide +kernel)) ggX1_holdsScaled_X1_plainValues
set_option maxRecDepth 20000 in
theorem ggX1_holdsScaled_X0_isLike : GoodIn wsX1_holdsScaled wsX0_isLike := goodIn_r _ [52, 10, 11, 61, 62] (by decide +kernel) (by decide +kernel)
set_option maxRecDepth 20000 in
theorem gX1_holdsScaled_X0_isLike : GoodIn wsX1_holdsScaled (wsV RX1 79 RX0 yX0_isLike wsX0_isLike) := goodIn_app (goodIn_of _ (by decide +kernel)) ggX1_holdsScaled_X0_isLike
theorem dX1_holdsScaled_0 : decode cX1_holdsScaled 0 = .ok (.aload_n 0, 1) := by decide +kernel
theorem dX1_holdsScaled_1 : decode cX1_holdsScaled 1 = .ok (.getfield 23, 3) := by decide +kernel
theorem dX1_holdsScaled_4 : decode cX1_holdsScaled 4 = .ok (.aload_n 1, 1) := by decide +kernel
theorem dX1_holdsScaled_5 : decode cX1_holdsScaled 5 = .ok (.iload_n 2, 1) := by decide +kernel
theorem dX1_holdsScaled_6 : decode cX1_holdsScaled 6 = .ok (.invokevirtual 167, 3) := by decide +kernel
theorem dX1_holdsScaled_9 : decode cX1_holdsScaled 9 = .ok (.aload_n 0, 1) := by decide +kernel
theorem dX1_holdsScaled_10 : decode cX1_holdsScaled 10 = .ok (.aload_n 0, 1) := by decide +kernel
theorem dX1_holdsScaled_11 : decode cX1_holdsScaled 11 = .ok (.getfield 23, 3) := by decide +kernel
theorem dX1_holdsScaled_14 : decode cX1_holdsScaled 14 = .ok (.aload_n 0, 1) := by decide +kernel
theorem dX1_holdsScaled_15 : decode cX1_holdsScaled 15 = .ok (.getfield 29, 3) := by decide +kernel
theorem dX1_holdsScaled_18 : decode cX1_holdsScaled 18 = .ok (.invokevirtual 96, 3) := by decide +kernel
theorem dX1_holdsScaled_21 : decode cX1_holdsScaled 21 = .ok (.aload_n 0, 1) := by decide +kernel
theorem dX1_holdsScaled_22 : decode cX1_holdsScaled 22 = .ok (.aload_n 1, 1) := by decide +kernel
theorem dX1_holdsScaled_23 : decode cX1_holdsScaled 23 = .ok (.aload_n 0, 1) := by decide +kernel
theorem dX1_holdsScaled_24 : decode cX1_holdsScaled 24 = .ok (.getfield 16, 3) := by decide +kernel
theorem dX1_holdsScaled_27 : decode cX1_holdsScaled 27 = .ok (.invokevirtual 96, 3) := by decide +kernel
theorem dX1_holdsScaled_30 : decode cX1_holdsScaled 30 = .ok (.aload_n 0, 1) := by decide +kernel
theorem dX1_holdsScaled_31 : decode cX1_holdsScaled 31 = .ok (.getfield 26, 3) := by decide +kernel
theorem dX1_holdsScaled_34 : decode cX1_holdsScaled 34 = .ok (.aload_n 0, 1) := by decide +kernel
theorem dX1_holdsScaled_35 : decode cX1_holdsScaled 35 = .ok (.getfield 16, 3) := by decide +kernel
theorem dX1_holdsScaled_38 : decode cX1_holdsScaled 38 = .ok (.iload_n 2, 1) := by decide +kernel
theorem dX1_holdsScaled_39 : decode cX1_holdsScaled 39 = .ok (.invokevirtual 167, 3) := by decide +kernel
theorem dX1_holdsScaled_42 : decode cX1_holdsScaled 42 = .ok (.aload_n 0, 1) := by decide +kernel
theorem dX1_holdsScaled_43 : decode cX1_holdsScaled 43 = .ok (.getfield 29, 3) := by decide +kernel
theorem dX1_holdsScaled_46 : decode cX1_holdsScaled 46 = .ok (.aload_n 0, 1) := by decide +kernel
theorem dX1_holdsScaled_47 : decode cX1_holdsScaled 47 = .ok (.getfield 26, 3) := by decide +kernel
theorem dX1_holdsScaled_50 : decode cX1_holdsScaled 50 = .ok (.invokevirtual 79, 3) := by decide +kernel
theorem dX1_holdsScaled_53 : decode cX1_holdsScaled 53 = .ok (.ireturn, 1) := by decide +kernel
set_option maxRecDepth 20000 in
theorem ggX1_holdsAgain_X1_plainValues : GoodIn wsX1_holdsAgain wsX1_plainValues := goodIn_r _ [7, 8, 9, 10, 6, 11, 2, 12, 13, 14, 15, 16, 17, 18, 19, 20, 21, 22, 23, 24, 25, 26, 27, 28, 29, 30, 31, 32, 33, 34, 35, 36, 37, 38, 39, 60, 61, 52, 53, 54, 55, 56, 57, 58, 59] (by decide +kernel) (by decide +kernel)
set_option maxRecDepth 20000 in
theorem gX1_holdsAgain_X1_plainValues : GoodIn wsX1_holdsAgain (wsV RX1 96 RX1 yX1_plainValues wsX1_plainValues) := goodIn_app (goodIn_of _ (by decide +kernel)) ggX1_holdsAgain_X1_plainValues
set_option maxRecDepth 20000 in
theorem ggX1_holdsAgain_X0_comesAgain : GoodIn wsX1_holdsAgain wsX0_comesAgain := goodIn_r _ [43, 18, 19, 44, 45, 46, 16, 47, 60, 61] (by decide +kernel) (by decide +kernel)
set_option maxRecDepth 20000 in
theorem gX1_holdsAgain_X0_comesAgain : GoodIn wsX1_holdsAgain (wsV RX1 179 RX0 yX0_comesAgain wsX0_comesAgain) := goodIn_app (goodIn_of _ (by decide +kernel)) ggX1_holdsAgain_X0_comesAgain
set_option maxRecDepth 20000 in
theorem ggX1_holdsAgain_X0_isZeroOffMultiples : GoodIn wsX1_holdsAgain wsX0_isZeroOffMultiples := goodIn_r _ [51, 18, 19, 60, 61] (by decide +kernel) (by decide +kernel)
set_option maxRecDepth 20000 in
theorem gX1_holdsAgain_X0_isZeroOffMultiples : GoodIn wsX1_holdsAgain (wsV RX1 298 RX0 yX0_isZeroOffMultiples wsX0_isZeroOffMultiples) := goodIn_app (goodIn_of _ (by decide +kernel)) ggX1_holdsAgain_X0_isZeroOffMultiples
theorem dX1_holdsAgain_0 : decode cX1_holdsAgain 0 = .ok (.aload_n 0, 1) := by decide +kernel
theorem dX1_holdsAgain_1 : decode cX1_holdsAgain 1 = .ok (.aload_n 1, 1) := by decide +kernel
theorem dX1_holdsAgain_2 : decode cX1_holdsAgain 2 = .ok (.aload_n 0, 1) := by decide +kernel
theorem dX1_holdsAgain_3 : decode cX1_holdsAgain 3 = .ok (.getfield 29, 3) := by decide +kernel
theorem dX1_holdsAgain_6 : decode cX1_holdsAgain 6 = .ok (.invokevirtual 96, 3) := by decide +kernel
theorem dX1_holdsAgain_9 : decode cX1_holdsAgain 9 = .ok (.iconst 1, 1) := by decide +kernel
theorem dX1_holdsAgain_10 : decode cX1_holdsAgain 10 = .ok (.istore_n 2, 1) := by decide +kernel
theorem dX1_holdsAgain_11 : decode cX1_holdsAgain 11 = .ok (.iload_n 2, 1) := by decide +kernel
theorem dX1_holdsAgain_12 : decode cX1_holdsAgain 12 = .ok (.aload_n 1, 1) := by decide +kernel
theorem dX1_holdsAgain_13 : decode cX1_holdsAgain 13 = .ok (.getfield 47, 3) := by decide +kernel
theorem dX1_holdsAgain_16 : decode cX1_holdsAgain 16 = .ok (.if_icmp .gt 28, 3) := by decide +kernel
theorem dX1_holdsAgain_19 : decode cX1_holdsAgain 19 = .ok (.aload_n 1, 1) := by decide +kernel
theorem dX1_holdsAgain_20 : decode cX1_holdsAgain 20 = .ok (.iload_n 2, 1) := by decide +kernel
theorem dX1_holdsAgain_21 : decode cX1_holdsAgain 21 = .ok (.invokevirtual 179, 3) := by decide +kernel
theorem dX1_holdsAgain_24 : decode cX1_holdsAgain 24 = .ok (.aload_n 0, 1) := by decide +kernel
theorem dX1_holdsAgain_25 : decode cX1_holdsAgain 25 = .ok (.getfield 29, 3) := by decide +kernel
theorem dX1_holdsAgain_28 : decode cX1_holdsAgain 28 = .ok (.iload_n 2, 1) := by decide +kernel
theorem dX1_holdsAgain_29 : decode cX1_holdsAgain 29 = .ok (.invokevirtual 298, 3) := by decide +kernel
theorem dX1_holdsAgain_32 : decode cX1_holdsAgain 32 = .ok (.if_icmp .eq 5, 3) := by decide +kernel
theorem dX1_holdsAgain_35 : decode cX1_holdsAgain 35 = .ok (.iconst 0, 1) := by decide +kernel
theorem dX1_holdsAgain_36 : decode cX1_holdsAgain 36 = .ok (.ireturn, 1) := by decide +kernel
theorem dX1_holdsAgain_37 : decode cX1_holdsAgain 37 = .ok (.iload_n 2, 1) := by decide +kernel
theorem dX1_holdsAgain_38 : decode cX1_holdsAgain 38 = .ok (.iconst 2, 1) := by decide +kernel
theorem dX1_holdsAgain_39 : decode cX1_holdsAgain 39 = .ok (.imul, 1) := by decide +kernel
theorem dX1_holdsAgain_40 : decode cX1_holdsAgain 40 = .ok (.istore_n 2, 1) := by decide +kernel
theorem dX1_holdsAgain_41 : decode cX1_holdsAgain 41 = .ok (.goto (-30), 3) := by decide +kernel
theorem dX1_holdsAgain_44 : decode cX1_holdsAgain 44 = .ok (.iconst 1, 1) := by decide +kernel
theorem dX1_holdsAgain_45 : decode cX1_holdsAgain 45 = .ok (.ireturn, 1) := by decide +kernel
set_option maxRecDepth 20000 in
theorem ggX1_holdsOwn_X1_ownRow : GoodIn wsX1_holdsOwn wsX1_ownRow := goodIn_r _ [9, 10, 4, 11, 12, 13, 14, 15, 16, 17, 18, 19, 20, 21, 22, 23, 24, 25, 26, 27, 28, 29, 30, 31, 32, 33, 34, 8, 35, 36, 37, 38, 39, 40, 41, 42, 43, 44, 45, 46, 47, 48, 49, 50, 51, 52, 53, 54, 55, 56, 57, 58, 59, 60, 61, 62, 63, 64, 65, 66, 67, 68, 69, 70, 75, 76, 77, 78, 79, 80, 81, 82, 83, 84] (by decide +kernel) (by decide +kernel)
set_option maxRecDepth 20000 in
theorem gX1_holdsOwn_X1_ownRow : GoodIn wsX1_holdsOwn (wsV RX1 176 RX1 yX1_ownRow wsX1_ownRow) := goodIn_app (goodIn_of _ (by decide +kernel)) ggX1_holdsOwn_X1_ownRow
set_option maxRecDepth 20000 in
theorem ggX1_holdsOwn_X1_plainValues : GoodIn wsX1_holdsOwn wsX1_plainValues := goodIn_r _ [40, 41, 42, 43, 8, 44, 4, 45, 46, 19, 20, 14, 21, 16, 17, 22, 23, 24, 25, 47, 48, 49, 50, 51, 52, 53, 54, 55, 56, 57, 36, 58, 59, 60, 61, 83, 84, 75, 76, 77, 78, 79, 80, 81, 82] (by decide +kernel) (by decide +kernel)
set_option maxRecDepth 20000 in
theorem gX1_holdsOwn_X1_plainValues : GoodIn wsX1_holdsOwn (wsV RX1 96 RX1 yX1_plainValues wsX1_plainValues) := goodIn_app (goodIn_of _ (by decide +kernel)) ggX1_holdsOwn_X1_plainValues
set_option maxRecDepth 20000 in
theorem ggX1_holdsOwn_X1_ownScale : GoodIn wsX1_holdsOwn wsX1_ownScale := goodIn_r _ [64] (by decide +kernel) (by decide +kernel)
set_option maxRecDepth 20000 in
theorem gX1_holdsOwn_X1_ownScale : GoodIn wsX1_holdsOwn (va_wsS RX1 280 yX1_ownScale wsX1_ownScale) := goodIn_app (goodIn_of _ (by decide +kernel)) ggX1_holdsOwn_X1_ownScale
set_option maxRecDepth 20000 in
theorem ggX1_holdsOwn_X0_becomeScaled : GoodIn wsX1_holdsOwn wsX0_becomeScaled := goodIn_r _ [68, 16, 17, 69, 8, 70, 58, 59, 60, 61, 83, 84] (by decide +kernel) (by decide +kernel)
set_option maxRecDepth 20000 in
theorem gX1_holdsOwn_X0_becomeScaled : GoodIn wsX1_holdsOwn (wsV RX1 167 RX0 yX0_becomeScaled wsX0_becomeScaled) := goodIn_app (goodIn_of _ (by decide +kernel)) ggX1_holdsOwn_X0_becomeScaled
set_option maxRecDepth 20000 in
theorem ggX1_holdsOwn_X0_isLike : GoodIn wsX1_holdsOwn wsX0_isLike := goodIn_r _ [74, 16, 17, 83, 84] (by decide +kernel) (by decide +kernel)
set_option maxRecDepth 20000 in
theorem gX1_holdsOwn_X0_isLike : GoodIn wsX1_holdsOwn (wsV RX1 79 RX0 yX0_isLike wsX0_isLike) := goodIn_app (goodIn_of _ (by decide +kernel)) ggX1_holdsOwn_X0_isLike
theorem dX1_holdsOwn_0 : decode cX1_holdsOwn 0 = .ok (.aload_n 0, 1) := by decide +kernel
theorem dX1_holdsOwn_1 : decode cX1_holdsOwn 1 = .ok (.aload_n 1, 1) := by decide +kernel
theorem dX1_holdsOwn_2 : decode cX1_holdsOwn 2 = .ok (.aload_n 0, 1) := by decide +kernel
theorem dX1_holdsOwn_3 : decode cX1_holdsOwn 3 = .ok (.getfield 16, 3) := by decide +kernel
theorem dX1_holdsOwn_6 : decode cX1_holdsOwn 6 = .ok (.invokevirtual 176, 3) := by decide +kernel
theorem dX1_holdsOwn_9 : decode cX1_holdsOwn 9 = .ok (.aload_n 0, 1) := by decide +kernel
theorem dX1_holdsOwn_10 : decode cX1_holdsOwn 10 = .ok (.aload_n 0, 1) := by decide +kernel
theorem dX1_holdsOwn_11 : decode cX1_holdsOwn 11 = .ok (.getfield 16, 3) := by decide +kernel
theorem dX1_holdsOwn_14 : decode cX1_holdsOwn 14 = .ok (.aload_n 0, 1) := by decide +kernel
theorem dX1_holdsOwn_15 : decode cX1_holdsOwn 15 = .ok (.getfield 29, 3) := by decide +kernel
theorem dX1_holdsOwn_18 : decode cX1_holdsOwn 18 = .ok (.invokevirtual 96, 3) := by decide +kernel
theorem dX1_holdsOwn_21 : decode cX1_holdsOwn 21 = .ok (.aload_n 0, 1) := by decide +kernel
theorem dX1_holdsOwn_22 : decode cX1_holdsOwn 22 = .ok (.getfield 26, 3) := by decide +kernel
theorem dX1_holdsOwn_25 : decode cX1_holdsOwn 25 = .ok (.aload_n 0, 1) := by decide +kernel
theorem dX1_holdsOwn_26 : decode cX1_holdsOwn 26 = .ok (.getfield 16, 3) := by decide +kernel
theorem dX1_holdsOwn_29 : decode cX1_holdsOwn 29 = .ok (.aload_n 1, 1) := by decide +kernel
theorem dX1_holdsOwn_30 : decode cX1_holdsOwn 30 = .ok (.getfield 47, 3) := by decide +kernel
theorem dX1_holdsOwn_33 : decode cX1_holdsOwn 33 = .ok (.invokestatic 280, 3) := by decide +kernel
theorem dX1_holdsOwn_36 : decode cX1_holdsOwn 36 = .ok (.invokevirtual 167, 3) := by decide +kernel
theorem dX1_holdsOwn_39 : decode cX1_holdsOwn 39 = .ok (.aload_n 0, 1) := by decide +kernel
theorem dX1_holdsOwn_40 : decode cX1_holdsOwn 40 = .ok (.getfield 29, 3) := by decide +kernel
theorem dX1_holdsOwn_43 : decode cX1_holdsOwn 43 = .ok (.aload_n 0, 1) := by decide +kernel
theorem dX1_holdsOwn_44 : decode cX1_holdsOwn 44 = .ok (.getfield 26, 3) := by decide +kernel
theorem dX1_holdsOwn_47 : decode cX1_holdsOwn 47 = .ok (.invokevirtual 79, 3) := by decide +kernel
theorem dX1_holdsOwn_50 : decode cX1_holdsOwn 50 = .ok (.ireturn, 1) := by decide +kernel
set_option maxRecDepth 20000 in
theorem ggX1_holdsInverse_X1_plainValues : GoodIn wsX1_holdsInverse wsX1_plainValues := goodIn_r _ [11, 12, 13, 14, 10, 15, 5, 6, 16, 17, 18, 19, 20, 21, 22, 23, 24, 25, 26, 27, 28, 29, 30, 31, 32, 33, 34, 35, 36, 37, 38, 39, 40, 41, 42, 87, 88, 79, 80, 81, 82, 83, 84, 85, 86] (by decide +kernel) (by decide +kernel)
set_option maxRecDepth 20000 in
theorem gX1_holdsInverse_X1_plainValues : GoodIn wsX1_holdsInverse (wsV RX1 96 RX1 yX1_plainValues wsX1_plainValues) := goodIn_app (goodIn_of _ (by decide +kernel)) ggX1_holdsInverse_X1_plainValues
set_option maxRecDepth 20000 in
theorem ggX1_holdsInverse_X0_countZeros : GoodIn wsX1_holdsInverse wsX0_countZeros := goodIn_r _ [46, 21, 22, 87, 88] (by decide +kernel) (by decide +kernel)
set_option maxRecDepth 20000 in
theorem gX1_holdsInverse_X0_countZeros : GoodIn wsX1_holdsInverse (wsV RX1 127 RX0 yX0_countZeros wsX0_countZeros) := goodIn_app (goodIn_of _ (by decide +kernel)) ggX1_holdsInverse_X0_countZeros
set_option maxRecDepth 20000 in
theorem ggX1_holdsInverse_X1_inverseByValues : GoodIn wsX1_holdsInverse wsX1_inverseByValues := goodIn_r _ [50, 51, 5, 6, 16, 17, 18, 19, 20, 21, 22, 23, 24, 25, 26, 52, 53, 10, 54, 55, 56, 57, 39, 40, 41, 42, 58, 59, 60, 61, 12, 13, 14, 15, 27, 28, 29, 30, 31, 32, 33, 34, 35, 36, 37, 38, 62, 63, 64, 65, 79, 80, 81, 82, 83, 84, 85, 86, 87, 88] (by decide +kernel) (by decide +kernel)
set_option maxRecDepth 20000 in
theorem gX1_holdsInverse_X1_inverseByValues : GoodIn wsX1_holdsInverse (wsV RX1 136 RX1 yX1_inverseByValues wsX1_inverseByValues) := goodIn_app (goodIn_of _ (by decide +kernel)) ggX1_holdsInverse_X1_inverseByValues
set_option maxRecDepth 20000 in
theorem ggX1_holdsInverse_X0_becomeRingProduct : GoodIn wsX1_holdsInverse wsX0_becomeRingProduct := goodIn_r _ [69, 21, 22, 70, 17, 18, 19, 20, 23, 24, 25, 26, 71, 72, 73, 74, 40, 10, 41, 42, 87, 88] (by decide +kernel) (by decide +kernel)
set_option maxRecDepth 20000 in
theorem gX1_holdsInverse_X0_becomeRingProduct : GoodIn wsX1_holdsInverse (wsV RX1 118 RX0 yX0_becomeRingProduct wsX0_becomeRingProduct) := goodIn_app (goodIn_of _ (by decide +kernel)) ggX1_holdsInverse_X0_becomeRingProduct
set_option maxRecDepth 20000 in
theorem ggX1_holdsInverse_X0_clear : GoodIn wsX1_holdsInverse wsX0_clear := goodIn_r _ [20, 21, 22, 23, 24, 25, 26, 87, 88] (by decide +kernel) (by decide +kernel)
set_option maxRecDepth 20000 in
theorem gX1_holdsInverse_X0_clear : GoodIn wsX1_holdsInverse (wsV RX1 50 RX0 yX0_clear wsX0_clear) := goodIn_app (goodIn_of _ (by decide +kernel)) ggX1_holdsInverse_X0_clear
set_option maxRecDepth 20000 in
theorem ggX1_holdsInverse_X0_isLike : GoodIn wsX1_holdsInverse wsX0_isLike := goodIn_r _ [78, 21, 22, 87, 88] (by decide +kernel) (by decide +kernel)
set_option maxRecDepth 20000 in
theorem gX1_holdsInverse_X0_isLike : GoodIn wsX1_holdsInverse (wsV RX1 79 RX0 yX0_isLike wsX0_isLike) := goodIn_app (goodIn_of _ (by decide +kernel)) ggX1_holdsInverse_X0_isLike
theorem dX1_holdsInverse_0 : decode cX1_holdsInverse 0 = .ok (.aload_n 0, 1) := by decide +kernel
theorem dX1_holdsInverse_1 : decode cX1_holdsInverse 1 = .ok (.aload_n 1, 1) := by decide +kernel
theorem dX1_holdsInverse_2 : decode cX1_holdsInverse 2 = .ok (.aload_n 0, 1) := by decide +kernel
theorem dX1_holdsInverse_3 : decode cX1_holdsInverse 3 = .ok (.getfield 16, 3) := by decide +kernel
theorem dX1_holdsInverse_6 : decode cX1_holdsInverse 6 = .ok (.invokevirtual 96, 3) := by decide +kernel
theorem dX1_holdsInverse_9 : decode cX1_holdsInverse 9 = .ok (.aload_n 0, 1) := by decide +kernel
theorem dX1_holdsInverse_10 : decode cX1_holdsInverse 10 = .ok (.getfield 16, 3) := by decide +kernel
theorem dX1_holdsInverse_13 : decode cX1_holdsInverse 13 = .ok (.invokevirtual 127, 3) := by decide +kernel
theorem dX1_holdsInverse_16 : decode cX1_holdsInverse 16 = .ok (.ifCond .le 5, 3) := by decide +kernel
theorem dX1_holdsInverse_19 : decode cX1_holdsInverse 19 = .ok (.iconst 1, 1) := by decide +kernel
theorem dX1_holdsInverse_20 : decode cX1_holdsInverse 20 = .ok (.ireturn, 1) := by decide +kernel
theorem dX1_holdsInverse_21 : decode cX1_holdsInverse 21 = .ok (.aload_n 0, 1) := by decide +kernel
theorem dX1_holdsInverse_22 : decode cX1_holdsInverse 22 = .ok (.aload_n 0, 1) := by decide +kernel
theorem dX1_holdsInverse_23 : decode cX1_holdsInverse 23 = .ok (.getfield 16, 3) := by decide +kernel
theorem dX1_holdsInverse_26 : decode cX1_holdsInverse 26 = .ok (.aload_n 0, 1) := by decide +kernel
theorem dX1_holdsInverse_27 : decode cX1_holdsInverse 27 = .ok (.getfield 20, 3) := by decide +kernel
theorem dX1_holdsInverse_30 : decode cX1_holdsInverse 30 = .ok (.invokevirtual 136, 3) := by decide +kernel
theorem dX1_holdsInverse_33 : decode cX1_holdsInverse 33 = .ok (.aload_n 0, 1) := by decide +kernel
theorem dX1_holdsInverse_34 : decode cX1_holdsInverse 34 = .ok (.getfield 29, 3) := by decide +kernel
theorem dX1_holdsInverse_37 : decode cX1_holdsInverse 37 = .ok (.aload_n 1, 1) := by decide +kernel
theorem dX1_holdsInverse_38 : decode cX1_holdsInverse 38 = .ok (.aload_n 0, 1) := by decide +kernel
theorem dX1_holdsInverse_39 : decode cX1_holdsInverse 39 = .ok (.getfield 20, 3) := by decide +kernel
theorem dX1_holdsInverse_42 : decode cX1_holdsInverse 42 = .ok (.invokevirtual 118, 3) := by decide +kernel
theorem dX1_holdsInverse_45 : decode cX1_holdsInverse 45 = .ok (.aload_n 0, 1) := by decide +kernel
theorem dX1_holdsInverse_46 : decode cX1_holdsInverse 46 = .ok (.getfield 26, 3) := by decide +kernel
theorem dX1_holdsInverse_49 : decode cX1_holdsInverse 49 = .ok (.aload_n 1, 1) := by decide +kernel
theorem dX1_holdsInverse_50 : decode cX1_holdsInverse 50 = .ok (.getfield 47, 3) := by decide +kernel
theorem dX1_holdsInverse_53 : decode cX1_holdsInverse 53 = .ok (.invokevirtual 50, 3) := by decide +kernel
theorem dX1_holdsInverse_56 : decode cX1_holdsInverse 56 = .ok (.aload_n 0, 1) := by decide +kernel
theorem dX1_holdsInverse_57 : decode cX1_holdsInverse 57 = .ok (.getfield 26, 3) := by decide +kernel
theorem dX1_holdsInverse_60 : decode cX1_holdsInverse 60 = .ok (.getfield 60, 3) := by decide +kernel
theorem dX1_holdsInverse_63 : decode cX1_holdsInverse 63 = .ok (.iconst 0, 1) := by decide +kernel
theorem dX1_holdsInverse_64 : decode cX1_holdsInverse 64 = .ok (.iconst 1, 1) := by decide +kernel
theorem dX1_holdsInverse_65 : decode cX1_holdsInverse 65 = .ok (.iastore, 1) := by decide +kernel
theorem dX1_holdsInverse_66 : decode cX1_holdsInverse 66 = .ok (.aload_n 0, 1) := by decide +kernel
theorem dX1_holdsInverse_67 : decode cX1_holdsInverse 67 = .ok (.getfield 29, 3) := by decide +kernel
theorem dX1_holdsInverse_70 : decode cX1_holdsInverse 70 = .ok (.aload_n 0, 1) := by decide +kernel
theorem dX1_holdsInverse_71 : decode cX1_holdsInverse 71 = .ok (.getfield 26, 3) := by decide +kernel
theorem dX1_holdsInverse_74 : decode cX1_holdsInverse 74 = .ok (.invokevirtual 79, 3) := by decide +kernel
theorem dX1_holdsInverse_77 : decode cX1_holdsInverse 77 = .ok (.ireturn, 1) := by decide +kernel
