theorem dX2_init_0 : decode cX2_init 0 = .ok (.aload_n 0, 1) := by decide +kernel
theorem dX2_init_1 : decode cX2_init 1 = .ok (.invokespecial 1, 3) := by decide +kernel
theorem dX2_init_4 : decode cX2_init 4 = .ok (.aload_n 0, 1) := by decide +kernel
theorem dX2_init_5 : decode cX2_init 5 = .ok (.iconst 4, 1) := by decide +kernel
theorem dX2_init_6 : decode cX2_init 6 = .ok (.bipush 16, 2) := by decide +kernel
theorem dX2_init_8 : decode cX2_init 8 = .ok (.multianewarray 9 2, 4) := by decide +kernel
theorem dX2_init_12 : decode cX2_init 12 = .ok (.putfield 11, 3) := by decide +kernel
theorem dX2_init_15 : decode cX2_init 15 = .ok (.aload_n 0, 1) := by decide +kernel
theorem dX2_init_16 : decode cX2_init 16 = .ok (.iconst 4, 1) := by decide +kernel
theorem dX2_init_17 : decode cX2_init 17 = .ok (.newarray .int, 2) := by decide +kernel
theorem dX2_init_19 : decode cX2_init 19 = .ok (.putfield 14, 3) := by decide +kernel
theorem dX2_init_22 : decode cX2_init 22 = .ok (.aload_n 0, 1) := by decide +kernel
theorem dX2_init_23 : decode cX2_init 23 = .ok (.bipush 16, 2) := by decide +kernel
theorem dX2_init_25 : decode cX2_init 25 = .ok (.newarray .int, 2) := by decide +kernel
theorem dX2_init_27 : decode cX2_init 27 = .ok (.putfield 18, 3) := by decide +kernel
theorem dX2_init_30 : decode cX2_init 30 = .ok (.aload_n 0, 1) := by decide +kernel
theorem dX2_init_31 : decode cX2_init 31 = .ok (.bipush 16, 2) := by decide +kernel
theorem dX2_init_33 : decode cX2_init 33 = .ok (.newarray .int, 2) := by decide +kernel
theorem dX2_init_35 : decode cX2_init 35 = .ok (.putfield 21, 3) := by decide +kernel
theorem dX2_init_38 : decode cX2_init 38 = .ok (.aload_n 0, 1) := by decide +kernel
theorem dX2_init_39 : decode cX2_init 39 = .ok (.iconst 1, 1) := by decide +kernel
theorem dX2_init_40 : decode cX2_init 40 = .ok (.putfield 24, 3) := by decide +kernel
theorem dX2_init_43 : decode cX2_init 43 = .ok (.iconst 0, 1) := by decide +kernel
theorem dX2_init_44 : decode cX2_init 44 = .ok (.istore_n 1, 1) := by decide +kernel
theorem dX2_init_45 : decode cX2_init 45 = .ok (.iload_n 1, 1) := by decide +kernel
theorem dX2_init_46 : decode cX2_init 46 = .ok (.iconst 4, 1) := by decide +kernel
theorem dX2_init_47 : decode cX2_init 47 = .ok (.if_icmp .ge 16, 3) := by decide +kernel
theorem dX2_init_50 : decode cX2_init 50 = .ok (.aload_n 0, 1) := by decide +kernel
theorem dX2_init_51 : decode cX2_init 51 = .ok (.getfield 14, 3) := by decide +kernel
theorem dX2_init_54 : decode cX2_init 54 = .ok (.iload_n 1, 1) := by decide +kernel
theorem dX2_init_55 : decode cX2_init 55 = .ok (.iconst 2, 1) := by decide +kernel
theorem dX2_init_56 : decode cX2_init 56 = .ok (.iastore, 1) := by decide +kernel
theorem dX2_init_57 : decode cX2_init 57 = .ok (.iinc 1 1, 3) := by decide +kernel
theorem dX2_init_60 : decode cX2_init 60 = .ok (.goto (-15), 3) := by decide +kernel
theorem dX2_init_63 : decode cX2_init 63 = .ok (.return_, 1) := by decide +kernel
theorem dX2_thrown_0 : decode cX2_thrown 0 = .ok (.aload_n 0, 1) := by decide +kernel
theorem dX2_thrown_1 : decode cX2_thrown 1 = .ok (.getfield 28, 3) := by decide +kernel
theorem dX2_thrown_4 : decode cX2_thrown 4 = .ok (.ireturn, 1) := by decide +kernel
theorem dX2_no_0 : decode cX2_no 0 = .ok (.aload_n 0, 1) := by decide +kernel
theorem dX2_no_1 : decode cX2_no 1 = .ok (.iload_n 1, 1) := by decide +kernel
theorem dX2_no_2 : decode cX2_no 2 = .ok (.ifCond .eq 7, 3) := by decide +kernel
theorem dX2_no_5 : decode cX2_no 5 = .ok (.iconst 0, 1) := by decide +kernel
theorem dX2_no_6 : decode cX2_no 6 = .ok (.goto 4, 3) := by decide +kernel
theorem dX2_no_9 : decode cX2_no 9 = .ok (.iload_n 2, 1) := by decide +kernel
theorem dX2_no_10 : decode cX2_no 10 = .ok (.putfield 28, 3) := by decide +kernel
theorem dX2_no_13 : decode cX2_no 13 = .ok (.iload_n 1, 1) := by decide +kernel
theorem dX2_no_14 : decode cX2_no 14 = .ok (.ifCond .ne 7, 3) := by decide +kernel
theorem dX2_no_17 : decode cX2_no 17 = .ok (.iconst 1, 1) := by decide +kernel
theorem dX2_no_18 : decode cX2_no 18 = .ok (.goto 4, 3) := by decide +kernel
theorem dX2_no_21 : decode cX2_no 21 = .ok (.iconst 0, 1) := by decide +kernel
theorem dX2_no_22 : decode cX2_no 22 = .ok (.ireturn, 1) := by decide +kernel
theorem dX2_in_0 : decode cX2_in 0 = .ok (.iload_n 0, 1) := by decide +kernel
theorem dX2_in_1 : decode cX2_in 1 = .ok (.iload_n 1, 1) := by decide +kernel
theorem dX2_in_2 : decode cX2_in 2 = .ok (.if_icmp .lt 12, 3) := by decide +kernel
theorem dX2_in_5 : decode cX2_in 5 = .ok (.iload_n 0, 1) := by decide +kernel
theorem dX2_in_6 : decode cX2_in 6 = .ok (.iload_n 2, 1) := by decide +kernel
theorem dX2_in_7 : decode cX2_in 7 = .ok (.if_icmp .gt 7, 3) := by decide +kernel
theorem dX2_in_10 : decode cX2_in 10 = .ok (.iconst 1, 1) := by decide +kernel
theorem dX2_in_11 : decode cX2_in 11 = .ok (.goto 4, 3) := by decide +kernel
theorem dX2_in_14 : decode cX2_in 14 = .ok (.iconst 0, 1) := by decide +kernel
theorem dX2_in_15 : decode cX2_in 15 = .ok (.ireturn, 1) := by decide +kernel
theorem dX2_isLength_0 : decode cX2_isLength 0 = .ok (.iload_n 0, 1) := by decide +kernel
theorem dX2_isLength_1 : decode cX2_isLength 1 = .ok (.iconst 2, 1) := by decide +kernel
theorem dX2_isLength_2 : decode cX2_isLength 2 = .ok (.if_icmp .eq 20, 3) := by decide +kernel
theorem dX2_isLength_5 : decode cX2_isLength 5 = .ok (.iload_n 0, 1) := by decide +kernel
theorem dX2_isLength_6 : decode cX2_isLength 6 = .ok (.iconst 4, 1) := by decide +kernel
theorem dX2_isLength_7 : decode cX2_isLength 7 = .ok (.if_icmp .eq 15, 3) := by decide +kernel
theorem dX2_isLength_10 : decode cX2_isLength 10 = .ok (.iload_n 0, 1) := by decide +kernel
theorem dX2_isLength_11 : decode cX2_isLength 11 = .ok (.bipush 8, 2) := by decide +kernel
theorem dX2_isLength_13 : decode cX2_isLength 13 = .ok (.if_icmp .eq 9, 3) := by decide +kernel
theorem dX2_isLength_16 : decode cX2_isLength 16 = .ok (.iload_n 0, 1) := by decide +kernel
theorem dX2_isLength_17 : decode cX2_isLength 17 = .ok (.bipush 16, 2) := by decide +kernel
theorem dX2_isLength_19 : decode cX2_isLength 19 = .ok (.if_icmp .ne 7, 3) := by decide +kernel
theorem dX2_isLength_22 : decode cX2_isLength 22 = .ok (.iconst 1, 1) := by decide +kernel
theorem dX2_isLength_23 : decode cX2_isLength 23 = .ok (.goto 4, 3) := by decide +kernel
theorem dX2_isLength_26 : decode cX2_isLength 26 = .ok (.iconst 0, 1) := by decide +kernel
theorem dX2_isLength_27 : decode cX2_isLength 27 = .ok (.ireturn, 1) := by decide +kernel
set_option maxRecDepth 20000 in
theorem ggX2_lacks_X2_in : GoodIn wsX2_lacks wsX2_in := goodIn_r _ [4] (by decide +kernel) (by decide +kernel)
set_option maxRecDepth 20000 in
theorem gX2_lacks_X2_in : GoodIn wsX2_lacks (va_wsS RX2 31 yX2_in wsX2_in) := goodIn_app (goodIn_of _ (by decide +kernel)) ggX2_lacks_X2_in
set_option maxRecDepth 20000 in
theorem ggX2_lacks_X2_no : GoodIn wsX2_lacks wsX2_no := goodIn_r _ [8, 9, 10, 11, 12, 13, 14, 15] (by decide +kernel) (by decide +kernel)
set_option maxRecDepth 20000 in
theorem gX2_lacks_X2_no : GoodIn wsX2_lacks (wsV RX2 35 RX2 yX2_no wsX2_no) := goodIn_app (goodIn_of _ (by decide +kernel)) ggX2_lacks_X2_no
theorem dX2_lacks_0 : decode cX2_lacks 0 = .ok (.aload_n 0, 1) := by decide +kernel
theorem dX2_lacks_1 : decode cX2_lacks 1 = .ok (.iload_n 1, 1) := by decide +kernel
theorem dX2_lacks_2 : decode cX2_lacks 2 = .ok (.iconst 0, 1) := by decide +kernel
theorem dX2_lacks_3 : decode cX2_lacks 3 = .ok (.iconst 3, 1) := by decide +kernel
theorem dX2_lacks_4 : decode cX2_lacks 4 = .ok (.invokestatic 31, 3) := by decide +kernel
theorem dX2_lacks_7 : decode cX2_lacks 7 = .ok (.iconst 1, 1) := by decide +kernel
theorem dX2_lacks_8 : decode cX2_lacks 8 = .ok (.invokevirtual 35, 3) := by decide +kernel
theorem dX2_lacks_11 : decode cX2_lacks 11 = .ok (.ireturn, 1) := by decide +kernel
set_option maxRecDepth 20000 in
theorem ggX2_lacksTwo_X2_in : GoodIn wsX2_lacksTwo wsX2_in := goodIn_r _ [4] (by decide +kernel) (by decide +kernel)
set_option maxRecDepth 20000 in
theorem gX2_lacksTwo_X2_in : GoodIn wsX2_lacksTwo (va_wsS RX2 31 yX2_in wsX2_in) := goodIn_app (goodIn_of _ (by decide +kernel)) ggX2_lacksTwo_X2_in
set_option maxRecDepth 20000 in
theorem ggX2_lacksTwo_X2_no : GoodIn wsX2_lacksTwo wsX2_no := goodIn_r _ [8, 9, 10, 11, 12, 13, 14, 15] (by decide +kernel) (by decide +kernel)
set_option maxRecDepth 20000 in
theorem gX2_lacksTwo_X2_no : GoodIn wsX2_lacksTwo (wsV RX2 35 RX2 yX2_no wsX2_no) := goodIn_app (goodIn_of _ (by decide +kernel)) ggX2_lacksTwo_X2_no
theorem dX2_lacksTwo_0 : decode cX2_lacksTwo 0 = .ok (.aload_n 0, 1) := by decide +kernel
theorem dX2_lacksTwo_1 : decode cX2_lacksTwo 1 = .ok (.iload_n 1, 1) := by decide +kernel
theorem dX2_lacksTwo_2 : decode cX2_lacksTwo 2 = .ok (.iconst 0, 1) := by decide +kernel
theorem dX2_lacksTwo_3 : decode cX2_lacksTwo 3 = .ok (.iconst 3, 1) := by decide +kernel
theorem dX2_lacksTwo_4 : decode cX2_lacksTwo 4 = .ok (.invokestatic 31, 3) := by decide +kernel
theorem dX2_lacksTwo_7 : decode cX2_lacksTwo 7 = .ok (.ifCond .eq 16, 3) := by decide +kernel
theorem dX2_lacksTwo_10 : decode cX2_lacksTwo 10 = .ok (.iload_n 2, 1) := by decide +kernel
theorem dX2_lacksTwo_11 : decode cX2_lacksTwo 11 = .ok (.iconst 0, 1) := by decide +kernel
theorem dX2_lacksTwo_12 : decode cX2_lacksTwo 12 = .ok (.iconst 3, 1) := by decide +kernel
theorem dX2_lacksTwo_13 : decode cX2_lacksTwo 13 = .ok (.invokestatic 31, 3) := by decide +kernel
theorem dX2_lacksTwo_16 : decode cX2_lacksTwo 16 = .ok (.ifCond .eq 7, 3) := by decide +kernel
theorem dX2_lacksTwo_19 : decode cX2_lacksTwo 19 = .ok (.iconst 1, 1) := by decide +kernel
theorem dX2_lacksTwo_20 : decode cX2_lacksTwo 20 = .ok (.goto 4, 3) := by decide +kernel
theorem dX2_lacksTwo_23 : decode cX2_lacksTwo 23 = .ok (.iconst 0, 1) := by decide +kernel
theorem dX2_lacksTwo_24 : decode cX2_lacksTwo 24 = .ok (.iconst 1, 1) := by decide +kernel
theorem dX2_lacksTwo_25 : decode cX2_lacksTwo 25 = .ok (.invokevirtual 35, 3) := by decide +kernel
theorem dX2_lacksTwo_28 : decode cX2_lacksTwo 28 = .ok (.ireturn, 1) := by decide +kernel
set_option maxRecDepth 20000 in
theorem ggX2_lacksPlace_X2_in : GoodIn wsX2_lacksPlace wsX2_in := goodIn_r _ [5] (by decide +kernel) (by decide +kernel)
set_option maxRecDepth 20000 in
theorem gX2_lacksPlace_X2_in : GoodIn wsX2_lacksPlace (va_wsS RX2 31 yX2_in wsX2_in) := goodIn_app (goodIn_of _ (by decide +kernel)) ggX2_lacksPlace_X2_in
set_option maxRecDepth 20000 in
theorem ggX2_lacksPlace_X2_no : GoodIn wsX2_lacksPlace wsX2_no := goodIn_r _ [9, 10, 11, 12, 13, 14, 15, 16] (by decide +kernel) (by decide +kernel)
set_option maxRecDepth 20000 in
theorem gX2_lacksPlace_X2_no : GoodIn wsX2_lacksPlace (wsV RX2 35 RX2 yX2_no wsX2_no) := goodIn_app (goodIn_of _ (by decide +kernel)) ggX2_lacksPlace_X2_no
theorem dX2_lacksPlace_0 : decode cX2_lacksPlace 0 = .ok (.aload_n 0, 1) := by decide +kernel
theorem dX2_lacksPlace_1 : decode cX2_lacksPlace 1 = .ok (.iload_n 1, 1) := by decide +kernel
theorem dX2_lacksPlace_2 : decode cX2_lacksPlace 2 = .ok (.iconst 0, 1) := by decide +kernel
theorem dX2_lacksPlace_3 : decode cX2_lacksPlace 3 = .ok (.iconst 3, 1) := by decide +kernel
theorem dX2_lacksPlace_4 : decode cX2_lacksPlace 4 = .ok (.invokestatic 31, 3) := by decide +kernel
theorem dX2_lacksPlace_7 : decode cX2_lacksPlace 7 = .ok (.ifCond .eq 23, 3) := by decide +kernel
theorem dX2_lacksPlace_10 : decode cX2_lacksPlace 10 = .ok (.iload_n 2, 1) := by decide +kernel
theorem dX2_lacksPlace_11 : decode cX2_lacksPlace 11 = .ok (.iconst 0, 1) := by decide +kernel
theorem dX2_lacksPlace_12 : decode cX2_lacksPlace 12 = .ok (.aload_n 0, 1) := by decide +kernel
theorem dX2_lacksPlace_13 : decode cX2_lacksPlace 13 = .ok (.getfield 14, 3) := by decide +kernel
theorem dX2_lacksPlace_16 : decode cX2_lacksPlace 16 = .ok (.iload_n 1, 1) := by decide +kernel
theorem dX2_lacksPlace_17 : decode cX2_lacksPlace 17 = .ok (.iaload, 1) := by decide +kernel
theorem dX2_lacksPlace_18 : decode cX2_lacksPlace 18 = .ok (.iconst 1, 1) := by decide +kernel
theorem dX2_lacksPlace_19 : decode cX2_lacksPlace 19 = .ok (.isub, 1) := by decide +kernel
theorem dX2_lacksPlace_20 : decode cX2_lacksPlace 20 = .ok (.invokestatic 31, 3) := by decide +kernel
theorem dX2_lacksPlace_23 : decode cX2_lacksPlace 23 = .ok (.ifCond .eq 7, 3) := by decide +kernel
theorem dX2_lacksPlace_26 : decode cX2_lacksPlace 26 = .ok (.iconst 1, 1) := by decide +kernel
theorem dX2_lacksPlace_27 : decode cX2_lacksPlace 27 = .ok (.goto 4, 3) := by decide +kernel
theorem dX2_lacksPlace_30 : decode cX2_lacksPlace 30 = .ok (.iconst 0, 1) := by decide +kernel
theorem dX2_lacksPlace_31 : decode cX2_lacksPlace 31 = .ok (.iconst 1, 1) := by decide +kernel
theorem dX2_lacksPlace_32 : decode cX2_lacksPlace 32 = .ok (.invokevirtual 35, 3) := by decide +kernel
theorem dX2_lacksPlace_35 : decode cX2_lacksPlace 35 = .ok (.ireturn, 1) := by decide +kernel
theorem dX2_doubled_0 : decode cX2_doubled 0 = .ok (.iload_n 0, 1) := by decide +kernel
theorem dX2_doubled_1 : decode cX2_doubled 1 = .ok (.i2l, 1) := by decide +kernel
theorem dX2_doubled_2 : decode cX2_doubled 2 = .ok (.iload_n 1, 1) := by decide +kernel
theorem dX2_doubled_3 : decode cX2_doubled 3 = .ok (.lshl, 1) := by decide +kernel
theorem dX2_doubled_4 : decode cX2_doubled 4 = .ok (.ldc2_w 39, 3) := by decide +kernel
theorem dX2_doubled_7 : decode cX2_doubled 7 = .ok (.lrem, 1) := by decide +kernel
theorem dX2_doubled_8 : decode cX2_doubled 8 = .ok (.l2i, 1) := by decide +kernel
theorem dX2_doubled_9 : decode cX2_doubled 9 = .ok (.ireturn, 1) := by decide +kernel
theorem dX2_product_0 : decode cX2_product 0 = .ok (.lload_n 0, 1) := by decide +kernel
theorem dX2_product_1 : decode cX2_product 1 = .ok (.lload_n 2, 1) := by decide +kernel
theorem dX2_product_2 : decode cX2_product 2 = .ok (.lmul, 1) := by decide +kernel
theorem dX2_product_3 : decode cX2_product 3 = .ok (.iload 4, 2) := by decide +kernel
theorem dX2_product_5 : decode cX2_product 5 = .ok (.i2l, 1) := by decide +kernel
theorem dX2_product_6 : decode cX2_product 6 = .ok (.ladd, 1) := by decide +kernel
theorem dX2_product_7 : decode cX2_product 7 = .ok (.ldc2_w 39, 3) := by decide +kernel
theorem dX2_product_10 : decode cX2_product 10 = .ok (.lrem, 1) := by decide +kernel
theorem dX2_product_11 : decode cX2_product 11 = .ok (.l2i, 1) := by decide +kernel
theorem dX2_product_12 : decode cX2_product 12 = .ok (.ireturn, 1) := by decide +kernel
set_option maxRecDepth 20000 in
theorem ggX2_inverse_X2_product : GoodIn wsX2_inverse wsX2_product := goodIn_r _ [5, 6] (by decide +kernel) (by decide +kernel)
set_option maxRecDepth 20000 in
theorem gX2_inverse_X2_product : GoodIn wsX2_inverse (va_wsS RX2 42 yX2_product wsX2_product) := goodIn_app (goodIn_of _ (by decide +kernel)) ggX2_inverse_X2_product
theorem dX2_inverse_0 : decode cX2_inverse 0 = .ok (.iconst 1, 1) := by decide +kernel
theorem dX2_inverse_1 : decode cX2_inverse 1 = .ok (.istore_n 1, 1) := by decide +kernel
theorem dX2_inverse_2 : decode cX2_inverse 2 = .ok (.iload_n 0, 1) := by decide +kernel
theorem dX2_inverse_3 : decode cX2_inverse 3 = .ok (.istore_n 2, 1) := by decide +kernel
theorem dX2_inverse_4 : decode cX2_inverse 4 = .ok (.ldc 41, 2) := by decide +kernel
theorem dX2_inverse_6 : decode cX2_inverse 6 = .ok (.istore_n 3, 1) := by decide +kernel
theorem dX2_inverse_7 : decode cX2_inverse 7 = .ok (.iload_n 3, 1) := by decide +kernel
theorem dX2_inverse_8 : decode cX2_inverse 8 = .ok (.ifCond .le 39, 3) := by decide +kernel
theorem dX2_inverse_11 : decode cX2_inverse 11 = .ok (.iload_n 3, 1) := by decide +kernel
theorem dX2_inverse_12 : decode cX2_inverse 12 = .ok (.iconst 2, 1) := by decide +kernel
theorem dX2_inverse_13 : decode cX2_inverse 13 = .ok (.irem, 1) := by decide +kernel
theorem dX2_inverse_14 : decode cX2_inverse 14 = .ok (.iconst 1, 1) := by decide +kernel
theorem dX2_inverse_15 : decode cX2_inverse 15 = .ok (.if_icmp .ne 14, 3) := by decide +kernel
theorem dX2_inverse_18 : decode cX2_inverse 18 = .ok (.iload_n 1, 1) := by decide +kernel
theorem dX2_inverse_19 : decode cX2_inverse 19 = .ok (.i2l, 1) := by decide +kernel
theorem dX2_inverse_20 : decode cX2_inverse 20 = .ok (.iload_n 2, 1) := by decide +kernel
theorem dX2_inverse_21 : decode cX2_inverse 21 = .ok (.i2l, 1) := by decide +kernel
theorem dX2_inverse_22 : decode cX2_inverse 22 = .ok (.iconst 0, 1) := by decide +kernel
theorem dX2_inverse_23 : decode cX2_inverse 23 = .ok (.invokestatic 42, 3) := by decide +kernel
theorem dX2_inverse_26 : decode cX2_inverse 26 = .ok (.goto 4, 3) := by decide +kernel
theorem dX2_inverse_29 : decode cX2_inverse 29 = .ok (.iload_n 1, 1) := by decide +kernel
theorem dX2_inverse_30 : decode cX2_inverse 30 = .ok (.istore_n 1, 1) := by decide +kernel
theorem dX2_inverse_31 : decode cX2_inverse 31 = .ok (.iload_n 2, 1) := by decide +kernel
theorem dX2_inverse_32 : decode cX2_inverse 32 = .ok (.i2l, 1) := by decide +kernel
theorem dX2_inverse_33 : decode cX2_inverse 33 = .ok (.iload_n 2, 1) := by decide +kernel
theorem dX2_inverse_34 : decode cX2_inverse 34 = .ok (.i2l, 1) := by decide +kernel
theorem dX2_inverse_35 : decode cX2_inverse 35 = .ok (.iconst 0, 1) := by decide +kernel
theorem dX2_inverse_36 : decode cX2_inverse 36 = .ok (.invokestatic 42, 3) := by decide +kernel
theorem dX2_inverse_39 : decode cX2_inverse 39 = .ok (.istore_n 2, 1) := by decide +kernel
theorem dX2_inverse_40 : decode cX2_inverse 40 = .ok (.iload_n 3, 1) := by decide +kernel
theorem dX2_inverse_41 : decode cX2_inverse 41 = .ok (.iconst 2, 1) := by decide +kernel
theorem dX2_inverse_42 : decode cX2_inverse 42 = .ok (.idiv, 1) := by decide +kernel
theorem dX2_inverse_43 : decode cX2_inverse 43 = .ok (.istore_n 3, 1) := by decide +kernel
theorem dX2_inverse_44 : decode cX2_inverse 44 = .ok (.goto (-37), 3) := by decide +kernel
theorem dX2_inverse_47 : decode cX2_inverse 47 = .ok (.iload_n 1, 1) := by decide +kernel
theorem dX2_inverse_48 : decode cX2_inverse 48 = .ok (.ireturn, 1) := by decide +kernel
theorem dX2_left_0 : decode cX2_left 0 = .ok (.lload_n 0, 1) := by decide +kernel
theorem dX2_left_1 : decode cX2_left 1 = .ok (.iload_n 2, 1) := by decide +kernel
theorem dX2_left_2 : decode cX2_left 2 = .ok (.i2l, 1) := by decide +kernel
theorem dX2_left_3 : decode cX2_left 3 = .ok (.lrem, 1) := by decide +kernel
theorem dX2_left_4 : decode cX2_left 4 = .ok (.l2i, 1) := by decide +kernel
theorem dX2_left_5 : decode cX2_left 5 = .ok (.istore_n 3, 1) := by decide +kernel
theorem dX2_left_6 : decode cX2_left 6 = .ok (.iload_n 3, 1) := by decide +kernel
theorem dX2_left_7 : decode cX2_left 7 = .ok (.ifCond .ge 9, 3) := by decide +kernel
theorem dX2_left_10 : decode cX2_left 10 = .ok (.iload_n 3, 1) := by decide +kernel
theorem dX2_left_11 : decode cX2_left 11 = .ok (.iload_n 2, 1) := by decide +kernel
theorem dX2_left_12 : decode cX2_left 12 = .ok (.iadd, 1) := by decide +kernel
theorem dX2_left_13 : decode cX2_left 13 = .ok (.goto 4, 3) := by decide +kernel
theorem dX2_left_16 : decode cX2_left 16 = .ok (.iload_n 3, 1) := by decide +kernel
theorem dX2_left_17 : decode cX2_left 17 = .ok (.ireturn, 1) := by decide +kernel
set_option maxRecDepth 20000 in
theorem ggX2_exponent_X2_left : GoodIn wsX2_exponent wsX2_left := goodIn_r _ [5] (by decide +kernel) (by decide +kernel)
set_option maxRecDepth 20000 in
theorem gX2_exponent_X2_left : GoodIn wsX2_exponent (va_wsS RX2 46 yX2_left wsX2_left) := goodIn_app (goodIn_of _ (by decide +kernel)) ggX2_exponent_X2_left
theorem dX2_exponent_0 : decode cX2_exponent 0 = .ok (.aload_n 0, 1) := by decide +kernel
theorem dX2_exponent_1 : decode cX2_exponent 1 = .ok (.getfield 24, 3) := by decide +kernel
theorem dX2_exponent_4 : decode cX2_exponent 4 = .ok (.bipush 32, 2) := by decide +kernel
theorem dX2_exponent_6 : decode cX2_exponent 6 = .ok (.iload_n 1, 1) := by decide +kernel
theorem dX2_exponent_7 : decode cX2_exponent 7 = .ok (.idiv, 1) := by decide +kernel
theorem dX2_exponent_8 : decode cX2_exponent 8 = .ok (.imul, 1) := by decide +kernel
theorem dX2_exponent_9 : decode cX2_exponent 9 = .ok (.lload_n 2, 1) := by decide +kernel
theorem dX2_exponent_10 : decode cX2_exponent 10 = .ok (.iload_n 1, 1) := by decide +kernel
theorem dX2_exponent_11 : decode cX2_exponent 11 = .ok (.invokestatic 46, 3) := by decide +kernel
theorem dX2_exponent_14 : decode cX2_exponent 14 = .ok (.imul, 1) := by decide +kernel
theorem dX2_exponent_15 : decode cX2_exponent 15 = .ok (.bipush 32, 2) := by decide +kernel
theorem dX2_exponent_17 : decode cX2_exponent 17 = .ok (.irem, 1) := by decide +kernel
theorem dX2_exponent_18 : decode cX2_exponent 18 = .ok (.ireturn, 1) := by decide +kernel
set_option maxRecDepth 20000 in
theorem ggX2_sums_X2_exponent : GoodIn wsX2_sums wsX2_exponent := goodIn_r _ [7, 8, 9, 10, 6, 11, 16, 17, 18, 19, 20, 21] (by decide +kernel) (by decide +kernel)
set_option maxRecDepth 20000 in
theorem gX2_sums_X2_exponent : GoodIn wsX2_sums (wsV RX2 50 RX2 yX2_exponent wsX2_exponent) := goodIn_app (goodIn_of _ (by decide +kernel)) ggX2_sums_X2_exponent
set_option maxRecDepth 20000 in
theorem ggX2_sums_X2_doubled : GoodIn wsX2_sums wsX2_doubled := goodIn_r _ [14, 15] (by decide +kernel) (by decide +kernel)
set_option maxRecDepth 20000 in
theorem gX2_sums_X2_doubled : GoodIn wsX2_sums (va_wsS RX2 54 yX2_doubled wsX2_doubled) := goodIn_app (goodIn_of _ (by decide +kernel)) ggX2_sums_X2_doubled
theorem dX2_sums_0 : decode cX2_sums 0 = .ok (.iconst 0, 1) := by decide +kernel
theorem dX2_sums_1 : decode cX2_sums 1 = .ok (.istore 5, 2) := by decide +kernel
theorem dX2_sums_3 : decode cX2_sums 3 = .ok (.iload 5, 2) := by decide +kernel
theorem dX2_sums_5 : decode cX2_sums 5 = .ok (.iload_n 2, 1) := by decide +kernel
theorem dX2_sums_6 : decode cX2_sums 6 = .ok (.if_icmp .ge 69, 3) := by decide +kernel
theorem dX2_sums_9 : decode cX2_sums 9 = .ok (.iconst 0, 1) := by decide +kernel
theorem dX2_sums_10 : decode cX2_sums 10 = .ok (.istore 6, 2) := by decide +kernel
theorem dX2_sums_12 : decode cX2_sums 12 = .ok (.iconst 0, 1) := by decide +kernel
theorem dX2_sums_13 : decode cX2_sums 13 = .ok (.istore 7, 2) := by decide +kernel
theorem dX2_sums_15 : decode cX2_sums 15 = .ok (.iload 7, 2) := by decide +kernel
theorem dX2_sums_17 : decode cX2_sums 17 = .ok (.iload_n 2, 1) := by decide +kernel
theorem dX2_sums_18 : decode cX2_sums 18 = .ok (.if_icmp .ge 37, 3) := by decide +kernel
theorem dX2_sums_21 : decode cX2_sums 21 = .ok (.iload 6, 2) := by decide +kernel
theorem dX2_sums_23 : decode cX2_sums 23 = .ok (.aload_n 1, 1) := by decide +kernel
theorem dX2_sums_24 : decode cX2_sums 24 = .ok (.iload 7, 2) := by decide +kernel
theorem dX2_sums_26 : decode cX2_sums 26 = .ok (.iaload, 1) := by decide +kernel
theorem dX2_sums_27 : decode cX2_sums 27 = .ok (.aload_n 0, 1) := by decide +kernel
theorem dX2_sums_28 : decode cX2_sums 28 = .ok (.iload_n 2, 1) := by decide +kernel
theorem dX2_sums_29 : decode cX2_sums 29 = .ok (.iload_n 3, 1) := by decide +kernel
theorem dX2_sums_30 : decode cX2_sums 30 = .ok (.iload 7, 2) := by decide +kernel
theorem dX2_sums_32 : decode cX2_sums 32 = .ok (.imul, 1) := by decide +kernel
theorem dX2_sums_33 : decode cX2_sums 33 = .ok (.iload 5, 2) := by decide +kernel
theorem dX2_sums_35 : decode cX2_sums 35 = .ok (.imul, 1) := by decide +kernel
theorem dX2_sums_36 : decode cX2_sums 36 = .ok (.i2l, 1) := by decide +kernel
theorem dX2_sums_37 : decode cX2_sums 37 = .ok (.invokevirtual 50, 3) := by decide +kernel
theorem dX2_sums_40 : decode cX2_sums 40 = .ok (.invokestatic 54, 3) := by decide +kernel
theorem dX2_sums_43 : decode cX2_sums 43 = .ok (.iadd, 1) := by decide +kernel
theorem dX2_sums_44 : decode cX2_sums 44 = .ok (.ldc 58, 2) := by decide +kernel
theorem dX2_sums_46 : decode cX2_sums 46 = .ok (.irem, 1) := by decide +kernel
theorem dX2_sums_47 : decode cX2_sums 47 = .ok (.istore 6, 2) := by decide +kernel
theorem dX2_sums_49 : decode cX2_sums 49 = .ok (.iinc 7 1, 3) := by decide +kernel
theorem dX2_sums_52 : decode cX2_sums 52 = .ok (.goto (-37), 3) := by decide +kernel
theorem dX2_sums_55 : decode cX2_sums 55 = .ok (.aload_n 0, 1) := by decide +kernel
theorem dX2_sums_56 : decode cX2_sums 56 = .ok (.getfield 18, 3) := by decide +kernel
theorem dX2_sums_59 : decode cX2_sums 59 = .ok (.iload 5, 2) := by decide +kernel
theorem dX2_sums_61 : decode cX2_sums 61 = .ok (.iload 6, 2) := by decide +kernel
theorem dX2_sums_63 : decode cX2_sums 63 = .ok (.iload 4, 2) := by decide +kernel
theorem dX2_sums_65 : decode cX2_sums 65 = .ok (.invokestatic 54, 3) := by decide +kernel
theorem dX2_sums_68 : decode cX2_sums 68 = .ok (.iastore, 1) := by decide +kernel
theorem dX2_sums_69 : decode cX2_sums 69 = .ok (.iinc 5 1, 3) := by decide +kernel
theorem dX2_sums_72 : decode cX2_sums 72 = .ok (.goto (-69), 3) := by decide +kernel
theorem dX2_sums_75 : decode cX2_sums 75 = .ok (.return_, 1) := by decide +kernel
set_option maxRecDepth 20000 in
theorem ggX2_valuesOf_X2_sums : GoodIn wsX2_valuesOf wsX2_sums := goodIn_r _ [7, 8, 9, 10, 11, 12, 6, 13, 14, 15, 16, 17, 18, 19, 20, 21, 22, 23, 24, 25, 26, 27] (by decide +kernel) (by decide +kernel)
set_option maxRecDepth 20000 in
theorem gX2_valuesOf_X2_sums : GoodIn wsX2_valuesOf (wsV RX2 59 RX2 yX2_sums wsX2_sums) := goodIn_app (goodIn_of _ (by decide +kernel)) ggX2_valuesOf_X2_sums
theorem dX2_valuesOf_0 : decode cX2_valuesOf 0 = .ok (.aload_n 0, 1) := by decide +kernel
theorem dX2_valuesOf_1 : decode cX2_valuesOf 1 = .ok (.aload_n 0, 1) := by decide +kernel
theorem dX2_valuesOf_2 : decode cX2_valuesOf 2 = .ok (.getfield 11, 3) := by decide +kernel
theorem dX2_valuesOf_5 : decode cX2_valuesOf 5 = .ok (.iload_n 1, 1) := by decide +kernel
theorem dX2_valuesOf_6 : decode cX2_valuesOf 6 = .ok (.aaload, 1) := by decide +kernel
theorem dX2_valuesOf_7 : decode cX2_valuesOf 7 = .ok (.aload_n 0, 1) := by decide +kernel
theorem dX2_valuesOf_8 : decode cX2_valuesOf 8 = .ok (.getfield 14, 3) := by decide +kernel
theorem dX2_valuesOf_11 : decode cX2_valuesOf 11 = .ok (.iload_n 1, 1) := by decide +kernel
theorem dX2_valuesOf_12 : decode cX2_valuesOf 12 = .ok (.iaload, 1) := by decide +kernel
theorem dX2_valuesOf_13 : decode cX2_valuesOf 13 = .ok (.iconst 1, 1) := by decide +kernel
theorem dX2_valuesOf_14 : decode cX2_valuesOf 14 = .ok (.iconst 0, 1) := by decide +kernel
theorem dX2_valuesOf_15 : decode cX2_valuesOf 15 = .ok (.invokevirtual 59, 3) := by decide +kernel
theorem dX2_valuesOf_18 : decode cX2_valuesOf 18 = .ok (.return_, 1) := by decide +kernel
set_option maxRecDepth 20000 in
theorem ggX2_backOf_X2_sums : GoodIn wsX2_backOf wsX2_sums := goodIn_r _ [5, 6, 7, 8, 9, 10, 4, 11, 12, 13, 14, 15, 16, 17, 18, 19, 20, 21, 22, 23, 24, 25] (by decide +kernel) (by decide +kernel)
set_option maxRecDepth 20000 in
theorem gX2_backOf_X2_sums : GoodIn wsX2_backOf (wsV RX2 59 RX2 yX2_sums wsX2_sums) := goodIn_app (goodIn_of _ (by decide +kernel)) ggX2_backOf_X2_sums
theorem dX2_backOf_0 : decode cX2_backOf 0 = .ok (.aload_n 0, 1) := by decide +kernel
theorem dX2_backOf_1 : decode cX2_backOf 1 = .ok (.aload_n 1, 1) := by decide +kernel
theorem dX2_backOf_2 : decode cX2_backOf 2 = .ok (.iload_n 2, 1) := by decide +kernel
theorem dX2_backOf_3 : decode cX2_backOf 3 = .ok (.iconst (-1), 1) := by decide +kernel
theorem dX2_backOf_4 : decode cX2_backOf 4 = .ok (.iload_n 2, 1) := by decide +kernel
theorem dX2_backOf_5 : decode cX2_backOf 5 = .ok (.iconst 2, 1) := by decide +kernel
theorem dX2_backOf_6 : decode cX2_backOf 6 = .ok (.if_icmp .ne 8, 3) := by decide +kernel
theorem dX2_backOf_9 : decode cX2_backOf 9 = .ok (.bipush 31, 2) := by decide +kernel
theorem dX2_backOf_11 : decode cX2_backOf 11 = .ok (.goto 26, 3) := by decide +kernel
theorem dX2_backOf_14 : decode cX2_backOf 14 = .ok (.iload_n 2, 1) := by decide +kernel
theorem dX2_backOf_15 : decode cX2_backOf 15 = .ok (.iconst 4, 1) := by decide +kernel
theorem dX2_backOf_16 : decode cX2_backOf 16 = .ok (.if_icmp .ne 8, 3) := by decide +kernel
theorem dX2_backOf_19 : decode cX2_backOf 19 = .ok (.bipush 30, 2) := by decide +kernel
theorem dX2_backOf_21 : decode cX2_backOf 21 = .ok (.goto 16, 3) := by decide +kernel
theorem dX2_backOf_24 : decode cX2_backOf 24 = .ok (.iload_n 2, 1) := by decide +kernel
theorem dX2_backOf_25 : decode cX2_backOf 25 = .ok (.bipush 8, 2) := by decide +kernel
theorem dX2_backOf_27 : decode cX2_backOf 27 = .ok (.if_icmp .ne 8, 3) := by decide +kernel
theorem dX2_backOf_30 : decode cX2_backOf 30 = .ok (.bipush 29, 2) := by decide +kernel
theorem dX2_backOf_32 : decode cX2_backOf 32 = .ok (.goto 5, 3) := by decide +kernel
theorem dX2_backOf_35 : decode cX2_backOf 35 = .ok (.bipush 28, 2) := by decide +kernel
theorem dX2_backOf_37 : decode cX2_backOf 37 = .ok (.invokevirtual 59, 3) := by decide +kernel
theorem dX2_backOf_40 : decode cX2_backOf 40 = .ok (.return_, 1) := by decide +kernel
theorem dX2_zerosOf_0 : decode cX2_zerosOf 0 = .ok (.iconst 0, 1) := by decide +kernel
theorem dX2_zerosOf_1 : decode cX2_zerosOf 1 = .ok (.istore_n 2, 1) := by decide +kernel
theorem dX2_zerosOf_2 : decode cX2_zerosOf 2 = .ok (.iconst 0, 1) := by decide +kernel
theorem dX2_zerosOf_3 : decode cX2_zerosOf 3 = .ok (.istore_n 3, 1) := by decide +kernel
theorem dX2_zerosOf_4 : decode cX2_zerosOf 4 = .ok (.iload_n 3, 1) := by decide +kernel
theorem dX2_zerosOf_5 : decode cX2_zerosOf 5 = .ok (.aload_n 0, 1) := by decide +kernel
theorem dX2_zerosOf_6 : decode cX2_zerosOf 6 = .ok (.getfield 14, 3) := by decide +kernel
theorem dX2_zerosOf_9 : decode cX2_zerosOf 9 = .ok (.iload_n 1, 1) := by decide +kernel
theorem dX2_zerosOf_10 : decode cX2_zerosOf 10 = .ok (.iaload, 1) := by decide +kernel
theorem dX2_zerosOf_11 : decode cX2_zerosOf 11 = .ok (.if_icmp .ge 28, 3) := by decide +kernel
theorem dX2_zerosOf_14 : decode cX2_zerosOf 14 = .ok (.iload_n 2, 1) := by decide +kernel
theorem dX2_zerosOf_15 : decode cX2_zerosOf 15 = .ok (.aload_n 0, 1) := by decide +kernel
theorem dX2_zerosOf_16 : decode cX2_zerosOf 16 = .ok (.getfield 11, 3) := by decide +kernel
theorem dX2_zerosOf_19 : decode cX2_zerosOf 19 = .ok (.iload_n 1, 1) := by decide +kernel
theorem dX2_zerosOf_20 : decode cX2_zerosOf 20 = .ok (.aaload, 1) := by decide +kernel
theorem dX2_zerosOf_21 : decode cX2_zerosOf 21 = .ok (.iload_n 3, 1) := by decide +kernel
theorem dX2_zerosOf_22 : decode cX2_zerosOf 22 = .ok (.iaload, 1) := by decide +kernel
theorem dX2_zerosOf_23 : decode cX2_zerosOf 23 = .ok (.ifCond .ne 7, 3) := by decide +kernel
theorem dX2_zerosOf_26 : decode cX2_zerosOf 26 = .ok (.iconst 1, 1) := by decide +kernel
theorem dX2_zerosOf_27 : decode cX2_zerosOf 27 = .ok (.goto 4, 3) := by decide +kernel
theorem dX2_zerosOf_30 : decode cX2_zerosOf 30 = .ok (.iconst 0, 1) := by decide +kernel
theorem dX2_zerosOf_31 : decode cX2_zerosOf 31 = .ok (.iadd, 1) := by decide +kernel
theorem dX2_zerosOf_32 : decode cX2_zerosOf 32 = .ok (.istore_n 2, 1) := by decide +kernel
theorem dX2_zerosOf_33 : decode cX2_zerosOf 33 = .ok (.iinc 3 1, 3) := by decide +kernel
theorem dX2_zerosOf_36 : decode cX2_zerosOf 36 = .ok (.goto (-32), 3) := by decide +kernel
theorem dX2_zerosOf_39 : decode cX2_zerosOf 39 = .ok (.iload_n 2, 1) := by decide +kernel
theorem dX2_zerosOf_40 : decode cX2_zerosOf 40 = .ok (.ireturn, 1) := by decide +kernel
theorem dX2_put_0 : decode cX2_put 0 = .ok (.iconst 0, 1) := by decide +kernel
theorem dX2_put_1 : decode cX2_put 1 = .ok (.istore_n 2, 1) := by decide +kernel
theorem dX2_put_2 : decode cX2_put 2 = .ok (.iconst 0, 1) := by decide +kernel
theorem dX2_put_3 : decode cX2_put 3 = .ok (.istore_n 3, 1) := by decide +kernel
theorem dX2_put_4 : decode cX2_put 4 = .ok (.iload_n 3, 1) := by decide +kernel
theorem dX2_put_5 : decode cX2_put 5 = .ok (.aload_n 0, 1) := by decide +kernel
theorem dX2_put_6 : decode cX2_put 6 = .ok (.getfield 14, 3) := by decide +kernel
theorem dX2_put_9 : decode cX2_put 9 = .ok (.iload_n 1, 1) := by decide +kernel
theorem dX2_put_10 : decode cX2_put 10 = .ok (.iaload, 1) := by decide +kernel
theorem dX2_put_11 : decode cX2_put 11 = .ok (.if_icmp .ge 48, 3) := by decide +kernel
theorem dX2_put_14 : decode cX2_put 14 = .ok (.iload_n 2, 1) := by decide +kernel
theorem dX2_put_15 : decode cX2_put 15 = .ok (.aload_n 0, 1) := by decide +kernel
theorem dX2_put_16 : decode cX2_put 16 = .ok (.getfield 11, 3) := by decide +kernel
theorem dX2_put_19 : decode cX2_put 19 = .ok (.iload_n 1, 1) := by decide +kernel
theorem dX2_put_20 : decode cX2_put 20 = .ok (.aaload, 1) := by decide +kernel
theorem dX2_put_21 : decode cX2_put 21 = .ok (.iload_n 3, 1) := by decide +kernel
theorem dX2_put_22 : decode cX2_put 22 = .ok (.iaload, 1) := by decide +kernel
theorem dX2_put_23 : decode cX2_put 23 = .ok (.aload_n 0, 1) := by decide +kernel
theorem dX2_put_24 : decode cX2_put 24 = .ok (.getfield 18, 3) := by decide +kernel
theorem dX2_put_27 : decode cX2_put 27 = .ok (.iload_n 3, 1) := by decide +kernel
theorem dX2_put_28 : decode cX2_put 28 = .ok (.iaload, 1) := by decide +kernel
theorem dX2_put_29 : decode cX2_put 29 = .ok (.if_icmp .ne 7, 3) := by decide +kernel
theorem dX2_put_32 : decode cX2_put 32 = .ok (.iconst 0, 1) := by decide +kernel
theorem dX2_put_33 : decode cX2_put 33 = .ok (.goto 4, 3) := by decide +kernel
theorem dX2_put_36 : decode cX2_put 36 = .ok (.iconst 1, 1) := by decide +kernel
theorem dX2_put_37 : decode cX2_put 37 = .ok (.iadd, 1) := by decide +kernel
theorem dX2_put_38 : decode cX2_put 38 = .ok (.istore_n 2, 1) := by decide +kernel
theorem dX2_put_39 : decode cX2_put 39 = .ok (.aload_n 0, 1) := by decide +kernel
theorem dX2_put_40 : decode cX2_put 40 = .ok (.getfield 11, 3) := by decide +kernel
theorem dX2_put_43 : decode cX2_put 43 = .ok (.iload_n 1, 1) := by decide +kernel
theorem dX2_put_44 : decode cX2_put 44 = .ok (.aaload, 1) := by decide +kernel
theorem dX2_put_45 : decode cX2_put 45 = .ok (.iload_n 3, 1) := by decide +kernel
theorem dX2_put_46 : decode cX2_put 46 = .ok (.aload_n 0, 1) := by decide +kernel
theorem dX2_put_47 : decode cX2_put 47 = .ok (.getfield 18, 3) := by decide +kernel
theorem dX2_put_50 : decode cX2_put 50 = .ok (.iload_n 3, 1) := by decide +kernel
theorem dX2_put_51 : decode cX2_put 51 = .ok (.iaload, 1) := by decide +kernel
theorem dX2_put_52 : decode cX2_put 52 = .ok (.iastore, 1) := by decide +kernel
theorem dX2_put_53 : decode cX2_put 53 = .ok (.iinc 3 1, 3) := by decide +kernel
theorem dX2_put_56 : decode cX2_put 56 = .ok (.goto (-52), 3) := by decide +kernel
theorem dX2_put_59 : decode cX2_put 59 = .ok (.iload_n 2, 1) := by decide +kernel
theorem dX2_put_60 : decode cX2_put 60 = .ok (.ireturn, 1) := by decide +kernel
set_option maxRecDepth 20000 in
theorem ggX2_putZeros_X2_put : GoodIn wsX2_putZeros wsX2_put := goodIn_r _ [5, 6, 7, 8, 13, 14, 15, 16, 17, 18] (by decide +kernel) (by decide +kernel)
set_option maxRecDepth 20000 in
theorem gX2_putZeros_X2_put : GoodIn wsX2_putZeros (wsV RX2 63 RX2 yX2_put wsX2_put) := goodIn_app (goodIn_of _ (by decide +kernel)) ggX2_putZeros_X2_put
set_option maxRecDepth 20000 in
theorem ggX2_putZeros_X2_zerosOf : GoodIn wsX2_putZeros wsX2_zerosOf := goodIn_r _ [12, 6, 7, 13, 14, 15, 16, 17, 18] (by decide +kernel) (by decide +kernel)
set_option maxRecDepth 20000 in
theorem gX2_putZeros_X2_zerosOf : GoodIn wsX2_putZeros (wsV RX2 67 RX2 yX2_zerosOf wsX2_zerosOf) := goodIn_app (goodIn_of _ (by decide +kernel)) ggX2_putZeros_X2_zerosOf
theorem dX2_putZeros_0 : decode cX2_putZeros 0 = .ok (.aload_n 0, 1) := by decide +kernel
theorem dX2_putZeros_1 : decode cX2_putZeros 1 = .ok (.iload_n 1, 1) := by decide +kernel
theorem dX2_putZeros_2 : decode cX2_putZeros 2 = .ok (.invokevirtual 63, 3) := by decide +kernel
theorem dX2_putZeros_5 : decode cX2_putZeros 5 = .ok (.pop, 1) := by decide +kernel
theorem dX2_putZeros_6 : decode cX2_putZeros 6 = .ok (.aload_n 0, 1) := by decide +kernel
theorem dX2_putZeros_7 : decode cX2_putZeros 7 = .ok (.iload_n 1, 1) := by decide +kernel
theorem dX2_putZeros_8 : decode cX2_putZeros 8 = .ok (.invokevirtual 67, 3) := by decide +kernel
theorem dX2_putZeros_11 : decode cX2_putZeros 11 = .ok (.ireturn, 1) := by decide +kernel
set_option maxRecDepth 20000 in
theorem ggX2_make_X2_lacks : GoodIn wsX2_make wsX2_lacks := goodIn_r _ [7, 8, 9, 6, 10, 11, 12, 13, 14, 15, 19, 20, 21, 22, 23, 24] (by decide +kernel) (by decide +kernel)
set_option maxRecDepth 20000 in
theorem gX2_make_X2_lacks : GoodIn wsX2_make (wsV RX2 70 RX2 yX2_lacks wsX2_lacks) := goodIn_app (goodIn_of _ (by decide +kernel)) ggX2_make_X2_lacks
set_option maxRecDepth 20000 in
theorem ggX2_make_X2_isLength : GoodIn wsX2_make wsX2_isLength := goodIn_r _ [18] (by decide +kernel) (by decide +kernel)
set_option maxRecDepth 20000 in
theorem gX2_make_X2_isLength : GoodIn wsX2_make (va_wsS RX2 74 yX2_isLength wsX2_isLength) := goodIn_app (goodIn_of _ (by decide +kernel)) ggX2_make_X2_isLength
set_option maxRecDepth 20000 in
theorem ggX2_make_X2_no : GoodIn wsX2_make wsX2_no := goodIn_r _ [14, 15, 19, 20, 21, 22, 23, 24] (by decide +kernel) (by decide +kernel)
set_option maxRecDepth 20000 in
theorem gX2_make_X2_no : GoodIn wsX2_make (wsV RX2 35 RX2 yX2_no wsX2_no) := goodIn_app (goodIn_of _ (by decide +kernel)) ggX2_make_X2_no
theorem dX2_make_0 : decode cX2_make 0 = .ok (.aload_n 0, 1) := by decide +kernel
theorem dX2_make_1 : decode cX2_make 1 = .ok (.iload_n 1, 1) := by decide +kernel
theorem dX2_make_2 : decode cX2_make 2 = .ok (.invokevirtual 70, 3) := by decide +kernel
theorem dX2_make_5 : decode cX2_make 5 = .ok (.ifCond .ne 15, 3) := by decide +kernel
theorem dX2_make_8 : decode cX2_make 8 = .ok (.aload_n 0, 1) := by decide +kernel
theorem dX2_make_9 : decode cX2_make 9 = .ok (.iload_n 2, 1) := by decide +kernel
theorem dX2_make_10 : decode cX2_make 10 = .ok (.invokestatic 74, 3) := by decide +kernel
theorem dX2_make_13 : decode cX2_make 13 = .ok (.iconst 2, 1) := by decide +kernel
theorem dX2_make_14 : decode cX2_make 14 = .ok (.invokevirtual 35, 3) := by decide +kernel
theorem dX2_make_17 : decode cX2_make 17 = .ok (.ifCond .eq 5, 3) := by decide +kernel
theorem dX2_make_20 : decode cX2_make 20 = .ok (.iconst 0, 1) := by decide +kernel
theorem dX2_make_21 : decode cX2_make 21 = .ok (.ireturn, 1) := by decide +kernel
theorem dX2_make_22 : decode cX2_make 22 = .ok (.aload_n 0, 1) := by decide +kernel
theorem dX2_make_23 : decode cX2_make 23 = .ok (.getfield 14, 3) := by decide +kernel
theorem dX2_make_26 : decode cX2_make 26 = .ok (.iload_n 1, 1) := by decide +kernel
theorem dX2_make_27 : decode cX2_make 27 = .ok (.iaload, 1) := by decide +kernel
theorem dX2_make_28 : decode cX2_make 28 = .ok (.istore_n 3, 1) := by decide +kernel
theorem dX2_make_29 : decode cX2_make 29 = .ok (.aload_n 0, 1) := by decide +kernel
theorem dX2_make_30 : decode cX2_make 30 = .ok (.getfield 14, 3) := by decide +kernel
theorem dX2_make_33 : decode cX2_make 33 = .ok (.iload_n 1, 1) := by decide +kernel
theorem dX2_make_34 : decode cX2_make 34 = .ok (.iload_n 2, 1) := by decide +kernel
theorem dX2_make_35 : decode cX2_make 35 = .ok (.iastore, 1) := by decide +kernel
theorem dX2_make_36 : decode cX2_make 36 = .ok (.iconst 0, 1) := by decide +kernel
theorem dX2_make_37 : decode cX2_make 37 = .ok (.istore 4, 2) := by decide +kernel
theorem dX2_make_39 : decode cX2_make 39 = .ok (.iload 4, 2) := by decide +kernel
theorem dX2_make_41 : decode cX2_make 41 = .ok (.bipush 16, 2) := by decide +kernel
theorem dX2_make_43 : decode cX2_make 43 = .ok (.if_icmp .ge 19, 3) := by decide +kernel
theorem dX2_make_46 : decode cX2_make 46 = .ok (.aload_n 0, 1) := by decide +kernel
theorem dX2_make_47 : decode cX2_make 47 = .ok (.getfield 11, 3) := by decide +kernel
theorem dX2_make_50 : decode cX2_make 50 = .ok (.iload_n 1, 1) := by decide +kernel
theorem dX2_make_51 : decode cX2_make 51 = .ok (.aaload, 1) := by decide +kernel
theorem dX2_make_52 : decode cX2_make 52 = .ok (.iload 4, 2) := by decide +kernel
theorem dX2_make_54 : decode cX2_make 54 = .ok (.iconst 0, 1) := by decide +kernel
theorem dX2_make_55 : decode cX2_make 55 = .ok (.iastore, 1) := by decide +kernel
theorem dX2_make_56 : decode cX2_make 56 = .ok (.iinc 4 1, 3) := by decide +kernel
theorem dX2_make_59 : decode cX2_make 59 = .ok (.goto (-20), 3) := by decide +kernel
theorem dX2_make_62 : decode cX2_make 62 = .ok (.iload_n 3, 1) := by decide +kernel
theorem dX2_make_63 : decode cX2_make 63 = .ok (.ireturn, 1) := by decide +kernel
set_option maxRecDepth 20000 in
theorem ggX2_set_X2_lacksPlace : GoodIn wsX2_set wsX2_lacksPlace := goodIn_r _ [7, 8, 9, 10, 6, 11, 12, 13, 14, 15, 16, 17, 18, 19, 20, 21, 22] (by decide +kernel) (by decide +kernel)
set_option maxRecDepth 20000 in
theorem gX2_set_X2_lacksPlace : GoodIn wsX2_set (wsV RX2 77 RX2 yX2_lacksPlace wsX2_lacksPlace) := goodIn_app (goodIn_of _ (by decide +kernel)) ggX2_set_X2_lacksPlace
set_option maxRecDepth 20000 in
theorem ggX2_set_X2_in : GoodIn wsX2_set wsX2_in := goodIn_r _ [11] (by decide +kernel) (by decide +kernel)
set_option maxRecDepth 20000 in
theorem gX2_set_X2_in : GoodIn wsX2_set (va_wsS RX2 31 yX2_in wsX2_in) := goodIn_app (goodIn_of _ (by decide +kernel)) ggX2_set_X2_in
set_option maxRecDepth 20000 in
theorem ggX2_set_X2_no : GoodIn wsX2_set wsX2_no := goodIn_r _ [15, 16, 17, 18, 19, 20, 21, 22] (by decide +kernel) (by decide +kernel)
set_option maxRecDepth 20000 in
theorem gX2_set_X2_no : GoodIn wsX2_set (wsV RX2 35 RX2 yX2_no wsX2_no) := goodIn_app (goodIn_of _ (by decide +kernel)) ggX2_set_X2_no
theorem dX2_set_0 : decode cX2_set 0 = .ok (.aload_n 0, 1) := by decide +kernel
theorem dX2_set_1 : decode cX2_set 1 = .ok (.iload_n 1, 1) := by decide +kernel
theorem dX2_set_2 : decode cX2_set 2 = .ok (.iload_n 2, 1) := by decide +kernel
theorem dX2_set_3 : decode cX2_set 3 = .ok (.invokevirtual 77, 3) := by decide +kernel
theorem dX2_set_6 : decode cX2_set 6 = .ok (.ifCond .ne 18, 3) := by decide +kernel
theorem dX2_set_9 : decode cX2_set 9 = .ok (.aload_n 0, 1) := by decide +kernel
theorem dX2_set_10 : decode cX2_set 10 = .ok (.iload_n 3, 1) := by decide +kernel
theorem dX2_set_11 : decode cX2_set 11 = .ok (.iconst 0, 1) := by decide +kernel
theorem dX2_set_12 : decode cX2_set 12 = .ok (.ldc 81, 2) := by decide +kernel
theorem dX2_set_14 : decode cX2_set 14 = .ok (.invokestatic 31, 3) := by decide +kernel
theorem dX2_set_17 : decode cX2_set 17 = .ok (.iconst 2, 1) := by decide +kernel
theorem dX2_set_18 : decode cX2_set 18 = .ok (.invokevirtual 35, 3) := by decide +kernel
theorem dX2_set_21 : decode cX2_set 21 = .ok (.ifCond .eq 5, 3) := by decide +kernel
theorem dX2_set_24 : decode cX2_set 24 = .ok (.iconst 0, 1) := by decide +kernel
theorem dX2_set_25 : decode cX2_set 25 = .ok (.ireturn, 1) := by decide +kernel
theorem dX2_set_26 : decode cX2_set 26 = .ok (.aload_n 0, 1) := by decide +kernel
theorem dX2_set_27 : decode cX2_set 27 = .ok (.getfield 11, 3) := by decide +kernel
theorem dX2_set_30 : decode cX2_set 30 = .ok (.iload_n 1, 1) := by decide +kernel
theorem dX2_set_31 : decode cX2_set 31 = .ok (.aaload, 1) := by decide +kernel
theorem dX2_set_32 : decode cX2_set 32 = .ok (.iload_n 2, 1) := by decide +kernel
theorem dX2_set_33 : decode cX2_set 33 = .ok (.iaload, 1) := by decide +kernel
theorem dX2_set_34 : decode cX2_set 34 = .ok (.istore 4, 2) := by decide +kernel
theorem dX2_set_36 : decode cX2_set 36 = .ok (.aload_n 0, 1) := by decide +kernel
theorem dX2_set_37 : decode cX2_set 37 = .ok (.getfield 11, 3) := by decide +kernel
theorem dX2_set_40 : decode cX2_set 40 = .ok (.iload_n 1, 1) := by decide +kernel
theorem dX2_set_41 : decode cX2_set 41 = .ok (.aaload, 1) := by decide +kernel
theorem dX2_set_42 : decode cX2_set 42 = .ok (.iload_n 2, 1) := by decide +kernel
theorem dX2_set_43 : decode cX2_set 43 = .ok (.iload_n 3, 1) := by decide +kernel
theorem dX2_set_44 : decode cX2_set 44 = .ok (.iastore, 1) := by decide +kernel
theorem dX2_set_45 : decode cX2_set 45 = .ok (.iload 4, 2) := by decide +kernel
theorem dX2_set_47 : decode cX2_set 47 = .ok (.ireturn, 1) := by decide +kernel
set_option maxRecDepth 20000 in
theorem ggX2_fill_X2_in : GoodIn wsX2_fill wsX2_in := goodIn_r _ [7] (by decide +kernel) (by decide +kernel)
set_option maxRecDepth 20000 in
theorem gX2_fill_X2_in : GoodIn wsX2_fill (va_wsS RX2 31 yX2_in wsX2_in) := goodIn_app (goodIn_of _ (by decide +kernel)) ggX2_fill_X2_in
set_option maxRecDepth 20000 in
theorem ggX2_fill_X2_no : GoodIn wsX2_fill wsX2_no := goodIn_r _ [11, 12, 13, 14, 15, 16, 17, 18] (by decide +kernel) (by decide +kernel)
set_option maxRecDepth 20000 in
theorem gX2_fill_X2_no : GoodIn wsX2_fill (wsV RX2 35 RX2 yX2_no wsX2_no) := goodIn_app (goodIn_of _ (by decide +kernel)) ggX2_fill_X2_no
theorem dX2_fill_0 : decode cX2_fill 0 = .ok (.aload_n 0, 1) := by decide +kernel
theorem dX2_fill_1 : decode cX2_fill 1 = .ok (.iload_n 1, 1) := by decide +kernel
theorem dX2_fill_2 : decode cX2_fill 2 = .ok (.iconst 0, 1) := by decide +kernel
theorem dX2_fill_3 : decode cX2_fill 3 = .ok (.iconst 3, 1) := by decide +kernel
theorem dX2_fill_4 : decode cX2_fill 4 = .ok (.invokestatic 31, 3) := by decide +kernel
theorem dX2_fill_7 : decode cX2_fill 7 = .ok (.ifCond .eq 21, 3) := by decide +kernel
theorem dX2_fill_10 : decode cX2_fill 10 = .ok (.iload_n 2, 1) := by decide +kernel
theorem dX2_fill_11 : decode cX2_fill 11 = .ok (.iconst 0, 1) := by decide +kernel
theorem dX2_fill_12 : decode cX2_fill 12 = .ok (.aload_n 0, 1) := by decide +kernel
theorem dX2_fill_13 : decode cX2_fill 13 = .ok (.getfield 14, 3) := by decide +kernel
theorem dX2_fill_16 : decode cX2_fill 16 = .ok (.iload_n 1, 1) := by decide +kernel
theorem dX2_fill_17 : decode cX2_fill 17 = .ok (.iaload, 1) := by decide +kernel
theorem dX2_fill_18 : decode cX2_fill 18 = .ok (.invokestatic 31, 3) := by decide +kernel
theorem dX2_fill_21 : decode cX2_fill 21 = .ok (.ifCond .eq 7, 3) := by decide +kernel
theorem dX2_fill_24 : decode cX2_fill 24 = .ok (.iconst 1, 1) := by decide +kernel
theorem dX2_fill_25 : decode cX2_fill 25 = .ok (.goto 4, 3) := by decide +kernel
theorem dX2_fill_28 : decode cX2_fill 28 = .ok (.iconst 0, 1) := by decide +kernel
theorem dX2_fill_29 : decode cX2_fill 29 = .ok (.iconst 1, 1) := by decide +kernel
theorem dX2_fill_30 : decode cX2_fill 30 = .ok (.invokevirtual 35, 3) := by decide +kernel
theorem dX2_fill_33 : decode cX2_fill 33 = .ok (.ifCond .ne 18, 3) := by decide +kernel
theorem dX2_fill_36 : decode cX2_fill 36 = .ok (.aload_n 0, 1) := by decide +kernel
theorem dX2_fill_37 : decode cX2_fill 37 = .ok (.iload_n 3, 1) := by decide +kernel
theorem dX2_fill_38 : decode cX2_fill 38 = .ok (.iconst 0, 1) := by decide +kernel
theorem dX2_fill_39 : decode cX2_fill 39 = .ok (.ldc 81, 2) := by decide +kernel
theorem dX2_fill_41 : decode cX2_fill 41 = .ok (.invokestatic 31, 3) := by decide +kernel
theorem dX2_fill_44 : decode cX2_fill 44 = .ok (.iconst 2, 1) := by decide +kernel
theorem dX2_fill_45 : decode cX2_fill 45 = .ok (.invokevirtual 35, 3) := by decide +kernel
theorem dX2_fill_48 : decode cX2_fill 48 = .ok (.ifCond .eq 5, 3) := by decide +kernel
theorem dX2_fill_51 : decode cX2_fill 51 = .ok (.iconst 0, 1) := by decide +kernel
theorem dX2_fill_52 : decode cX2_fill 52 = .ok (.ireturn, 1) := by decide +kernel
theorem dX2_fill_53 : decode cX2_fill 53 = .ok (.iconst 0, 1) := by decide +kernel
theorem dX2_fill_54 : decode cX2_fill 54 = .ok (.istore 4, 2) := by decide +kernel
theorem dX2_fill_56 : decode cX2_fill 56 = .ok (.iload_n 2, 1) := by decide +kernel
theorem dX2_fill_57 : decode cX2_fill 57 = .ok (.istore 5, 2) := by decide +kernel
theorem dX2_fill_59 : decode cX2_fill 59 = .ok (.iload 5, 2) := by decide +kernel
theorem dX2_fill_61 : decode cX2_fill 61 = .ok (.aload_n 0, 1) := by decide +kernel
theorem dX2_fill_62 : decode cX2_fill 62 = .ok (.getfield 14, 3) := by decide +kernel
theorem dX2_fill_65 : decode cX2_fill 65 = .ok (.iload_n 1, 1) := by decide +kernel
theorem dX2_fill_66 : decode cX2_fill 66 = .ok (.iaload, 1) := by decide +kernel
theorem dX2_fill_67 : decode cX2_fill 67 = .ok (.if_icmp .ge 42, 3) := by decide +kernel
theorem dX2_fill_70 : decode cX2_fill 70 = .ok (.iload 4, 2) := by decide +kernel
theorem dX2_fill_72 : decode cX2_fill 72 = .ok (.aload_n 0, 1) := by decide +kernel
theorem dX2_fill_73 : decode cX2_fill 73 = .ok (.getfield 11, 3) := by decide +kernel
theorem dX2_fill_76 : decode cX2_fill 76 = .ok (.iload_n 1, 1) := by decide +kernel
theorem dX2_fill_77 : decode cX2_fill 77 = .ok (.aaload, 1) := by decide +kernel
theorem dX2_fill_78 : decode cX2_fill 78 = .ok (.iload 5, 2) := by decide +kernel
theorem dX2_fill_80 : decode cX2_fill 80 = .ok (.iaload, 1) := by decide +kernel
theorem dX2_fill_81 : decode cX2_fill 81 = .ok (.iload_n 3, 1) := by decide +kernel
theorem dX2_fill_82 : decode cX2_fill 82 = .ok (.if_icmp .ne 7, 3) := by decide +kernel
theorem dX2_fill_85 : decode cX2_fill 85 = .ok (.iconst 0, 1) := by decide +kernel
theorem dX2_fill_86 : decode cX2_fill 86 = .ok (.goto 4, 3) := by decide +kernel
theorem dX2_fill_89 : decode cX2_fill 89 = .ok (.iconst 1, 1) := by decide +kernel
theorem dX2_fill_90 : decode cX2_fill 90 = .ok (.iadd, 1) := by decide +kernel
theorem dX2_fill_91 : decode cX2_fill 91 = .ok (.istore 4, 2) := by decide +kernel
theorem dX2_fill_93 : decode cX2_fill 93 = .ok (.aload_n 0, 1) := by decide +kernel
theorem dX2_fill_94 : decode cX2_fill 94 = .ok (.getfield 11, 3) := by decide +kernel
theorem dX2_fill_97 : decode cX2_fill 97 = .ok (.iload_n 1, 1) := by decide +kernel
theorem dX2_fill_98 : decode cX2_fill 98 = .ok (.aaload, 1) := by decide +kernel
theorem dX2_fill_99 : decode cX2_fill 99 = .ok (.iload 5, 2) := by decide +kernel
theorem dX2_fill_101 : decode cX2_fill 101 = .ok (.iload_n 3, 1) := by decide +kernel
theorem dX2_fill_102 : decode cX2_fill 102 = .ok (.iastore, 1) := by decide +kernel
theorem dX2_fill_103 : decode cX2_fill 103 = .ok (.iinc 5 1, 3) := by decide +kernel
theorem dX2_fill_106 : decode cX2_fill 106 = .ok (.goto (-47), 3) := by decide +kernel
theorem dX2_fill_109 : decode cX2_fill 109 = .ok (.iload 4, 2) := by decide +kernel
theorem dX2_fill_111 : decode cX2_fill 111 = .ok (.ireturn, 1) := by decide +kernel
theorem dX2_areAlike_0 : decode cX2_areAlike 0 = .ok (.aload_n 0, 1) := by decide +kernel
theorem dX2_areAlike_1 : decode cX2_areAlike 1 = .ok (.getfield 14, 3) := by decide +kernel
theorem dX2_areAlike_4 : decode cX2_areAlike 4 = .ok (.iload_n 1, 1) := by decide +kernel
theorem dX2_areAlike_5 : decode cX2_areAlike 5 = .ok (.iaload, 1) := by decide +kernel
theorem dX2_areAlike_6 : decode cX2_areAlike 6 = .ok (.aload_n 0, 1) := by decide +kernel
theorem dX2_areAlike_7 : decode cX2_areAlike 7 = .ok (.getfield 14, 3) := by decide +kernel
theorem dX2_areAlike_10 : decode cX2_areAlike 10 = .ok (.iload_n 2, 1) := by decide +kernel
theorem dX2_areAlike_11 : decode cX2_areAlike 11 = .ok (.iaload, 1) := by decide +kernel
theorem dX2_areAlike_12 : decode cX2_areAlike 12 = .ok (.if_icmp .ne 7, 3) := by decide +kernel
theorem dX2_areAlike_15 : decode cX2_areAlike 15 = .ok (.iconst 1, 1) := by decide +kernel
theorem dX2_areAlike_16 : decode cX2_areAlike 16 = .ok (.goto 4, 3) := by decide +kernel
theorem dX2_areAlike_19 : decode cX2_areAlike 19 = .ok (.iconst 0, 1) := by decide +kernel
theorem dX2_areAlike_20 : decode cX2_areAlike 20 = .ok (.istore_n 3, 1) := by decide +kernel
theorem dX2_areAlike_21 : decode cX2_areAlike 21 = .ok (.iconst 0, 1) := by decide +kernel
theorem dX2_areAlike_22 : decode cX2_areAlike 22 = .ok (.istore 4, 2) := by decide +kernel
theorem dX2_areAlike_24 : decode cX2_areAlike 24 = .ok (.iload 4, 2) := by decide +kernel
theorem dX2_areAlike_26 : decode cX2_areAlike 26 = .ok (.bipush 16, 2) := by decide +kernel
theorem dX2_areAlike_28 : decode cX2_areAlike 28 = .ok (.if_icmp .ge 40, 3) := by decide +kernel
theorem dX2_areAlike_31 : decode cX2_areAlike 31 = .ok (.iload_n 3, 1) := by decide +kernel
theorem dX2_areAlike_32 : decode cX2_areAlike 32 = .ok (.ifCond .eq 28, 3) := by decide +kernel
theorem dX2_areAlike_35 : decode cX2_areAlike 35 = .ok (.aload_n 0, 1) := by decide +kernel
theorem dX2_areAlike_36 : decode cX2_areAlike 36 = .ok (.getfield 11, 3) := by decide +kernel
theorem dX2_areAlike_39 : decode cX2_areAlike 39 = .ok (.iload_n 1, 1) := by decide +kernel
theorem dX2_areAlike_40 : decode cX2_areAlike 40 = .ok (.aaload, 1) := by decide +kernel
theorem dX2_areAlike_41 : decode cX2_areAlike 41 = .ok (.iload 4, 2) := by decide +kernel
theorem dX2_areAlike_43 : decode cX2_areAlike 43 = .ok (.iaload, 1) := by decide +kernel
theorem dX2_areAlike_44 : decode cX2_areAlike 44 = .ok (.aload_n 0, 1) := by decide +kernel
theorem dX2_areAlike_45 : decode cX2_areAlike 45 = .ok (.getfield 11, 3) := by decide +kernel
theorem dX2_areAlike_48 : decode cX2_areAlike 48 = .ok (.iload_n 2, 1) := by decide +kernel
theorem dX2_areAlike_49 : decode cX2_areAlike 49 = .ok (.aaload, 1) := by decide +kernel
theorem dX2_areAlike_50 : decode cX2_areAlike 50 = .ok (.iload 4, 2) := by decide +kernel
theorem dX2_areAlike_52 : decode cX2_areAlike 52 = .ok (.iaload, 1) := by decide +kernel
theorem dX2_areAlike_53 : decode cX2_areAlike 53 = .ok (.if_icmp .ne 7, 3) := by decide +kernel
theorem dX2_areAlike_56 : decode cX2_areAlike 56 = .ok (.iconst 1, 1) := by decide +kernel
theorem dX2_areAlike_57 : decode cX2_areAlike 57 = .ok (.goto 4, 3) := by decide +kernel
theorem dX2_areAlike_60 : decode cX2_areAlike 60 = .ok (.iconst 0, 1) := by decide +kernel
theorem dX2_areAlike_61 : decode cX2_areAlike 61 = .ok (.istore_n 3, 1) := by decide +kernel
theorem dX2_areAlike_62 : decode cX2_areAlike 62 = .ok (.iinc 4 1, 3) := by decide +kernel
theorem dX2_areAlike_65 : decode cX2_areAlike 65 = .ok (.goto (-41), 3) := by decide +kernel
theorem dX2_areAlike_68 : decode cX2_areAlike 68 = .ok (.iload_n 3, 1) := by decide +kernel
theorem dX2_areAlike_69 : decode cX2_areAlike 69 = .ok (.ireturn, 1) := by decide +kernel
set_option maxRecDepth 20000 in
theorem ggX2_copy_X2_lacksTwo : GoodIn wsX2_copy wsX2_lacksTwo := goodIn_r _ [7, 8, 9, 6, 10, 11, 12, 13, 14, 15, 20, 21, 22, 23, 24, 25] (by decide +kernel) (by decide +kernel)
set_option maxRecDepth 20000 in
theorem gX2_copy_X2_lacksTwo : GoodIn wsX2_copy (wsV RX2 82 RX2 yX2_lacksTwo wsX2_lacksTwo) := goodIn_app (goodIn_of _ (by decide +kernel)) ggX2_copy_X2_lacksTwo
set_option maxRecDepth 20000 in
theorem ggX2_copy_X2_areAlike : GoodIn wsX2_copy wsX2_areAlike := goodIn_r _ [19, 1, 2, 20, 21, 22, 23, 24, 25] (by decide +kernel) (by decide +kernel)
set_option maxRecDepth 20000 in
theorem gX2_copy_X2_areAlike : GoodIn wsX2_copy (wsV RX2 85 RX2 yX2_areAlike wsX2_areAlike) := goodIn_app (goodIn_of _ (by decide +kernel)) ggX2_copy_X2_areAlike
theorem dX2_copy_0 : decode cX2_copy 0 = .ok (.aload_n 0, 1) := by decide +kernel
theorem dX2_copy_1 : decode cX2_copy 1 = .ok (.iload_n 1, 1) := by decide +kernel
theorem dX2_copy_2 : decode cX2_copy 2 = .ok (.iload_n 2, 1) := by decide +kernel
theorem dX2_copy_3 : decode cX2_copy 3 = .ok (.invokevirtual 82, 3) := by decide +kernel
theorem dX2_copy_6 : decode cX2_copy 6 = .ok (.ifCond .eq 5, 3) := by decide +kernel
theorem dX2_copy_9 : decode cX2_copy 9 = .ok (.iconst 0, 1) := by decide +kernel
theorem dX2_copy_10 : decode cX2_copy 10 = .ok (.ireturn, 1) := by decide +kernel
theorem dX2_copy_11 : decode cX2_copy 11 = .ok (.aload_n 0, 1) := by decide +kernel
theorem dX2_copy_12 : decode cX2_copy 12 = .ok (.iload_n 1, 1) := by decide +kernel
theorem dX2_copy_13 : decode cX2_copy 13 = .ok (.iload_n 2, 1) := by decide +kernel
theorem dX2_copy_14 : decode cX2_copy 14 = .ok (.invokevirtual 85, 3) := by decide +kernel
theorem dX2_copy_17 : decode cX2_copy 17 = .ok (.ifCond .ne 7, 3) := by decide +kernel
theorem dX2_copy_20 : decode cX2_copy 20 = .ok (.iconst 1, 1) := by decide +kernel
theorem dX2_copy_21 : decode cX2_copy 21 = .ok (.goto 4, 3) := by decide +kernel
theorem dX2_copy_24 : decode cX2_copy 24 = .ok (.iconst 0, 1) := by decide +kernel
theorem dX2_copy_25 : decode cX2_copy 25 = .ok (.istore_n 3, 1) := by decide +kernel
theorem dX2_copy_26 : decode cX2_copy 26 = .ok (.aload_n 0, 1) := by decide +kernel
theorem dX2_copy_27 : decode cX2_copy 27 = .ok (.getfield 14, 3) := by decide +kernel
theorem dX2_copy_30 : decode cX2_copy 30 = .ok (.iload_n 2, 1) := by decide +kernel
theorem dX2_copy_31 : decode cX2_copy 31 = .ok (.aload_n 0, 1) := by decide +kernel
theorem dX2_copy_32 : decode cX2_copy 32 = .ok (.getfield 14, 3) := by decide +kernel
theorem dX2_copy_35 : decode cX2_copy 35 = .ok (.iload_n 1, 1) := by decide +kernel
theorem dX2_copy_36 : decode cX2_copy 36 = .ok (.iaload, 1) := by decide +kernel
theorem dX2_copy_37 : decode cX2_copy 37 = .ok (.iastore, 1) := by decide +kernel
theorem dX2_copy_38 : decode cX2_copy 38 = .ok (.iconst 0, 1) := by decide +kernel
theorem dX2_copy_39 : decode cX2_copy 39 = .ok (.istore 4, 2) := by decide +kernel
theorem dX2_copy_41 : decode cX2_copy 41 = .ok (.iload 4, 2) := by decide +kernel
theorem dX2_copy_43 : decode cX2_copy 43 = .ok (.bipush 16, 2) := by decide +kernel
theorem dX2_copy_45 : decode cX2_copy 45 = .ok (.if_icmp .ge 27, 3) := by decide +kernel
theorem dX2_copy_48 : decode cX2_copy 48 = .ok (.aload_n 0, 1) := by decide +kernel
theorem dX2_copy_49 : decode cX2_copy 49 = .ok (.getfield 11, 3) := by decide +kernel
theorem dX2_copy_52 : decode cX2_copy 52 = .ok (.iload_n 2, 1) := by decide +kernel
theorem dX2_copy_53 : decode cX2_copy 53 = .ok (.aaload, 1) := by decide +kernel
theorem dX2_copy_54 : decode cX2_copy 54 = .ok (.iload 4, 2) := by decide +kernel
theorem dX2_copy_56 : decode cX2_copy 56 = .ok (.aload_n 0, 1) := by decide +kernel
theorem dX2_copy_57 : decode cX2_copy 57 = .ok (.getfield 11, 3) := by decide +kernel
theorem dX2_copy_60 : decode cX2_copy 60 = .ok (.iload_n 1, 1) := by decide +kernel
theorem dX2_copy_61 : decode cX2_copy 61 = .ok (.aaload, 1) := by decide +kernel
theorem dX2_copy_62 : decode cX2_copy 62 = .ok (.iload 4, 2) := by decide +kernel
theorem dX2_copy_64 : decode cX2_copy 64 = .ok (.iaload, 1) := by decide +kernel
theorem dX2_copy_65 : decode cX2_copy 65 = .ok (.iastore, 1) := by decide +kernel
theorem dX2_copy_66 : decode cX2_copy 66 = .ok (.iinc 4 1, 3) := by decide +kernel
theorem dX2_copy_69 : decode cX2_copy 69 = .ok (.goto (-28), 3) := by decide +kernel
theorem dX2_copy_72 : decode cX2_copy 72 = .ok (.iload_n 3, 1) := by decide +kernel
theorem dX2_copy_73 : decode cX2_copy 73 = .ok (.ireturn, 1) := by decide +kernel
set_option maxRecDepth 20000 in
theorem ggX2_length_X2_lacks : GoodIn wsX2_length wsX2_lacks := goodIn_r _ [6, 7, 8, 5, 9, 10, 11, 12, 13, 14, 15, 16, 17, 18, 19, 20] (by decide +kernel) (by decide +kernel)
set_option maxRecDepth 20000 in
theorem gX2_length_X2_lacks : GoodIn wsX2_length (wsV RX2 70 RX2 yX2_lacks wsX2_lacks) := goodIn_app (goodIn_of _ (by decide +kernel)) ggX2_length_X2_lacks
theorem dX2_length_0 : decode cX2_length 0 = .ok (.aload_n 0, 1) := by decide +kernel
theorem dX2_length_1 : decode cX2_length 1 = .ok (.iload_n 1, 1) := by decide +kernel
theorem dX2_length_2 : decode cX2_length 2 = .ok (.invokevirtual 70, 3) := by decide +kernel
theorem dX2_length_5 : decode cX2_length 5 = .ok (.ifCond .eq 7, 3) := by decide +kernel
theorem dX2_length_8 : decode cX2_length 8 = .ok (.iconst 0, 1) := by decide +kernel
theorem dX2_length_9 : decode cX2_length 9 = .ok (.goto 9, 3) := by decide +kernel
theorem dX2_length_12 : decode cX2_length 12 = .ok (.aload_n 0, 1) := by decide +kernel
theorem dX2_length_13 : decode cX2_length 13 = .ok (.getfield 14, 3) := by decide +kernel
theorem dX2_length_16 : decode cX2_length 16 = .ok (.iload_n 1, 1) := by decide +kernel
theorem dX2_length_17 : decode cX2_length 17 = .ok (.iaload, 1) := by decide +kernel
theorem dX2_length_18 : decode cX2_length 18 = .ok (.ireturn, 1) := by decide +kernel
set_option maxRecDepth 20000 in
theorem ggX2_number_X2_lacksPlace : GoodIn wsX2_number wsX2_lacksPlace := goodIn_r _ [6, 7, 8, 9, 5, 10, 11, 12, 13, 14, 15, 16, 17, 18, 19, 20, 21] (by decide +kernel) (by decide +kernel)
set_option maxRecDepth 20000 in
theorem gX2_number_X2_lacksPlace : GoodIn wsX2_number (wsV RX2 77 RX2 yX2_lacksPlace wsX2_lacksPlace) := goodIn_app (goodIn_of _ (by decide +kernel)) ggX2_number_X2_lacksPlace
theorem dX2_number_0 : decode cX2_number 0 = .ok (.aload_n 0, 1) := by decide +kernel
theorem dX2_number_1 : decode cX2_number 1 = .ok (.iload_n 1, 1) := by decide +kernel
theorem dX2_number_2 : decode cX2_number 2 = .ok (.iload_n 2, 1) := by decide +kernel
theorem dX2_number_3 : decode cX2_number 3 = .ok (.invokevirtual 77, 3) := by decide +kernel
theorem dX2_number_6 : decode cX2_number 6 = .ok (.ifCond .eq 7, 3) := by decide +kernel
theorem dX2_number_9 : decode cX2_number 9 = .ok (.iconst 0, 1) := by decide +kernel
theorem dX2_number_10 : decode cX2_number 10 = .ok (.goto 11, 3) := by decide +kernel
theorem dX2_number_13 : decode cX2_number 13 = .ok (.aload_n 0, 1) := by decide +kernel
theorem dX2_number_14 : decode cX2_number 14 = .ok (.getfield 11, 3) := by decide +kernel
theorem dX2_number_17 : decode cX2_number 17 = .ok (.iload_n 1, 1) := by decide +kernel
theorem dX2_number_18 : decode cX2_number 18 = .ok (.aaload, 1) := by decide +kernel
theorem dX2_number_19 : decode cX2_number 19 = .ok (.iload_n 2, 1) := by decide +kernel
theorem dX2_number_20 : decode cX2_number 20 = .ok (.iaload, 1) := by decide +kernel
theorem dX2_number_21 : decode cX2_number 21 = .ok (.ireturn, 1) := by decide +kernel
set_option maxRecDepth 20000 in
theorem ggX2_useOdd_X2_in : GoodIn wsX2_useOdd wsX2_in := goodIn_r _ [5] (by decide +kernel) (by decide +kernel)
set_option maxRecDepth 20000 in
theorem gX2_useOdd_X2_in : GoodIn wsX2_useOdd (va_wsS RX2 31 yX2_in wsX2_in) := goodIn_app (goodIn_of _ (by decide +kernel)) ggX2_useOdd_X2_in
set_option maxRecDepth 20000 in
theorem ggX2_useOdd_X2_no : GoodIn wsX2_useOdd wsX2_no := goodIn_r _ [9, 10, 11, 12, 13, 14, 15, 16] (by decide +kernel) (by decide +kernel)
set_option maxRecDepth 20000 in
theorem gX2_useOdd_X2_no : GoodIn wsX2_useOdd (wsV RX2 35 RX2 yX2_no wsX2_no) := goodIn_app (goodIn_of _ (by decide +kernel)) ggX2_useOdd_X2_no
theorem dX2_useOdd_0 : decode cX2_useOdd 0 = .ok (.aload_n 0, 1) := by decide +kernel
theorem dX2_useOdd_1 : decode cX2_useOdd 1 = .ok (.iload_n 1, 1) := by decide +kernel
theorem dX2_useOdd_2 : decode cX2_useOdd 2 = .ok (.iconst 1, 1) := by decide +kernel
theorem dX2_useOdd_3 : decode cX2_useOdd 3 = .ok (.bipush 31, 2) := by decide +kernel
theorem dX2_useOdd_5 : decode cX2_useOdd 5 = .ok (.invokestatic 31, 3) := by decide +kernel
theorem dX2_useOdd_8 : decode cX2_useOdd 8 = .ok (.ifCond .eq 14, 3) := by decide +kernel
theorem dX2_useOdd_11 : decode cX2_useOdd 11 = .ok (.iload_n 1, 1) := by decide +kernel
theorem dX2_useOdd_12 : decode cX2_useOdd 12 = .ok (.iconst 2, 1) := by decide +kernel
theorem dX2_useOdd_13 : decode cX2_useOdd 13 = .ok (.irem, 1) := by decide +kernel
theorem dX2_useOdd_14 : decode cX2_useOdd 14 = .ok (.iconst 1, 1) := by decide +kernel
theorem dX2_useOdd_15 : decode cX2_useOdd 15 = .ok (.if_icmp .ne 7, 3) := by decide +kernel
theorem dX2_useOdd_18 : decode cX2_useOdd 18 = .ok (.iconst 1, 1) := by decide +kernel
theorem dX2_useOdd_19 : decode cX2_useOdd 19 = .ok (.goto 4, 3) := by decide +kernel
theorem dX2_useOdd_22 : decode cX2_useOdd 22 = .ok (.iconst 0, 1) := by decide +kernel
theorem dX2_useOdd_23 : decode cX2_useOdd 23 = .ok (.iconst 1, 1) := by decide +kernel
theorem dX2_useOdd_24 : decode cX2_useOdd 24 = .ok (.invokevirtual 35, 3) := by decide +kernel
theorem dX2_useOdd_27 : decode cX2_useOdd 27 = .ok (.ifCond .eq 5, 3) := by decide +kernel
theorem dX2_useOdd_30 : decode cX2_useOdd 30 = .ok (.iconst 0, 1) := by decide +kernel
theorem dX2_useOdd_31 : decode cX2_useOdd 31 = .ok (.ireturn, 1) := by decide +kernel
theorem dX2_useOdd_32 : decode cX2_useOdd 32 = .ok (.aload_n 0, 1) := by decide +kernel
theorem dX2_useOdd_33 : decode cX2_useOdd 33 = .ok (.getfield 24, 3) := by decide +kernel
theorem dX2_useOdd_36 : decode cX2_useOdd 36 = .ok (.istore_n 2, 1) := by decide +kernel
theorem dX2_useOdd_37 : decode cX2_useOdd 37 = .ok (.aload_n 0, 1) := by decide +kernel
theorem dX2_useOdd_38 : decode cX2_useOdd 38 = .ok (.iload_n 1, 1) := by decide +kernel
theorem dX2_useOdd_39 : decode cX2_useOdd 39 = .ok (.putfield 24, 3) := by decide +kernel
theorem dX2_useOdd_42 : decode cX2_useOdd 42 = .ok (.iload_n 2, 1) := by decide +kernel
theorem dX2_useOdd_43 : decode cX2_useOdd 43 = .ok (.ireturn, 1) := by decide +kernel
set_option maxRecDepth 20000 in
theorem ggX2_root_X2_power : GoodIn wsX2_root wsX2_power := goodIn_r _ [5, 6, 7, 4, 8, 9, 10, 11, 12, 13, 14, 15, 16, 17, 18, 19, 20, 21, 22, 23, 24, 25, 26, 27, 28, 29, 30, 31] (by decide +kernel) (by decide +kernel)
set_option maxRecDepth 20000 in
theorem gX2_root_X2_power : GoodIn wsX2_root (wsV RX2 88 RX2 yX2_power wsX2_power) := goodIn_app (goodIn_of _ (by decide +kernel)) ggX2_root_X2_power
theorem dX2_root_0 : decode cX2_root 0 = .ok (.aload_n 0, 1) := by decide +kernel
theorem dX2_root_1 : decode cX2_root 1 = .ok (.iload_n 1, 1) := by decide +kernel
theorem dX2_root_2 : decode cX2_root 2 = .ok (.iconst 1, 1) := by decide +kernel
theorem dX2_root_3 : decode cX2_root 3 = .ok (.invokevirtual 88, 3) := by decide +kernel
theorem dX2_root_6 : decode cX2_root 6 = .ok (.ireturn, 1) := by decide +kernel
set_option maxRecDepth 20000 in
theorem ggX2_power_X2_isLength : GoodIn wsX2_power wsX2_isLength := goodIn_r _ [4] (by decide +kernel) (by decide +kernel)
set_option maxRecDepth 20000 in
theorem gX2_power_X2_isLength : GoodIn wsX2_power (va_wsS RX2 74 yX2_isLength wsX2_isLength) := goodIn_app (goodIn_of _ (by decide +kernel)) ggX2_power_X2_isLength
set_option maxRecDepth 20000 in
theorem ggX2_power_X2_no : GoodIn wsX2_power wsX2_no := goodIn_r _ [8, 9, 22, 23, 24, 25, 26, 27] (by decide +kernel) (by decide +kernel)
set_option maxRecDepth 20000 in
theorem gX2_power_X2_no : GoodIn wsX2_power (wsV RX2 35 RX2 yX2_no wsX2_no) := goodIn_app (goodIn_of _ (by decide +kernel)) ggX2_power_X2_no
set_option maxRecDepth 20000 in
theorem ggX2_power_X2_exponent : GoodIn wsX2_power wsX2_exponent := goodIn_r _ [13, 14, 15, 16, 3, 17, 22, 23, 24, 25, 26, 27] (by decide +kernel) (by decide +kernel)
set_option maxRecDepth 20000 in
theorem gX2_power_X2_exponent : GoodIn wsX2_power (wsV RX2 50 RX2 yX2_exponent wsX2_exponent) := goodIn_app (goodIn_of _ (by decide +kernel)) ggX2_power_X2_exponent
set_option maxRecDepth 20000 in
theorem ggX2_power_X2_doubled : GoodIn wsX2_power wsX2_doubled := goodIn_r _ [20, 21] (by decide +kernel) (by decide +kernel)
set_option maxRecDepth 20000 in
theorem gX2_power_X2_doubled : GoodIn wsX2_power (va_wsS RX2 54 yX2_doubled wsX2_doubled) := goodIn_app (goodIn_of _ (by decide +kernel)) ggX2_power_X2_doubled
theorem dX2_power_0 : decode cX2_power 0 = .ok (.aload_n 0, 1) := by decide +kernel
theorem dX2_power_1 : decode cX2_power 1 = .ok (.iload_n 1, 1) := by decide +kernel
theorem dX2_power_2 : decode cX2_power 2 = .ok (.invokestatic 74, 3) := by decide +kernel
theorem dX2_power_5 : decode cX2_power 5 = .ok (.iconst 1, 1) := by decide +kernel
theorem dX2_power_6 : decode cX2_power 6 = .ok (.invokevirtual 35, 3) := by decide +kernel
theorem dX2_power_9 : decode cX2_power 9 = .ok (.ifCond .eq 7, 3) := by decide +kernel
theorem dX2_power_12 : decode cX2_power 12 = .ok (.iconst 0, 1) := by decide +kernel
theorem dX2_power_13 : decode cX2_power 13 = .ok (.goto 14, 3) := by decide +kernel
theorem dX2_power_16 : decode cX2_power 16 = .ok (.iconst 1, 1) := by decide +kernel
theorem dX2_power_17 : decode cX2_power 17 = .ok (.aload_n 0, 1) := by decide +kernel
theorem dX2_power_18 : decode cX2_power 18 = .ok (.iload_n 1, 1) := by decide +kernel
theorem dX2_power_19 : decode cX2_power 19 = .ok (.iload_n 2, 1) := by decide +kernel
theorem dX2_power_20 : decode cX2_power 20 = .ok (.i2l, 1) := by decide +kernel
theorem dX2_power_21 : decode cX2_power 21 = .ok (.invokevirtual 50, 3) := by decide +kernel
theorem dX2_power_24 : decode cX2_power 24 = .ok (.invokestatic 54, 3) := by decide +kernel
theorem dX2_power_27 : decode cX2_power 27 = .ok (.ireturn, 1) := by decide +kernel
set_option maxRecDepth 20000 in
theorem ggX2_values_X2_lacks : GoodIn wsX2_values wsX2_lacks := goodIn_r _ [5, 6, 7, 4, 8, 9, 10, 11, 12, 13, 50, 51, 52, 53, 54, 55] (by decide +kernel) (by decide +kernel)
set_option maxRecDepth 20000 in
theorem gX2_values_X2_lacks : GoodIn wsX2_values (wsV RX2 70 RX2 yX2_lacks wsX2_lacks) := goodIn_app (goodIn_of _ (by decide +kernel)) ggX2_values_X2_lacks
set_option maxRecDepth 20000 in
theorem ggX2_values_X2_valuesOf : GoodIn wsX2_values wsX2_valuesOf := goodIn_r _ [17, 18, 19, 20, 21, 22, 4, 23, 24, 25, 26, 27, 28, 29, 30, 31, 32, 33, 34, 35, 36, 37, 50, 51, 52, 53, 54, 55] (by decide +kernel) (by decide +kernel)
set_option maxRecDepth 20000 in
theorem gX2_values_X2_valuesOf : GoodIn wsX2_values (wsV RX2 91 RX2 yX2_valuesOf wsX2_valuesOf) := goodIn_app (goodIn_of _ (by decide +kernel)) ggX2_values_X2_valuesOf
set_option maxRecDepth 20000 in
theorem ggX2_values_X2_putZeros : GoodIn wsX2_values wsX2_putZeros := goodIn_r _ [41, 42, 43, 44, 4, 45, 19, 18, 25, 46, 47, 48, 49, 50, 51, 52, 53, 54, 55] (by decide +kernel) (by decide +kernel)
set_option maxRecDepth 20000 in
theorem gX2_values_X2_putZeros : GoodIn wsX2_values (wsV RX2 95 RX2 yX2_putZeros wsX2_putZeros) := goodIn_app (goodIn_of _ (by decide +kernel)) ggX2_values_X2_putZeros
theorem dX2_values_0 : decode cX2_values 0 = .ok (.aload_n 0, 1) := by decide +kernel
theorem dX2_values_1 : decode cX2_values 1 = .ok (.iload_n 1, 1) := by decide +kernel
theorem dX2_values_2 : decode cX2_values 2 = .ok (.invokevirtual 70, 3) := by decide +kernel
theorem dX2_values_5 : decode cX2_values 5 = .ok (.ifCond .eq 5, 3) := by decide +kernel
theorem dX2_values_8 : decode cX2_values 8 = .ok (.iconst 0, 1) := by decide +kernel
theorem dX2_values_9 : decode cX2_values 9 = .ok (.ireturn, 1) := by decide +kernel
theorem dX2_values_10 : decode cX2_values 10 = .ok (.aload_n 0, 1) := by decide +kernel
theorem dX2_values_11 : decode cX2_values 11 = .ok (.iload_n 1, 1) := by decide +kernel
theorem dX2_values_12 : decode cX2_values 12 = .ok (.invokevirtual 91, 3) := by decide +kernel
theorem dX2_values_15 : decode cX2_values 15 = .ok (.aload_n 0, 1) := by decide +kernel
theorem dX2_values_16 : decode cX2_values 16 = .ok (.iload_n 1, 1) := by decide +kernel
theorem dX2_values_17 : decode cX2_values 17 = .ok (.invokevirtual 95, 3) := by decide +kernel
theorem dX2_values_20 : decode cX2_values 20 = .ok (.ireturn, 1) := by decide +kernel
set_option maxRecDepth 20000 in
theorem ggX2_back_X2_lacks : GoodIn wsX2_back wsX2_lacks := goodIn_r _ [7, 8, 9, 6, 10, 11, 12, 13, 14, 15, 50, 51, 52, 53, 54, 55] (by decide +kernel) (by decide +kernel)
set_option maxRecDepth 20000 in
theorem gX2_back_X2_lacks : GoodIn wsX2_back (wsV RX2 70 RX2 yX2_lacks wsX2_lacks) := goodIn_app (goodIn_of _ (by decide +kernel)) ggX2_back_X2_lacks
set_option maxRecDepth 20000 in
theorem ggX2_back_X2_backOf : GoodIn wsX2_back wsX2_backOf := goodIn_r _ [19, 20, 21, 22, 6, 23, 24, 25, 26, 27, 28, 29, 30, 31, 32, 33, 34, 35, 36, 37, 50, 51, 52, 53, 54, 55] (by decide +kernel) (by decide +kernel)
set_option maxRecDepth 20000 in
theorem gX2_back_X2_backOf : GoodIn wsX2_back (wsV RX2 98 RX2 yX2_backOf wsX2_backOf) := goodIn_app (goodIn_of _ (by decide +kernel)) ggX2_back_X2_backOf
set_option maxRecDepth 20000 in
theorem ggX2_back_X2_putZeros : GoodIn wsX2_back wsX2_putZeros := goodIn_r _ [41, 42, 43, 44, 6, 45, 2, 1, 25, 46, 47, 48, 49, 50, 51, 52, 53, 54, 55] (by decide +kernel) (by decide +kernel)
set_option maxRecDepth 20000 in
theorem gX2_back_X2_putZeros : GoodIn wsX2_back (wsV RX2 95 RX2 yX2_putZeros wsX2_putZeros) := goodIn_app (goodIn_of _ (by decide +kernel)) ggX2_back_X2_putZeros
theorem dX2_back_0 : decode cX2_back 0 = .ok (.aload_n 0, 1) := by decide +kernel
theorem dX2_back_1 : decode cX2_back 1 = .ok (.iload_n 1, 1) := by decide +kernel
theorem dX2_back_2 : decode cX2_back 2 = .ok (.invokevirtual 70, 3) := by decide +kernel
theorem dX2_back_5 : decode cX2_back 5 = .ok (.ifCond .eq 5, 3) := by decide +kernel
theorem dX2_back_8 : decode cX2_back 8 = .ok (.iconst 0, 1) := by decide +kernel
theorem dX2_back_9 : decode cX2_back 9 = .ok (.ireturn, 1) := by decide +kernel
theorem dX2_back_10 : decode cX2_back 10 = .ok (.aload_n 0, 1) := by decide +kernel
theorem dX2_back_11 : decode cX2_back 11 = .ok (.aload_n 0, 1) := by decide +kernel
theorem dX2_back_12 : decode cX2_back 12 = .ok (.getfield 11, 3) := by decide +kernel
theorem dX2_back_15 : decode cX2_back 15 = .ok (.iload_n 1, 1) := by decide +kernel
theorem dX2_back_16 : decode cX2_back 16 = .ok (.aaload, 1) := by decide +kernel
theorem dX2_back_17 : decode cX2_back 17 = .ok (.aload_n 0, 1) := by decide +kernel
theorem dX2_back_18 : decode cX2_back 18 = .ok (.getfield 14, 3) := by decide +kernel
theorem dX2_back_21 : decode cX2_back 21 = .ok (.iload_n 1, 1) := by decide +kernel
theorem dX2_back_22 : decode cX2_back 22 = .ok (.iaload, 1) := by decide +kernel
theorem dX2_back_23 : decode cX2_back 23 = .ok (.invokevirtual 98, 3) := by decide +kernel
theorem dX2_back_26 : decode cX2_back 26 = .ok (.aload_n 0, 1) := by decide +kernel
theorem dX2_back_27 : decode cX2_back 27 = .ok (.iload_n 1, 1) := by decide +kernel
theorem dX2_back_28 : decode cX2_back 28 = .ok (.invokevirtual 95, 3) := by decide +kernel
theorem dX2_back_31 : decode cX2_back 31 = .ok (.ireturn, 1) := by decide +kernel
set_option maxRecDepth 20000 in
theorem ggX2_valueAt_X2_lacks : GoodIn wsX2_valueAt wsX2_lacks := goodIn_r _ [8, 9, 10, 7, 11, 12, 13, 14, 15, 16, 21, 22, 23, 24, 25, 26] (by decide +kernel) (by decide +kernel)
set_option maxRecDepth 20000 in
theorem gX2_valueAt_X2_lacks : GoodIn wsX2_valueAt (wsV RX2 70 RX2 yX2_lacks wsX2_lacks) := goodIn_app (goodIn_of _ (by decide +kernel)) ggX2_valueAt_X2_lacks
set_option maxRecDepth 20000 in
theorem ggX2_valueAt_X2_in : GoodIn wsX2_valueAt wsX2_in := goodIn_r _ [11] (by decide +kernel) (by decide +kernel)
set_option maxRecDepth 20000 in
theorem gX2_valueAt_X2_in : GoodIn wsX2_valueAt (va_wsS RX2 31 yX2_in wsX2_in) := goodIn_app (goodIn_of _ (by decide +kernel)) ggX2_valueAt_X2_in
set_option maxRecDepth 20000 in
theorem ggX2_valueAt_X2_no : GoodIn wsX2_valueAt wsX2_no := goodIn_r _ [15, 16, 21, 22, 23, 24, 25, 26] (by decide +kernel) (by decide +kernel)
set_option maxRecDepth 20000 in
theorem gX2_valueAt_X2_no : GoodIn wsX2_valueAt (wsV RX2 35 RX2 yX2_no wsX2_no) := goodIn_app (goodIn_of _ (by decide +kernel)) ggX2_valueAt_X2_no
set_option maxRecDepth 20000 in
theorem ggX2_valueAt_X2_product : GoodIn wsX2_valueAt wsX2_product := goodIn_r _ [19, 20] (by decide +kernel) (by decide +kernel)
set_option maxRecDepth 20000 in
theorem gX2_valueAt_X2_product : GoodIn wsX2_valueAt (va_wsS RX2 42 yX2_product wsX2_product) := goodIn_app (goodIn_of _ (by decide +kernel)) ggX2_valueAt_X2_product
theorem dX2_valueAt_0 : decode cX2_valueAt 0 = .ok (.aload_n 0, 1) := by decide +kernel
theorem dX2_valueAt_1 : decode cX2_valueAt 1 = .ok (.iload_n 1, 1) := by decide +kernel
theorem dX2_valueAt_2 : decode cX2_valueAt 2 = .ok (.invokevirtual 70, 3) := by decide +kernel
theorem dX2_valueAt_5 : decode cX2_valueAt 5 = .ok (.ifCond .ne 18, 3) := by decide +kernel
theorem dX2_valueAt_8 : decode cX2_valueAt 8 = .ok (.aload_n 0, 1) := by decide +kernel
theorem dX2_valueAt_9 : decode cX2_valueAt 9 = .ok (.iload_n 2, 1) := by decide +kernel
theorem dX2_valueAt_10 : decode cX2_valueAt 10 = .ok (.iconst 0, 1) := by decide +kernel
theorem dX2_valueAt_11 : decode cX2_valueAt 11 = .ok (.ldc 81, 2) := by decide +kernel
theorem dX2_valueAt_13 : decode cX2_valueAt 13 = .ok (.invokestatic 31, 3) := by decide +kernel
theorem dX2_valueAt_16 : decode cX2_valueAt 16 = .ok (.iconst 2, 1) := by decide +kernel
theorem dX2_valueAt_17 : decode cX2_valueAt 17 = .ok (.invokevirtual 35, 3) := by decide +kernel
theorem dX2_valueAt_20 : decode cX2_valueAt 20 = .ok (.ifCond .eq 5, 3) := by decide +kernel
theorem dX2_valueAt_23 : decode cX2_valueAt 23 = .ok (.iconst 0, 1) := by decide +kernel
theorem dX2_valueAt_24 : decode cX2_valueAt 24 = .ok (.ireturn, 1) := by decide +kernel
theorem dX2_valueAt_25 : decode cX2_valueAt 25 = .ok (.iconst 0, 1) := by decide +kernel
theorem dX2_valueAt_26 : decode cX2_valueAt 26 = .ok (.istore_n 3, 1) := by decide +kernel
theorem dX2_valueAt_27 : decode cX2_valueAt 27 = .ok (.aload_n 0, 1) := by decide +kernel
theorem dX2_valueAt_28 : decode cX2_valueAt 28 = .ok (.getfield 14, 3) := by decide +kernel
theorem dX2_valueAt_31 : decode cX2_valueAt 31 = .ok (.iload_n 1, 1) := by decide +kernel
theorem dX2_valueAt_32 : decode cX2_valueAt 32 = .ok (.iaload, 1) := by decide +kernel
theorem dX2_valueAt_33 : decode cX2_valueAt 33 = .ok (.iconst 1, 1) := by decide +kernel
theorem dX2_valueAt_34 : decode cX2_valueAt 34 = .ok (.isub, 1) := by decide +kernel
theorem dX2_valueAt_35 : decode cX2_valueAt 35 = .ok (.istore 4, 2) := by decide +kernel
theorem dX2_valueAt_37 : decode cX2_valueAt 37 = .ok (.iload 4, 2) := by decide +kernel
theorem dX2_valueAt_39 : decode cX2_valueAt 39 = .ok (.ifCond .lt 26, 3) := by decide +kernel
theorem dX2_valueAt_42 : decode cX2_valueAt 42 = .ok (.iload_n 3, 1) := by decide +kernel
theorem dX2_valueAt_43 : decode cX2_valueAt 43 = .ok (.i2l, 1) := by decide +kernel
theorem dX2_valueAt_44 : decode cX2_valueAt 44 = .ok (.iload_n 2, 1) := by decide +kernel
theorem dX2_valueAt_45 : decode cX2_valueAt 45 = .ok (.i2l, 1) := by decide +kernel
theorem dX2_valueAt_46 : decode cX2_valueAt 46 = .ok (.aload_n 0, 1) := by decide +kernel
theorem dX2_valueAt_47 : decode cX2_valueAt 47 = .ok (.getfield 11, 3) := by decide +kernel
theorem dX2_valueAt_50 : decode cX2_valueAt 50 = .ok (.iload_n 1, 1) := by decide +kernel
theorem dX2_valueAt_51 : decode cX2_valueAt 51 = .ok (.aaload, 1) := by decide +kernel
theorem dX2_valueAt_52 : decode cX2_valueAt 52 = .ok (.iload 4, 2) := by decide +kernel
theorem dX2_valueAt_54 : decode cX2_valueAt 54 = .ok (.iaload, 1) := by decide +kernel
theorem dX2_valueAt_55 : decode cX2_valueAt 55 = .ok (.invokestatic 42, 3) := by decide +kernel
theorem dX2_valueAt_58 : decode cX2_valueAt 58 = .ok (.istore_n 3, 1) := by decide +kernel
theorem dX2_valueAt_59 : decode cX2_valueAt 59 = .ok (.iinc 4 (-1), 3) := by decide +kernel
theorem dX2_valueAt_62 : decode cX2_valueAt 62 = .ok (.goto (-25), 3) := by decide +kernel
theorem dX2_valueAt_65 : decode cX2_valueAt 65 = .ok (.iload_n 3, 1) := by decide +kernel
theorem dX2_valueAt_66 : decode cX2_valueAt 66 = .ok (.ireturn, 1) := by decide +kernel
set_option maxRecDepth 20000 in
theorem ggX2_support_X2_lacks : GoodIn wsX2_support wsX2_lacks := goodIn_r _ [7, 8, 9, 6, 10, 11, 12, 13, 14, 15, 38, 39, 40, 41, 42, 43] (by decide +kernel) (by decide +kernel)
set_option maxRecDepth 20000 in
theorem gX2_support_X2_lacks : GoodIn wsX2_support (wsV RX2 70 RX2 yX2_lacks wsX2_lacks) := goodIn_app (goodIn_of _ (by decide +kernel)) ggX2_support_X2_lacks
set_option maxRecDepth 20000 in
theorem ggX2_support_X2_valuesOf : GoodIn wsX2_support wsX2_valuesOf := goodIn_r _ [19, 20, 1, 21, 22, 23, 6, 24, 25, 2, 26, 27, 28, 29, 30, 31, 32, 33, 34, 35, 36, 37, 38, 39, 40, 41, 42, 43] (by decide +kernel) (by decide +kernel)
set_option maxRecDepth 20000 in
theorem gX2_support_X2_valuesOf : GoodIn wsX2_support (wsV RX2 91 RX2 yX2_valuesOf wsX2_valuesOf) := goodIn_app (goodIn_of _ (by decide +kernel)) ggX2_support_X2_valuesOf
theorem dX2_support_0 : decode cX2_support 0 = .ok (.aload_n 0, 1) := by decide +kernel
theorem dX2_support_1 : decode cX2_support 1 = .ok (.iload_n 1, 1) := by decide +kernel
theorem dX2_support_2 : decode cX2_support 2 = .ok (.invokevirtual 70, 3) := by decide +kernel
theorem dX2_support_5 : decode cX2_support 5 = .ok (.ifCond .eq 5, 3) := by decide +kernel
theorem dX2_support_8 : decode cX2_support 8 = .ok (.iconst 0, 1) := by decide +kernel
theorem dX2_support_9 : decode cX2_support 9 = .ok (.ireturn, 1) := by decide +kernel
theorem dX2_support_10 : decode cX2_support 10 = .ok (.aload_n 0, 1) := by decide +kernel
theorem dX2_support_11 : decode cX2_support 11 = .ok (.iload_n 1, 1) := by decide +kernel
theorem dX2_support_12 : decode cX2_support 12 = .ok (.invokevirtual 91, 3) := by decide +kernel
theorem dX2_support_15 : decode cX2_support 15 = .ok (.iconst 0, 1) := by decide +kernel
theorem dX2_support_16 : decode cX2_support 16 = .ok (.istore_n 2, 1) := by decide +kernel
theorem dX2_support_17 : decode cX2_support 17 = .ok (.iconst 0, 1) := by decide +kernel
theorem dX2_support_18 : decode cX2_support 18 = .ok (.istore_n 3, 1) := by decide +kernel
theorem dX2_support_19 : decode cX2_support 19 = .ok (.iload_n 3, 1) := by decide +kernel
theorem dX2_support_20 : decode cX2_support 20 = .ok (.aload_n 0, 1) := by decide +kernel
theorem dX2_support_21 : decode cX2_support 21 = .ok (.getfield 14, 3) := by decide +kernel
theorem dX2_support_24 : decode cX2_support 24 = .ok (.iload_n 1, 1) := by decide +kernel
theorem dX2_support_25 : decode cX2_support 25 = .ok (.iaload, 1) := by decide +kernel
theorem dX2_support_26 : decode cX2_support 26 = .ok (.if_icmp .ge 28, 3) := by decide +kernel
theorem dX2_support_29 : decode cX2_support 29 = .ok (.iload_n 2, 1) := by decide +kernel
theorem dX2_support_30 : decode cX2_support 30 = .ok (.aload_n 0, 1) := by decide +kernel
theorem dX2_support_31 : decode cX2_support 31 = .ok (.getfield 18, 3) := by decide +kernel
theorem dX2_support_34 : decode cX2_support 34 = .ok (.iload_n 3, 1) := by decide +kernel
theorem dX2_support_35 : decode cX2_support 35 = .ok (.iaload, 1) := by decide +kernel
theorem dX2_support_36 : decode cX2_support 36 = .ok (.ifCond .ne 7, 3) := by decide +kernel
theorem dX2_support_39 : decode cX2_support 39 = .ok (.iconst 0, 1) := by decide +kernel
theorem dX2_support_40 : decode cX2_support 40 = .ok (.goto 6, 3) := by decide +kernel
theorem dX2_support_43 : decode cX2_support 43 = .ok (.iconst 1, 1) := by decide +kernel
theorem dX2_support_44 : decode cX2_support 44 = .ok (.iload_n 3, 1) := by decide +kernel
theorem dX2_support_45 : decode cX2_support 45 = .ok (.ishl, 1) := by decide +kernel
theorem dX2_support_46 : decode cX2_support 46 = .ok (.iadd, 1) := by decide +kernel
theorem dX2_support_47 : decode cX2_support 47 = .ok (.istore_n 2, 1) := by decide +kernel
theorem dX2_support_48 : decode cX2_support 48 = .ok (.iinc 3 1, 3) := by decide +kernel
theorem dX2_support_51 : decode cX2_support 51 = .ok (.goto (-32), 3) := by decide +kernel
theorem dX2_support_54 : decode cX2_support 54 = .ok (.iload_n 2, 1) := by decide +kernel
theorem dX2_support_55 : decode cX2_support 55 = .ok (.ireturn, 1) := by decide +kernel
set_option maxRecDepth 20000 in
theorem ggX2_multiplied_X2_product : GoodIn wsX2_multiplied wsX2_product := goodIn_r _ [7, 8] (by decide +kernel) (by decide +kernel)
set_option maxRecDepth 20000 in
theorem gX2_multiplied_X2_product : GoodIn wsX2_multiplied (va_wsS RX2 42 yX2_product wsX2_product) := goodIn_app (goodIn_of _ (by decide +kernel)) ggX2_multiplied_X2_product
theorem dX2_multiplied_0 : decode cX2_multiplied 0 = .ok (.aload_n 0, 1) := by decide +kernel
theorem dX2_multiplied_1 : decode cX2_multiplied 1 = .ok (.getfield 14, 3) := by decide +kernel
theorem dX2_multiplied_4 : decode cX2_multiplied 4 = .ok (.iload_n 1, 1) := by decide +kernel
theorem dX2_multiplied_5 : decode cX2_multiplied 5 = .ok (.iaload, 1) := by decide +kernel
theorem dX2_multiplied_6 : decode cX2_multiplied 6 = .ok (.istore 4, 2) := by decide +kernel
theorem dX2_multiplied_8 : decode cX2_multiplied 8 = .ok (.iconst 0, 1) := by decide +kernel
theorem dX2_multiplied_9 : decode cX2_multiplied 9 = .ok (.istore 5, 2) := by decide +kernel
theorem dX2_multiplied_11 : decode cX2_multiplied 11 = .ok (.iload 5, 2) := by decide +kernel
theorem dX2_multiplied_13 : decode cX2_multiplied 13 = .ok (.iload_n 3, 1) := by decide +kernel
theorem dX2_multiplied_14 : decode cX2_multiplied 14 = .ok (.if_icmp .ge 97, 3) := by decide +kernel
theorem dX2_multiplied_17 : decode cX2_multiplied 17 = .ok (.iconst 0, 1) := by decide +kernel
theorem dX2_multiplied_18 : decode cX2_multiplied 18 = .ok (.istore 6, 2) := by decide +kernel
theorem dX2_multiplied_20 : decode cX2_multiplied 20 = .ok (.iconst 0, 1) := by decide +kernel
theorem dX2_multiplied_21 : decode cX2_multiplied 21 = .ok (.istore 7, 2) := by decide +kernel
theorem dX2_multiplied_23 : decode cX2_multiplied 23 = .ok (.iload 7, 2) := by decide +kernel
theorem dX2_multiplied_25 : decode cX2_multiplied 25 = .ok (.iload 4, 2) := by decide +kernel
theorem dX2_multiplied_27 : decode cX2_multiplied 27 = .ok (.if_icmp .ge 69, 3) := by decide +kernel
theorem dX2_multiplied_30 : decode cX2_multiplied 30 = .ok (.iconst 0, 1) := by decide +kernel
theorem dX2_multiplied_31 : decode cX2_multiplied 31 = .ok (.istore 8, 2) := by decide +kernel
theorem dX2_multiplied_33 : decode cX2_multiplied 33 = .ok (.iload 8, 2) := by decide +kernel
theorem dX2_multiplied_35 : decode cX2_multiplied 35 = .ok (.iload 4, 2) := by decide +kernel
theorem dX2_multiplied_37 : decode cX2_multiplied 37 = .ok (.if_icmp .ge 53, 3) := by decide +kernel
theorem dX2_multiplied_40 : decode cX2_multiplied 40 = .ok (.iload 7, 2) := by decide +kernel
theorem dX2_multiplied_42 : decode cX2_multiplied 42 = .ok (.iload 8, 2) := by decide +kernel
theorem dX2_multiplied_44 : decode cX2_multiplied 44 = .ok (.iadd, 1) := by decide +kernel
theorem dX2_multiplied_45 : decode cX2_multiplied 45 = .ok (.iload_n 3, 1) := by decide +kernel
theorem dX2_multiplied_46 : decode cX2_multiplied 46 = .ok (.irem, 1) := by decide +kernel
theorem dX2_multiplied_47 : decode cX2_multiplied 47 = .ok (.iload 5, 2) := by decide +kernel
theorem dX2_multiplied_49 : decode cX2_multiplied 49 = .ok (.if_icmp .ne 31, 3) := by decide +kernel
theorem dX2_multiplied_52 : decode cX2_multiplied 52 = .ok (.aload_n 0, 1) := by decide +kernel
theorem dX2_multiplied_53 : decode cX2_multiplied 53 = .ok (.getfield 11, 3) := by decide +kernel
theorem dX2_multiplied_56 : decode cX2_multiplied 56 = .ok (.iload_n 1, 1) := by decide +kernel
theorem dX2_multiplied_57 : decode cX2_multiplied 57 = .ok (.aaload, 1) := by decide +kernel
theorem dX2_multiplied_58 : decode cX2_multiplied 58 = .ok (.iload 7, 2) := by decide +kernel
theorem dX2_multiplied_60 : decode cX2_multiplied 60 = .ok (.iaload, 1) := by decide +kernel
theorem dX2_multiplied_61 : decode cX2_multiplied 61 = .ok (.i2l, 1) := by decide +kernel
theorem dX2_multiplied_62 : decode cX2_multiplied 62 = .ok (.aload_n 0, 1) := by decide +kernel
theorem dX2_multiplied_63 : decode cX2_multiplied 63 = .ok (.getfield 11, 3) := by decide +kernel
theorem dX2_multiplied_66 : decode cX2_multiplied 66 = .ok (.iload_n 2, 1) := by decide +kernel
theorem dX2_multiplied_67 : decode cX2_multiplied 67 = .ok (.aaload, 1) := by decide +kernel
theorem dX2_multiplied_68 : decode cX2_multiplied 68 = .ok (.iload 8, 2) := by decide +kernel
theorem dX2_multiplied_70 : decode cX2_multiplied 70 = .ok (.iaload, 1) := by decide +kernel
theorem dX2_multiplied_71 : decode cX2_multiplied 71 = .ok (.i2l, 1) := by decide +kernel
theorem dX2_multiplied_72 : decode cX2_multiplied 72 = .ok (.iload 6, 2) := by decide +kernel
theorem dX2_multiplied_74 : decode cX2_multiplied 74 = .ok (.invokestatic 42, 3) := by decide +kernel
theorem dX2_multiplied_77 : decode cX2_multiplied 77 = .ok (.goto 5, 3) := by decide +kernel
theorem dX2_multiplied_80 : decode cX2_multiplied 80 = .ok (.iload 6, 2) := by decide +kernel
theorem dX2_multiplied_82 : decode cX2_multiplied 82 = .ok (.istore 6, 2) := by decide +kernel
theorem dX2_multiplied_84 : decode cX2_multiplied 84 = .ok (.iinc 8 1, 3) := by decide +kernel
theorem dX2_multiplied_87 : decode cX2_multiplied 87 = .ok (.goto (-54), 3) := by decide +kernel
theorem dX2_multiplied_90 : decode cX2_multiplied 90 = .ok (.iinc 7 1, 3) := by decide +kernel
theorem dX2_multiplied_93 : decode cX2_multiplied 93 = .ok (.goto (-70), 3) := by decide +kernel
theorem dX2_multiplied_96 : decode cX2_multiplied 96 = .ok (.aload_n 0, 1) := by decide +kernel
theorem dX2_multiplied_97 : decode cX2_multiplied 97 = .ok (.getfield 18, 3) := by decide +kernel
theorem dX2_multiplied_100 : decode cX2_multiplied 100 = .ok (.iload 5, 2) := by decide +kernel
theorem dX2_multiplied_102 : decode cX2_multiplied 102 = .ok (.iload 6, 2) := by decide +kernel
theorem dX2_multiplied_104 : decode cX2_multiplied 104 = .ok (.iastore, 1) := by decide +kernel
theorem dX2_multiplied_105 : decode cX2_multiplied 105 = .ok (.iinc 5 1, 3) := by decide +kernel
theorem dX2_multiplied_108 : decode cX2_multiplied 108 = .ok (.goto (-97), 3) := by decide +kernel
theorem dX2_multiplied_111 : decode cX2_multiplied 111 = .ok (.return_, 1) := by decide +kernel
set_option maxRecDepth 20000 in
theorem ggX2_times_X2_lacksTwo : GoodIn wsX2_times wsX2_lacksTwo := goodIn_r _ [6, 7, 8, 5, 9, 10, 11, 12, 13, 14, 37, 38, 39, 40, 41, 42] (by decide +kernel) (by decide +kernel)
set_option maxRecDepth 20000 in
theorem gX2_times_X2_lacksTwo : GoodIn wsX2_times (wsV RX2 82 RX2 yX2_lacksTwo wsX2_lacksTwo) := goodIn_app (goodIn_of _ (by decide +kernel)) ggX2_times_X2_lacksTwo
set_option maxRecDepth 20000 in
theorem ggX2_times_X2_no : GoodIn wsX2_times wsX2_no := goodIn_r _ [13, 14, 37, 38, 39, 40, 41, 42] (by decide +kernel) (by decide +kernel)
set_option maxRecDepth 20000 in
theorem gX2_times_X2_no : GoodIn wsX2_times (wsV RX2 35 RX2 yX2_no wsX2_no) := goodIn_app (goodIn_of _ (by decide +kernel)) ggX2_times_X2_no
set_option maxRecDepth 20000 in
theorem ggX2_times_X2_multiplied : GoodIn wsX2_times wsX2_multiplied := goodIn_r _ [18, 1, 19, 20, 21, 22, 5, 23, 24, 37, 38, 39, 40, 41, 42] (by decide +kernel) (by decide +kernel)
set_option maxRecDepth 20000 in
theorem gX2_times_X2_multiplied : GoodIn wsX2_times (wsV RX2 102 RX2 yX2_multiplied wsX2_multiplied) := goodIn_app (goodIn_of _ (by decide +kernel)) ggX2_times_X2_multiplied
set_option maxRecDepth 20000 in
theorem ggX2_times_X2_putZeros : GoodIn wsX2_times wsX2_putZeros := goodIn_r _ [28, 29, 30, 31, 5, 32, 1, 19, 20, 33, 34, 35, 36, 37, 38, 39, 40, 41, 42] (by decide +kernel) (by decide +kernel)
set_option maxRecDepth 20000 in
theorem gX2_times_X2_putZeros : GoodIn wsX2_times (wsV RX2 95 RX2 yX2_putZeros wsX2_putZeros) := goodIn_app (goodIn_of _ (by decide +kernel)) ggX2_times_X2_putZeros
theorem dX2_times_0 : decode cX2_times 0 = .ok (.aload_n 0, 1) := by decide +kernel
theorem dX2_times_1 : decode cX2_times 1 = .ok (.iload_n 1, 1) := by decide +kernel
theorem dX2_times_2 : decode cX2_times 2 = .ok (.iload_n 2, 1) := by decide +kernel
theorem dX2_times_3 : decode cX2_times 3 = .ok (.invokevirtual 82, 3) := by decide +kernel
theorem dX2_times_6 : decode cX2_times 6 = .ok (.ifCond .ne 31, 3) := by decide +kernel
theorem dX2_times_9 : decode cX2_times 9 = .ok (.aload_n 0, 1) := by decide +kernel
theorem dX2_times_10 : decode cX2_times 10 = .ok (.aload_n 0, 1) := by decide +kernel
theorem dX2_times_11 : decode cX2_times 11 = .ok (.getfield 14, 3) := by decide +kernel
theorem dX2_times_14 : decode cX2_times 14 = .ok (.iload_n 1, 1) := by decide +kernel
theorem dX2_times_15 : decode cX2_times 15 = .ok (.iaload, 1) := by decide +kernel
theorem dX2_times_16 : decode cX2_times 16 = .ok (.aload_n 0, 1) := by decide +kernel
theorem dX2_times_17 : decode cX2_times 17 = .ok (.getfield 14, 3) := by decide +kernel
theorem dX2_times_20 : decode cX2_times 20 = .ok (.iload_n 2, 1) := by decide +kernel
theorem dX2_times_21 : decode cX2_times 21 = .ok (.iaload, 1) := by decide +kernel
theorem dX2_times_22 : decode cX2_times 22 = .ok (.if_icmp .ne 7, 3) := by decide +kernel
theorem dX2_times_25 : decode cX2_times 25 = .ok (.iconst 1, 1) := by decide +kernel
theorem dX2_times_26 : decode cX2_times 26 = .ok (.goto 4, 3) := by decide +kernel
theorem dX2_times_29 : decode cX2_times 29 = .ok (.iconst 0, 1) := by decide +kernel
theorem dX2_times_30 : decode cX2_times 30 = .ok (.iconst 2, 1) := by decide +kernel
theorem dX2_times_31 : decode cX2_times 31 = .ok (.invokevirtual 35, 3) := by decide +kernel
theorem dX2_times_34 : decode cX2_times 34 = .ok (.ifCond .eq 5, 3) := by decide +kernel
theorem dX2_times_37 : decode cX2_times 37 = .ok (.iconst 0, 1) := by decide +kernel
theorem dX2_times_38 : decode cX2_times 38 = .ok (.ireturn, 1) := by decide +kernel
theorem dX2_times_39 : decode cX2_times 39 = .ok (.aload_n 0, 1) := by decide +kernel
theorem dX2_times_40 : decode cX2_times 40 = .ok (.iload_n 1, 1) := by decide +kernel
theorem dX2_times_41 : decode cX2_times 41 = .ok (.iload_n 2, 1) := by decide +kernel
theorem dX2_times_42 : decode cX2_times 42 = .ok (.aload_n 0, 1) := by decide +kernel
theorem dX2_times_43 : decode cX2_times 43 = .ok (.getfield 14, 3) := by decide +kernel
theorem dX2_times_46 : decode cX2_times 46 = .ok (.iload_n 1, 1) := by decide +kernel
theorem dX2_times_47 : decode cX2_times 47 = .ok (.iaload, 1) := by decide +kernel
theorem dX2_times_48 : decode cX2_times 48 = .ok (.invokevirtual 102, 3) := by decide +kernel
theorem dX2_times_51 : decode cX2_times 51 = .ok (.aload_n 0, 1) := by decide +kernel
theorem dX2_times_52 : decode cX2_times 52 = .ok (.iload_n 1, 1) := by decide +kernel
theorem dX2_times_53 : decode cX2_times 53 = .ok (.invokevirtual 95, 3) := by decide +kernel
theorem dX2_times_56 : decode cX2_times 56 = .ok (.ireturn, 1) := by decide +kernel
set_option maxRecDepth 20000 in
theorem ggX2_cannotBePlain_X2_lacksTwo : GoodIn wsX2_cannotBePlain wsX2_lacksTwo := goodIn_r _ [6, 7, 8, 5, 9, 10, 11, 12, 13, 14, 15, 16, 17, 18, 19, 20] (by decide +kernel) (by decide +kernel)
set_option maxRecDepth 20000 in
theorem gX2_cannotBePlain_X2_lacksTwo : GoodIn wsX2_cannotBePlain (wsV RX2 82 RX2 yX2_lacksTwo wsX2_lacksTwo) := goodIn_app (goodIn_of _ (by decide +kernel)) ggX2_cannotBePlain_X2_lacksTwo
set_option maxRecDepth 20000 in
theorem ggX2_cannotBePlain_X2_no : GoodIn wsX2_cannotBePlain wsX2_no := goodIn_r _ [13, 14, 15, 16, 17, 18, 19, 20] (by decide +kernel) (by decide +kernel)
set_option maxRecDepth 20000 in
theorem gX2_cannotBePlain_X2_no : GoodIn wsX2_cannotBePlain (wsV RX2 35 RX2 yX2_no wsX2_no) := goodIn_app (goodIn_of _ (by decide +kernel)) ggX2_cannotBePlain_X2_no
theorem dX2_cannotBePlain_0 : decode cX2_cannotBePlain 0 = .ok (.aload_n 0, 1) := by decide +kernel
theorem dX2_cannotBePlain_1 : decode cX2_cannotBePlain 1 = .ok (.iload_n 1, 1) := by decide +kernel
theorem dX2_cannotBePlain_2 : decode cX2_cannotBePlain 2 = .ok (.iload_n 2, 1) := by decide +kernel
theorem dX2_cannotBePlain_3 : decode cX2_cannotBePlain 3 = .ok (.invokevirtual 82, 3) := by decide +kernel
theorem dX2_cannotBePlain_6 : decode cX2_cannotBePlain 6 = .ok (.ifCond .ne 42, 3) := by decide +kernel
theorem dX2_cannotBePlain_9 : decode cX2_cannotBePlain 9 = .ok (.aload_n 0, 1) := by decide +kernel
theorem dX2_cannotBePlain_10 : decode cX2_cannotBePlain 10 = .ok (.aload_n 0, 1) := by decide +kernel
theorem dX2_cannotBePlain_11 : decode cX2_cannotBePlain 11 = .ok (.getfield 14, 3) := by decide +kernel
theorem dX2_cannotBePlain_14 : decode cX2_cannotBePlain 14 = .ok (.iload_n 1, 1) := by decide +kernel
theorem dX2_cannotBePlain_15 : decode cX2_cannotBePlain 15 = .ok (.iaload, 1) := by decide +kernel
theorem dX2_cannotBePlain_16 : decode cX2_cannotBePlain 16 = .ok (.aload_n 0, 1) := by decide +kernel
theorem dX2_cannotBePlain_17 : decode cX2_cannotBePlain 17 = .ok (.getfield 14, 3) := by decide +kernel
theorem dX2_cannotBePlain_20 : decode cX2_cannotBePlain 20 = .ok (.iload_n 2, 1) := by decide +kernel
theorem dX2_cannotBePlain_21 : decode cX2_cannotBePlain 21 = .ok (.iaload, 1) := by decide +kernel
theorem dX2_cannotBePlain_22 : decode cX2_cannotBePlain 22 = .ok (.if_icmp .ne 18, 3) := by decide +kernel
theorem dX2_cannotBePlain_25 : decode cX2_cannotBePlain 25 = .ok (.aload_n 0, 1) := by decide +kernel
theorem dX2_cannotBePlain_26 : decode cX2_cannotBePlain 26 = .ok (.getfield 14, 3) := by decide +kernel
theorem dX2_cannotBePlain_29 : decode cX2_cannotBePlain 29 = .ok (.iload_n 1, 1) := by decide +kernel
theorem dX2_cannotBePlain_30 : decode cX2_cannotBePlain 30 = .ok (.iaload, 1) := by decide +kernel
theorem dX2_cannotBePlain_31 : decode cX2_cannotBePlain 31 = .ok (.bipush 16, 2) := by decide +kernel
theorem dX2_cannotBePlain_33 : decode cX2_cannotBePlain 33 = .ok (.if_icmp .ge 7, 3) := by decide +kernel
theorem dX2_cannotBePlain_36 : decode cX2_cannotBePlain 36 = .ok (.iconst 1, 1) := by decide +kernel
theorem dX2_cannotBePlain_37 : decode cX2_cannotBePlain 37 = .ok (.goto 4, 3) := by decide +kernel
theorem dX2_cannotBePlain_40 : decode cX2_cannotBePlain 40 = .ok (.iconst 0, 1) := by decide +kernel
theorem dX2_cannotBePlain_41 : decode cX2_cannotBePlain 41 = .ok (.iconst 2, 1) := by decide +kernel
theorem dX2_cannotBePlain_42 : decode cX2_cannotBePlain 42 = .ok (.invokevirtual 35, 3) := by decide +kernel
theorem dX2_cannotBePlain_45 : decode cX2_cannotBePlain 45 = .ok (.ifCond .eq 7, 3) := by decide +kernel
theorem dX2_cannotBePlain_48 : decode cX2_cannotBePlain 48 = .ok (.iconst 1, 1) := by decide +kernel
theorem dX2_cannotBePlain_49 : decode cX2_cannotBePlain 49 = .ok (.goto 4, 3) := by decide +kernel
theorem dX2_cannotBePlain_52 : decode cX2_cannotBePlain 52 = .ok (.iconst 0, 1) := by decide +kernel
theorem dX2_cannotBePlain_53 : decode cX2_cannotBePlain 53 = .ok (.ireturn, 1) := by decide +kernel
set_option maxRecDepth 20000 in
theorem ggX2_plainTimes_X2_cannotBePlain : GoodIn wsX2_plainTimes wsX2_cannotBePlain := goodIn_r _ [6, 1, 7, 8, 9, 5, 10, 11, 12, 13, 14, 15, 16, 17, 18, 41, 42, 43, 44, 45, 46] (by decide +kernel) (by decide +kernel)
set_option maxRecDepth 20000 in
theorem gX2_plainTimes_X2_cannotBePlain : GoodIn wsX2_plainTimes (wsV RX2 106 RX2 yX2_cannotBePlain wsX2_cannotBePlain) := goodIn_app (goodIn_of _ (by decide +kernel)) ggX2_plainTimes_X2_cannotBePlain
set_option maxRecDepth 20000 in
theorem ggX2_plainTimes_X2_multiplied : GoodIn wsX2_plainTimes wsX2_multiplied := goodIn_r _ [22, 1, 23, 24, 25, 26, 5, 27, 28, 41, 42, 43, 44, 45, 46] (by decide +kernel) (by decide +kernel)
set_option maxRecDepth 20000 in
theorem gX2_plainTimes_X2_multiplied : GoodIn wsX2_plainTimes (wsV RX2 102 RX2 yX2_multiplied wsX2_multiplied) := goodIn_app (goodIn_of _ (by decide +kernel)) ggX2_plainTimes_X2_multiplied
set_option maxRecDepth 20000 in
theorem ggX2_plainTimes_X2_putZeros : GoodIn wsX2_plainTimes wsX2_putZeros := goodIn_r _ [32, 33, 34, 35, 5, 36, 1, 23, 24, 37, 38, 39, 40, 41, 42, 43, 44, 45, 46] (by decide +kernel) (by decide +kernel)
set_option maxRecDepth 20000 in
theorem gX2_plainTimes_X2_putZeros : GoodIn wsX2_plainTimes (wsV RX2 95 RX2 yX2_putZeros wsX2_putZeros) := goodIn_app (goodIn_of _ (by decide +kernel)) ggX2_plainTimes_X2_putZeros
theorem dX2_plainTimes_0 : decode cX2_plainTimes 0 = .ok (.aload_n 0, 1) := by decide +kernel
theorem dX2_plainTimes_1 : decode cX2_plainTimes 1 = .ok (.iload_n 1, 1) := by decide +kernel
theorem dX2_plainTimes_2 : decode cX2_plainTimes 2 = .ok (.iload_n 2, 1) := by decide +kernel
theorem dX2_plainTimes_3 : decode cX2_plainTimes 3 = .ok (.invokevirtual 106, 3) := by decide +kernel
theorem dX2_plainTimes_6 : decode cX2_plainTimes 6 = .ok (.ifCond .eq 5, 3) := by decide +kernel
theorem dX2_plainTimes_9 : decode cX2_plainTimes 9 = .ok (.iconst 0, 1) := by decide +kernel
theorem dX2_plainTimes_10 : decode cX2_plainTimes 10 = .ok (.ireturn, 1) := by decide +kernel
theorem dX2_plainTimes_11 : decode cX2_plainTimes 11 = .ok (.aload_n 0, 1) := by decide +kernel
theorem dX2_plainTimes_12 : decode cX2_plainTimes 12 = .ok (.iload_n 1, 1) := by decide +kernel
theorem dX2_plainTimes_13 : decode cX2_plainTimes 13 = .ok (.iload_n 2, 1) := by decide +kernel
theorem dX2_plainTimes_14 : decode cX2_plainTimes 14 = .ok (.iconst 2, 1) := by decide +kernel
theorem dX2_plainTimes_15 : decode cX2_plainTimes 15 = .ok (.aload_n 0, 1) := by decide +kernel
theorem dX2_plainTimes_16 : decode cX2_plainTimes 16 = .ok (.getfield 14, 3) := by decide +kernel
theorem dX2_plainTimes_19 : decode cX2_plainTimes 19 = .ok (.iload_n 1, 1) := by decide +kernel
theorem dX2_plainTimes_20 : decode cX2_plainTimes 20 = .ok (.iaload, 1) := by decide +kernel
theorem dX2_plainTimes_21 : decode cX2_plainTimes 21 = .ok (.imul, 1) := by decide +kernel
theorem dX2_plainTimes_22 : decode cX2_plainTimes 22 = .ok (.invokevirtual 102, 3) := by decide +kernel
theorem dX2_plainTimes_25 : decode cX2_plainTimes 25 = .ok (.aload_n 0, 1) := by decide +kernel
theorem dX2_plainTimes_26 : decode cX2_plainTimes 26 = .ok (.getfield 14, 3) := by decide +kernel
theorem dX2_plainTimes_29 : decode cX2_plainTimes 29 = .ok (.iload_n 1, 1) := by decide +kernel
theorem dX2_plainTimes_30 : decode cX2_plainTimes 30 = .ok (.dup2, 1) := by decide +kernel
theorem dX2_plainTimes_31 : decode cX2_plainTimes 31 = .ok (.iaload, 1) := by decide +kernel
theorem dX2_plainTimes_32 : decode cX2_plainTimes 32 = .ok (.iconst 2, 1) := by decide +kernel
theorem dX2_plainTimes_33 : decode cX2_plainTimes 33 = .ok (.imul, 1) := by decide +kernel
theorem dX2_plainTimes_34 : decode cX2_plainTimes 34 = .ok (.iastore, 1) := by decide +kernel
theorem dX2_plainTimes_35 : decode cX2_plainTimes 35 = .ok (.aload_n 0, 1) := by decide +kernel
theorem dX2_plainTimes_36 : decode cX2_plainTimes 36 = .ok (.iload_n 1, 1) := by decide +kernel
theorem dX2_plainTimes_37 : decode cX2_plainTimes 37 = .ok (.invokevirtual 95, 3) := by decide +kernel
theorem dX2_plainTimes_40 : decode cX2_plainTimes 40 = .ok (.ireturn, 1) := by decide +kernel
set_option maxRecDepth 20000 in
theorem ggX2_invert_X2_lacks : GoodIn wsX2_invert wsX2_lacks := goodIn_r _ [9, 10, 11, 8, 12, 13, 14, 15, 16, 17, 54, 55, 56, 57, 58, 59] (by decide +kernel) (by decide +kernel)
set_option maxRecDepth 20000 in
theorem gX2_invert_X2_lacks : GoodIn wsX2_invert (wsV RX2 70 RX2 yX2_lacks wsX2_lacks) := goodIn_app (goodIn_of _ (by decide +kernel)) ggX2_invert_X2_lacks
set_option maxRecDepth 20000 in
theorem ggX2_invert_X2_valuesOf : GoodIn wsX2_invert wsX2_valuesOf := goodIn_r _ [21, 4, 1, 22, 23, 24, 8, 25, 26, 2, 27, 28, 29, 30, 31, 32, 33, 34, 35, 36, 37, 38, 54, 55, 56, 57, 58, 59] (by decide +kernel) (by decide +kernel)
set_option maxRecDepth 20000 in
theorem gX2_invert_X2_valuesOf : GoodIn wsX2_invert (wsV RX2 91 RX2 yX2_valuesOf wsX2_valuesOf) := goodIn_app (goodIn_of _ (by decide +kernel)) ggX2_invert_X2_valuesOf
set_option maxRecDepth 20000 in
theorem ggX2_invert_X2_inverse : GoodIn wsX2_invert wsX2_inverse := goodIn_r _ [41, 42, 43, 44, 8, 45, 38] (by decide +kernel) (by decide +kernel)
set_option maxRecDepth 20000 in
theorem gX2_invert_X2_inverse : GoodIn wsX2_invert (va_wsS RX2 109 yX2_inverse wsX2_inverse) := goodIn_app (goodIn_of _ (by decide +kernel)) ggX2_invert_X2_inverse
set_option maxRecDepth 20000 in
theorem ggX2_invert_X2_no : GoodIn wsX2_invert wsX2_no := goodIn_r _ [16, 17, 54, 55, 56, 57, 58, 59] (by decide +kernel) (by decide +kernel)
set_option maxRecDepth 20000 in
theorem gX2_invert_X2_no : GoodIn wsX2_invert (wsV RX2 35 RX2 yX2_no wsX2_no) := goodIn_app (goodIn_of _ (by decide +kernel)) ggX2_invert_X2_no
set_option maxRecDepth 20000 in
theorem ggX2_invert_X2_backOf : GoodIn wsX2_invert wsX2_backOf := goodIn_r _ [49, 22, 23, 24, 8, 25, 26, 2, 27, 28, 29, 30, 31, 32, 33, 34, 35, 36, 37, 38, 54, 55, 56, 57, 58, 59] (by decide +kernel) (by decide +kernel)
set_option maxRecDepth 20000 in
theorem gX2_invert_X2_backOf : GoodIn wsX2_invert (wsV RX2 98 RX2 yX2_backOf wsX2_backOf) := goodIn_app (goodIn_of _ (by decide +kernel)) ggX2_invert_X2_backOf
set_option maxRecDepth 20000 in
theorem ggX2_invert_X2_put : GoodIn wsX2_invert wsX2_put := goodIn_r _ [53, 1, 4, 2, 54, 55, 56, 57, 58, 59] (by decide +kernel) (by decide +kernel)
set_option maxRecDepth 20000 in
theorem gX2_invert_X2_put : GoodIn wsX2_invert (wsV RX2 63 RX2 yX2_put wsX2_put) := goodIn_app (goodIn_of _ (by decide +kernel)) ggX2_invert_X2_put
theorem dX2_invert_0 : decode cX2_invert 0 = .ok (.aload_n 0, 1) := by decide +kernel
theorem dX2_invert_1 : decode cX2_invert 1 = .ok (.iload_n 1, 1) := by decide +kernel
theorem dX2_invert_2 : decode cX2_invert 2 = .ok (.invokevirtual 70, 3) := by decide +kernel
theorem dX2_invert_5 : decode cX2_invert 5 = .ok (.ifCond .eq 5, 3) := by decide +kernel
theorem dX2_invert_8 : decode cX2_invert 8 = .ok (.iconst 0, 1) := by decide +kernel
theorem dX2_invert_9 : decode cX2_invert 9 = .ok (.ireturn, 1) := by decide +kernel
theorem dX2_invert_10 : decode cX2_invert 10 = .ok (.aload_n 0, 1) := by decide +kernel
theorem dX2_invert_11 : decode cX2_invert 11 = .ok (.iload_n 1, 1) := by decide +kernel
theorem dX2_invert_12 : decode cX2_invert 12 = .ok (.invokevirtual 91, 3) := by decide +kernel
theorem dX2_invert_15 : decode cX2_invert 15 = .ok (.iconst 1, 1) := by decide +kernel
theorem dX2_invert_16 : decode cX2_invert 16 = .ok (.istore_n 2, 1) := by decide +kernel
theorem dX2_invert_17 : decode cX2_invert 17 = .ok (.iconst 0, 1) := by decide +kernel
theorem dX2_invert_18 : decode cX2_invert 18 = .ok (.istore_n 3, 1) := by decide +kernel
theorem dX2_invert_19 : decode cX2_invert 19 = .ok (.iload_n 3, 1) := by decide +kernel
theorem dX2_invert_20 : decode cX2_invert 20 = .ok (.aload_n 0, 1) := by decide +kernel
theorem dX2_invert_21 : decode cX2_invert 21 = .ok (.getfield 14, 3) := by decide +kernel
theorem dX2_invert_24 : decode cX2_invert 24 = .ok (.iload_n 1, 1) := by decide +kernel
theorem dX2_invert_25 : decode cX2_invert 25 = .ok (.iaload, 1) := by decide +kernel
theorem dX2_invert_26 : decode cX2_invert 26 = .ok (.if_icmp .ge 43, 3) := by decide +kernel
theorem dX2_invert_29 : decode cX2_invert 29 = .ok (.iload_n 2, 1) := by decide +kernel
theorem dX2_invert_30 : decode cX2_invert 30 = .ok (.ifCond .eq 16, 3) := by decide +kernel
theorem dX2_invert_33 : decode cX2_invert 33 = .ok (.aload_n 0, 1) := by decide +kernel
theorem dX2_invert_34 : decode cX2_invert 34 = .ok (.getfield 18, 3) := by decide +kernel
theorem dX2_invert_37 : decode cX2_invert 37 = .ok (.iload_n 3, 1) := by decide +kernel
theorem dX2_invert_38 : decode cX2_invert 38 = .ok (.iaload, 1) := by decide +kernel
theorem dX2_invert_39 : decode cX2_invert 39 = .ok (.ifCond .eq 7, 3) := by decide +kernel
theorem dX2_invert_42 : decode cX2_invert 42 = .ok (.iconst 1, 1) := by decide +kernel
theorem dX2_invert_43 : decode cX2_invert 43 = .ok (.goto 4, 3) := by decide +kernel
theorem dX2_invert_46 : decode cX2_invert 46 = .ok (.iconst 0, 1) := by decide +kernel
theorem dX2_invert_47 : decode cX2_invert 47 = .ok (.istore_n 2, 1) := by decide +kernel
theorem dX2_invert_48 : decode cX2_invert 48 = .ok (.aload_n 0, 1) := by decide +kernel
theorem dX2_invert_49 : decode cX2_invert 49 = .ok (.getfield 21, 3) := by decide +kernel
theorem dX2_invert_52 : decode cX2_invert 52 = .ok (.iload_n 3, 1) := by decide +kernel
theorem dX2_invert_53 : decode cX2_invert 53 = .ok (.aload_n 0, 1) := by decide +kernel
theorem dX2_invert_54 : decode cX2_invert 54 = .ok (.getfield 18, 3) := by decide +kernel
theorem dX2_invert_57 : decode cX2_invert 57 = .ok (.iload_n 3, 1) := by decide +kernel
theorem dX2_invert_58 : decode cX2_invert 58 = .ok (.iaload, 1) := by decide +kernel
theorem dX2_invert_59 : decode cX2_invert 59 = .ok (.invokestatic 109, 3) := by decide +kernel
theorem dX2_invert_62 : decode cX2_invert 62 = .ok (.iastore, 1) := by decide +kernel
theorem dX2_invert_63 : decode cX2_invert 63 = .ok (.iinc 3 1, 3) := by decide +kernel
theorem dX2_invert_66 : decode cX2_invert 66 = .ok (.goto (-47), 3) := by decide +kernel
theorem dX2_invert_69 : decode cX2_invert 69 = .ok (.aload_n 0, 1) := by decide +kernel
theorem dX2_invert_70 : decode cX2_invert 70 = .ok (.iload_n 2, 1) := by decide +kernel
theorem dX2_invert_71 : decode cX2_invert 71 = .ok (.iconst 2, 1) := by decide +kernel
theorem dX2_invert_72 : decode cX2_invert 72 = .ok (.invokevirtual 35, 3) := by decide +kernel
theorem dX2_invert_75 : decode cX2_invert 75 = .ok (.ifCond .eq 5, 3) := by decide +kernel
theorem dX2_invert_78 : decode cX2_invert 78 = .ok (.iconst 0, 1) := by decide +kernel
theorem dX2_invert_79 : decode cX2_invert 79 = .ok (.ireturn, 1) := by decide +kernel
theorem dX2_invert_80 : decode cX2_invert 80 = .ok (.aload_n 0, 1) := by decide +kernel
theorem dX2_invert_81 : decode cX2_invert 81 = .ok (.aload_n 0, 1) := by decide +kernel
theorem dX2_invert_82 : decode cX2_invert 82 = .ok (.getfield 21, 3) := by decide +kernel
theorem dX2_invert_85 : decode cX2_invert 85 = .ok (.aload_n 0, 1) := by decide +kernel
theorem dX2_invert_86 : decode cX2_invert 86 = .ok (.getfield 14, 3) := by decide +kernel
theorem dX2_invert_89 : decode cX2_invert 89 = .ok (.iload_n 1, 1) := by decide +kernel
theorem dX2_invert_90 : decode cX2_invert 90 = .ok (.iaload, 1) := by decide +kernel
theorem dX2_invert_91 : decode cX2_invert 91 = .ok (.invokevirtual 98, 3) := by decide +kernel
theorem dX2_invert_94 : decode cX2_invert 94 = .ok (.aload_n 0, 1) := by decide +kernel
theorem dX2_invert_95 : decode cX2_invert 95 = .ok (.iload_n 1, 1) := by decide +kernel
theorem dX2_invert_96 : decode cX2_invert 96 = .ok (.invokevirtual 63, 3) := by decide +kernel
theorem dX2_invert_99 : decode cX2_invert 99 = .ok (.pop, 1) := by decide +kernel
theorem dX2_invert_100 : decode cX2_invert 100 = .ok (.aload_n 0, 1) := by decide +kernel
theorem dX2_invert_101 : decode cX2_invert 101 = .ok (.getfield 11, 3) := by decide +kernel
theorem dX2_invert_104 : decode cX2_invert 104 = .ok (.iload_n 1, 1) := by decide +kernel
theorem dX2_invert_105 : decode cX2_invert 105 = .ok (.aaload, 1) := by decide +kernel
theorem dX2_invert_106 : decode cX2_invert 106 = .ok (.iconst 0, 1) := by decide +kernel
theorem dX2_invert_107 : decode cX2_invert 107 = .ok (.iaload, 1) := by decide +kernel
theorem dX2_invert_108 : decode cX2_invert 108 = .ok (.ireturn, 1) := by decide +kernel
theorem dX2_product__0 : decode cX2_product_ 0 = .ok (.iload_n 1, 1) := by decide +kernel
theorem dX2_product__1 : decode cX2_product_ 1 = .ok (.i2l, 1) := by decide +kernel
theorem dX2_product__2 : decode cX2_product_ 2 = .ok (.ldc2_w 112, 3) := by decide +kernel
theorem dX2_product__5 : decode cX2_product_ 5 = .ok (.land, 1) := by decide +kernel
theorem dX2_product__6 : decode cX2_product_ 6 = .ok (.iload_n 2, 1) := by decide +kernel
theorem dX2_product__7 : decode cX2_product_ 7 = .ok (.i2l, 1) := by decide +kernel
theorem dX2_product__8 : decode cX2_product_ 8 = .ok (.ldc2_w 112, 3) := by decide +kernel
theorem dX2_product__11 : decode cX2_product_ 11 = .ok (.land, 1) := by decide +kernel
theorem dX2_product__12 : decode cX2_product_ 12 = .ok (.lmul, 1) := by decide +kernel
theorem dX2_product__13 : decode cX2_product_ 13 = .ok (.lreturn, 1) := by decide +kernel
set_option maxRecDepth 20000 in
theorem ggX2_digits_X2_lacks : GoodIn wsX2_digits wsX2_lacks := goodIn_r _ [7, 8, 9, 6, 10, 11, 12, 13, 14, 15, 20, 21, 22, 23, 24, 25] (by decide +kernel) (by decide +kernel)
set_option maxRecDepth 20000 in
theorem gX2_digits_X2_lacks : GoodIn wsX2_digits (wsV RX2 70 RX2 yX2_lacks wsX2_lacks) := goodIn_app (goodIn_of _ (by decide +kernel)) ggX2_digits_X2_lacks
set_option maxRecDepth 20000 in
theorem ggX2_digits_X2_zerosOf : GoodIn wsX2_digits wsX2_zerosOf := goodIn_r _ [19, 1, 2, 20, 21, 22, 23, 24, 25] (by decide +kernel) (by decide +kernel)
set_option maxRecDepth 20000 in
theorem gX2_digits_X2_zerosOf : GoodIn wsX2_digits (wsV RX2 67 RX2 yX2_zerosOf wsX2_zerosOf) := goodIn_app (goodIn_of _ (by decide +kernel)) ggX2_digits_X2_zerosOf
theorem dX2_digits_0 : decode cX2_digits 0 = .ok (.aload_n 0, 1) := by decide +kernel
theorem dX2_digits_1 : decode cX2_digits 1 = .ok (.iload_n 1, 1) := by decide +kernel
theorem dX2_digits_2 : decode cX2_digits 2 = .ok (.invokevirtual 70, 3) := by decide +kernel
theorem dX2_digits_5 : decode cX2_digits 5 = .ok (.ifCond .eq 5, 3) := by decide +kernel
theorem dX2_digits_8 : decode cX2_digits 8 = .ok (.iconst 0, 1) := by decide +kernel
theorem dX2_digits_9 : decode cX2_digits 9 = .ok (.ireturn, 1) := by decide +kernel
theorem dX2_digits_10 : decode cX2_digits 10 = .ok (.aload_n 0, 1) := by decide +kernel
theorem dX2_digits_11 : decode cX2_digits 11 = .ok (.getfield 14, 3) := by decide +kernel
theorem dX2_digits_14 : decode cX2_digits 14 = .ok (.iload_n 1, 1) := by decide +kernel
theorem dX2_digits_15 : decode cX2_digits 15 = .ok (.bipush 16, 2) := by decide +kernel
theorem dX2_digits_17 : decode cX2_digits 17 = .ok (.iastore, 1) := by decide +kernel
theorem dX2_digits_18 : decode cX2_digits 18 = .ok (.iconst 0, 1) := by decide +kernel
theorem dX2_digits_19 : decode cX2_digits 19 = .ok (.istore_n 3, 1) := by decide +kernel
theorem dX2_digits_20 : decode cX2_digits 20 = .ok (.iload_n 3, 1) := by decide +kernel
theorem dX2_digits_21 : decode cX2_digits 21 = .ok (.bipush 16, 2) := by decide +kernel
theorem dX2_digits_23 : decode cX2_digits 23 = .ok (.if_icmp .ge 35, 3) := by decide +kernel
theorem dX2_digits_26 : decode cX2_digits 26 = .ok (.aload_n 0, 1) := by decide +kernel
theorem dX2_digits_27 : decode cX2_digits 27 = .ok (.getfield 11, 3) := by decide +kernel
theorem dX2_digits_30 : decode cX2_digits 30 = .ok (.iload_n 1, 1) := by decide +kernel
theorem dX2_digits_31 : decode cX2_digits 31 = .ok (.aaload, 1) := by decide +kernel
theorem dX2_digits_32 : decode cX2_digits 32 = .ok (.iload_n 3, 1) := by decide +kernel
theorem dX2_digits_33 : decode cX2_digits 33 = .ok (.iload_n 3, 1) := by decide +kernel
theorem dX2_digits_34 : decode cX2_digits 34 = .ok (.bipush 8, 2) := by decide +kernel
theorem dX2_digits_36 : decode cX2_digits 36 = .ok (.if_icmp .ge 14, 3) := by decide +kernel
theorem dX2_digits_39 : decode cX2_digits 39 = .ok (.iload_n 2, 1) := by decide +kernel
theorem dX2_digits_40 : decode cX2_digits 40 = .ok (.iconst 4, 1) := by decide +kernel
theorem dX2_digits_41 : decode cX2_digits 41 = .ok (.iload_n 3, 1) := by decide +kernel
theorem dX2_digits_42 : decode cX2_digits 42 = .ok (.imul, 1) := by decide +kernel
theorem dX2_digits_43 : decode cX2_digits 43 = .ok (.ishr, 1) := by decide +kernel
theorem dX2_digits_44 : decode cX2_digits 44 = .ok (.bipush 15, 2) := by decide +kernel
theorem dX2_digits_46 : decode cX2_digits 46 = .ok (.iand, 1) := by decide +kernel
theorem dX2_digits_47 : decode cX2_digits 47 = .ok (.goto 4, 3) := by decide +kernel
theorem dX2_digits_50 : decode cX2_digits 50 = .ok (.iconst 0, 1) := by decide +kernel
theorem dX2_digits_51 : decode cX2_digits 51 = .ok (.iastore, 1) := by decide +kernel
theorem dX2_digits_52 : decode cX2_digits 52 = .ok (.iinc 3 1, 3) := by decide +kernel
theorem dX2_digits_55 : decode cX2_digits 55 = .ok (.goto (-35), 3) := by decide +kernel
theorem dX2_digits_58 : decode cX2_digits 58 = .ok (.bipush 16, 2) := by decide +kernel
theorem dX2_digits_60 : decode cX2_digits 60 = .ok (.aload_n 0, 1) := by decide +kernel
theorem dX2_digits_61 : decode cX2_digits 61 = .ok (.iload_n 1, 1) := by decide +kernel
theorem dX2_digits_62 : decode cX2_digits 62 = .ok (.invokevirtual 67, 3) := by decide +kernel
theorem dX2_digits_65 : decode cX2_digits 65 = .ok (.isub, 1) := by decide +kernel
theorem dX2_digits_66 : decode cX2_digits 66 = .ok (.ireturn, 1) := by decide +kernel
set_option maxRecDepth 20000 in
theorem ggX2_told_X2_lacks : GoodIn wsX2_told wsX2_lacks := goodIn_r _ [7, 8, 9, 6, 10, 11, 12, 13, 14, 15, 16, 17, 18, 19, 20, 21] (by decide +kernel) (by decide +kernel)
set_option maxRecDepth 20000 in
theorem gX2_told_X2_lacks : GoodIn wsX2_told (wsV RX2 70 RX2 yX2_lacks wsX2_lacks) := goodIn_app (goodIn_of _ (by decide +kernel)) ggX2_told_X2_lacks
theorem dX2_told_0 : decode cX2_told 0 = .ok (.lconst 0, 1) := by decide +kernel
theorem dX2_told_1 : decode cX2_told 1 = .ok (.lstore_n 2, 1) := by decide +kernel
theorem dX2_told_2 : decode cX2_told 2 = .ok (.iconst 0, 1) := by decide +kernel
theorem dX2_told_3 : decode cX2_told 3 = .ok (.istore 4, 2) := by decide +kernel
theorem dX2_told_5 : decode cX2_told 5 = .ok (.aload_n 0, 1) := by decide +kernel
theorem dX2_told_6 : decode cX2_told 6 = .ok (.iload_n 1, 1) := by decide +kernel
theorem dX2_told_7 : decode cX2_told 7 = .ok (.invokevirtual 70, 3) := by decide +kernel
theorem dX2_told_10 : decode cX2_told 10 = .ok (.ifCond .ne 38, 3) := by decide +kernel
theorem dX2_told_13 : decode cX2_told 13 = .ok (.iload 4, 2) := by decide +kernel
theorem dX2_told_15 : decode cX2_told 15 = .ok (.aload_n 0, 1) := by decide +kernel
theorem dX2_told_16 : decode cX2_told 16 = .ok (.getfield 14, 3) := by decide +kernel
theorem dX2_told_19 : decode cX2_told 19 = .ok (.iload_n 1, 1) := by decide +kernel
theorem dX2_told_20 : decode cX2_told 20 = .ok (.iaload, 1) := by decide +kernel
theorem dX2_told_21 : decode cX2_told 21 = .ok (.if_icmp .ge 27, 3) := by decide +kernel
theorem dX2_told_24 : decode cX2_told 24 = .ok (.lload_n 2, 1) := by decide +kernel
theorem dX2_told_25 : decode cX2_told 25 = .ok (.aload_n 0, 1) := by decide +kernel
theorem dX2_told_26 : decode cX2_told 26 = .ok (.getfield 11, 3) := by decide +kernel
theorem dX2_told_29 : decode cX2_told 29 = .ok (.iload_n 1, 1) := by decide +kernel
theorem dX2_told_30 : decode cX2_told 30 = .ok (.aaload, 1) := by decide +kernel
theorem dX2_told_31 : decode cX2_told 31 = .ok (.iload 4, 2) := by decide +kernel
theorem dX2_told_33 : decode cX2_told 33 = .ok (.iaload, 1) := by decide +kernel
theorem dX2_told_34 : decode cX2_told 34 = .ok (.i2l, 1) := by decide +kernel
theorem dX2_told_35 : decode cX2_told 35 = .ok (.iconst 4, 1) := by decide +kernel
theorem dX2_told_36 : decode cX2_told 36 = .ok (.iload 4, 2) := by decide +kernel
theorem dX2_told_38 : decode cX2_told 38 = .ok (.imul, 1) := by decide +kernel
theorem dX2_told_39 : decode cX2_told 39 = .ok (.lshl, 1) := by decide +kernel
theorem dX2_told_40 : decode cX2_told 40 = .ok (.ladd, 1) := by decide +kernel
theorem dX2_told_41 : decode cX2_told 41 = .ok (.lstore_n 2, 1) := by decide +kernel
theorem dX2_told_42 : decode cX2_told 42 = .ok (.iinc 4 1, 3) := by decide +kernel
theorem dX2_told_45 : decode cX2_told 45 = .ok (.goto (-40), 3) := by decide +kernel
theorem dX2_told_48 : decode cX2_told 48 = .ok (.lload_n 2, 1) := by decide +kernel
theorem dX2_told_49 : decode cX2_told 49 = .ok (.lreturn, 1) := by decide +kernel
set_option maxRecDepth 20000 in
theorem ggX2_shift_X2_lacks : GoodIn wsX2_shift wsX2_lacks := goodIn_r _ [8, 9, 10, 7, 11, 12, 13, 14, 15, 16, 24, 25, 26, 27, 28, 29] (by decide +kernel) (by decide +kernel)
set_option maxRecDepth 20000 in
theorem gX2_shift_X2_lacks : GoodIn wsX2_shift (wsV RX2 70 RX2 yX2_lacks wsX2_lacks) := goodIn_app (goodIn_of _ (by decide +kernel)) ggX2_shift_X2_lacks
set_option maxRecDepth 20000 in
theorem ggX2_shift_X2_left : GoodIn wsX2_shift wsX2_left := goodIn_r _ [19] (by decide +kernel) (by decide +kernel)
set_option maxRecDepth 20000 in
theorem gX2_shift_X2_left : GoodIn wsX2_shift (va_wsS RX2 46 yX2_left wsX2_left) := goodIn_app (goodIn_of _ (by decide +kernel)) ggX2_shift_X2_left
set_option maxRecDepth 20000 in
theorem ggX2_shift_X2_put : GoodIn wsX2_shift wsX2_put := goodIn_r _ [23, 1, 3, 2, 24, 25, 26, 27, 28, 29] (by decide +kernel) (by decide +kernel)
set_option maxRecDepth 20000 in
theorem gX2_shift_X2_put : GoodIn wsX2_shift (wsV RX2 63 RX2 yX2_put wsX2_put) := goodIn_app (goodIn_of _ (by decide +kernel)) ggX2_shift_X2_put
theorem dX2_shift_0 : decode cX2_shift 0 = .ok (.aload_n 0, 1) := by decide +kernel
theorem dX2_shift_1 : decode cX2_shift 1 = .ok (.iload_n 1, 1) := by decide +kernel
theorem dX2_shift_2 : decode cX2_shift 2 = .ok (.invokevirtual 70, 3) := by decide +kernel
theorem dX2_shift_5 : decode cX2_shift 5 = .ok (.ifCond .eq 5, 3) := by decide +kernel
theorem dX2_shift_8 : decode cX2_shift 8 = .ok (.iconst 0, 1) := by decide +kernel
theorem dX2_shift_9 : decode cX2_shift 9 = .ok (.ireturn, 1) := by decide +kernel
theorem dX2_shift_10 : decode cX2_shift 10 = .ok (.aload_n 0, 1) := by decide +kernel
theorem dX2_shift_11 : decode cX2_shift 11 = .ok (.getfield 14, 3) := by decide +kernel
theorem dX2_shift_14 : decode cX2_shift 14 = .ok (.iload_n 1, 1) := by decide +kernel
theorem dX2_shift_15 : decode cX2_shift 15 = .ok (.iaload, 1) := by decide +kernel
theorem dX2_shift_16 : decode cX2_shift 16 = .ok (.istore_n 3, 1) := by decide +kernel
theorem dX2_shift_17 : decode cX2_shift 17 = .ok (.iconst 0, 1) := by decide +kernel
theorem dX2_shift_18 : decode cX2_shift 18 = .ok (.istore 4, 2) := by decide +kernel
theorem dX2_shift_20 : decode cX2_shift 20 = .ok (.iload 4, 2) := by decide +kernel
theorem dX2_shift_22 : decode cX2_shift 22 = .ok (.iload_n 3, 1) := by decide +kernel
theorem dX2_shift_23 : decode cX2_shift 23 = .ok (.if_icmp .ge 33, 3) := by decide +kernel
theorem dX2_shift_26 : decode cX2_shift 26 = .ok (.aload_n 0, 1) := by decide +kernel
theorem dX2_shift_27 : decode cX2_shift 27 = .ok (.getfield 18, 3) := by decide +kernel
theorem dX2_shift_30 : decode cX2_shift 30 = .ok (.iload 4, 2) := by decide +kernel
theorem dX2_shift_32 : decode cX2_shift 32 = .ok (.i2l, 1) := by decide +kernel
theorem dX2_shift_33 : decode cX2_shift 33 = .ok (.iload_n 2, 1) := by decide +kernel
theorem dX2_shift_34 : decode cX2_shift 34 = .ok (.i2l, 1) := by decide +kernel
theorem dX2_shift_35 : decode cX2_shift 35 = .ok (.ladd, 1) := by decide +kernel
theorem dX2_shift_36 : decode cX2_shift 36 = .ok (.iload_n 3, 1) := by decide +kernel
theorem dX2_shift_37 : decode cX2_shift 37 = .ok (.invokestatic 46, 3) := by decide +kernel
theorem dX2_shift_40 : decode cX2_shift 40 = .ok (.aload_n 0, 1) := by decide +kernel
theorem dX2_shift_41 : decode cX2_shift 41 = .ok (.getfield 11, 3) := by decide +kernel
theorem dX2_shift_44 : decode cX2_shift 44 = .ok (.iload_n 1, 1) := by decide +kernel
theorem dX2_shift_45 : decode cX2_shift 45 = .ok (.aaload, 1) := by decide +kernel
theorem dX2_shift_46 : decode cX2_shift 46 = .ok (.iload 4, 2) := by decide +kernel
theorem dX2_shift_48 : decode cX2_shift 48 = .ok (.iaload, 1) := by decide +kernel
theorem dX2_shift_49 : decode cX2_shift 49 = .ok (.iastore, 1) := by decide +kernel
theorem dX2_shift_50 : decode cX2_shift 50 = .ok (.iinc 4 1, 3) := by decide +kernel
theorem dX2_shift_53 : decode cX2_shift 53 = .ok (.goto (-33), 3) := by decide +kernel
theorem dX2_shift_56 : decode cX2_shift 56 = .ok (.aload_n 0, 1) := by decide +kernel
theorem dX2_shift_57 : decode cX2_shift 57 = .ok (.iload_n 1, 1) := by decide +kernel
theorem dX2_shift_58 : decode cX2_shift 58 = .ok (.invokevirtual 63, 3) := by decide +kernel
theorem dX2_shift_61 : decode cX2_shift 61 = .ok (.pop, 1) := by decide +kernel
theorem dX2_shift_62 : decode cX2_shift 62 = .ok (.aload_n 0, 1) := by decide +kernel
theorem dX2_shift_63 : decode cX2_shift 63 = .ok (.getfield 11, 3) := by decide +kernel
theorem dX2_shift_66 : decode cX2_shift 66 = .ok (.iload_n 1, 1) := by decide +kernel
theorem dX2_shift_67 : decode cX2_shift 67 = .ok (.aaload, 1) := by decide +kernel
theorem dX2_shift_68 : decode cX2_shift 68 = .ok (.iconst 0, 1) := by decide +kernel
theorem dX2_shift_69 : decode cX2_shift 69 = .ok (.iaload, 1) := by decide +kernel
theorem dX2_shift_70 : decode cX2_shift 70 = .ok (.ireturn, 1) := by decide +kernel
set_option maxRecDepth 20000 in
theorem ggX2_weigh_X2_lacks : GoodIn wsX2_weigh wsX2_lacks := goodIn_r _ [8, 9, 10, 7, 11, 12, 13, 14, 15, 16, 33, 34, 35, 36, 37, 38] (by decide +kernel) (by decide +kernel)
set_option maxRecDepth 20000 in
theorem gX2_weigh_X2_lacks : GoodIn wsX2_weigh (wsV RX2 70 RX2 yX2_lacks wsX2_lacks) := goodIn_app (goodIn_of _ (by decide +kernel)) ggX2_weigh_X2_lacks
set_option maxRecDepth 20000 in
theorem ggX2_weigh_X2_exponent : GoodIn wsX2_weigh wsX2_exponent := goodIn_r _ [20, 21, 22, 23, 7, 24, 33, 34, 35, 36, 37, 38] (by decide +kernel) (by decide +kernel)
set_option maxRecDepth 20000 in
theorem gX2_weigh_X2_exponent : GoodIn wsX2_weigh (wsV RX2 50 RX2 yX2_exponent wsX2_exponent) := goodIn_app (goodIn_of _ (by decide +kernel)) ggX2_weigh_X2_exponent
set_option maxRecDepth 20000 in
theorem ggX2_weigh_X2_doubled : GoodIn wsX2_weigh wsX2_doubled := goodIn_r _ [27, 28] (by decide +kernel) (by decide +kernel)
set_option maxRecDepth 20000 in
theorem gX2_weigh_X2_doubled : GoodIn wsX2_weigh (va_wsS RX2 54 yX2_doubled wsX2_doubled) := goodIn_app (goodIn_of _ (by decide +kernel)) ggX2_weigh_X2_doubled
set_option maxRecDepth 20000 in
theorem ggX2_weigh_X2_put : GoodIn wsX2_weigh wsX2_put := goodIn_r _ [32, 1, 3, 2, 33, 34, 35, 36, 37, 38] (by decide +kernel) (by decide +kernel)
set_option maxRecDepth 20000 in
theorem gX2_weigh_X2_put : GoodIn wsX2_weigh (wsV RX2 63 RX2 yX2_put wsX2_put) := goodIn_app (goodIn_of _ (by decide +kernel)) ggX2_weigh_X2_put
theorem dX2_weigh_0 : decode cX2_weigh 0 = .ok (.aload_n 0, 1) := by decide +kernel
theorem dX2_weigh_1 : decode cX2_weigh 1 = .ok (.iload_n 1, 1) := by decide +kernel
theorem dX2_weigh_2 : decode cX2_weigh 2 = .ok (.invokevirtual 70, 3) := by decide +kernel
theorem dX2_weigh_5 : decode cX2_weigh 5 = .ok (.ifCond .eq 5, 3) := by decide +kernel
theorem dX2_weigh_8 : decode cX2_weigh 8 = .ok (.iconst 0, 1) := by decide +kernel
theorem dX2_weigh_9 : decode cX2_weigh 9 = .ok (.ireturn, 1) := by decide +kernel
theorem dX2_weigh_10 : decode cX2_weigh 10 = .ok (.aload_n 0, 1) := by decide +kernel
theorem dX2_weigh_11 : decode cX2_weigh 11 = .ok (.getfield 14, 3) := by decide +kernel
theorem dX2_weigh_14 : decode cX2_weigh 14 = .ok (.iload_n 1, 1) := by decide +kernel
theorem dX2_weigh_15 : decode cX2_weigh 15 = .ok (.iaload, 1) := by decide +kernel
theorem dX2_weigh_16 : decode cX2_weigh 16 = .ok (.istore_n 3, 1) := by decide +kernel
theorem dX2_weigh_17 : decode cX2_weigh 17 = .ok (.iconst 0, 1) := by decide +kernel
theorem dX2_weigh_18 : decode cX2_weigh 18 = .ok (.istore 4, 2) := by decide +kernel
theorem dX2_weigh_20 : decode cX2_weigh 20 = .ok (.iload 4, 2) := by decide +kernel
theorem dX2_weigh_22 : decode cX2_weigh 22 = .ok (.iload_n 3, 1) := by decide +kernel
theorem dX2_weigh_23 : decode cX2_weigh 23 = .ok (.if_icmp .ge 39, 3) := by decide +kernel
theorem dX2_weigh_26 : decode cX2_weigh 26 = .ok (.aload_n 0, 1) := by decide +kernel
theorem dX2_weigh_27 : decode cX2_weigh 27 = .ok (.getfield 18, 3) := by decide +kernel
theorem dX2_weigh_30 : decode cX2_weigh 30 = .ok (.iload 4, 2) := by decide +kernel
theorem dX2_weigh_32 : decode cX2_weigh 32 = .ok (.aload_n 0, 1) := by decide +kernel
theorem dX2_weigh_33 : decode cX2_weigh 33 = .ok (.getfield 11, 3) := by decide +kernel
theorem dX2_weigh_36 : decode cX2_weigh 36 = .ok (.iload_n 1, 1) := by decide +kernel
theorem dX2_weigh_37 : decode cX2_weigh 37 = .ok (.aaload, 1) := by decide +kernel
theorem dX2_weigh_38 : decode cX2_weigh 38 = .ok (.iload 4, 2) := by decide +kernel
theorem dX2_weigh_40 : decode cX2_weigh 40 = .ok (.iaload, 1) := by decide +kernel
theorem dX2_weigh_41 : decode cX2_weigh 41 = .ok (.aload_n 0, 1) := by decide +kernel
theorem dX2_weigh_42 : decode cX2_weigh 42 = .ok (.iload_n 3, 1) := by decide +kernel
theorem dX2_weigh_43 : decode cX2_weigh 43 = .ok (.iload_n 2, 1) := by decide +kernel
theorem dX2_weigh_44 : decode cX2_weigh 44 = .ok (.i2l, 1) := by decide +kernel
theorem dX2_weigh_45 : decode cX2_weigh 45 = .ok (.iload 4, 2) := by decide +kernel
theorem dX2_weigh_47 : decode cX2_weigh 47 = .ok (.i2l, 1) := by decide +kernel
theorem dX2_weigh_48 : decode cX2_weigh 48 = .ok (.lmul, 1) := by decide +kernel
theorem dX2_weigh_49 : decode cX2_weigh 49 = .ok (.invokevirtual 50, 3) := by decide +kernel
theorem dX2_weigh_52 : decode cX2_weigh 52 = .ok (.invokestatic 54, 3) := by decide +kernel
theorem dX2_weigh_55 : decode cX2_weigh 55 = .ok (.iastore, 1) := by decide +kernel
theorem dX2_weigh_56 : decode cX2_weigh 56 = .ok (.iinc 4 1, 3) := by decide +kernel
theorem dX2_weigh_59 : decode cX2_weigh 59 = .ok (.goto (-39), 3) := by decide +kernel
theorem dX2_weigh_62 : decode cX2_weigh 62 = .ok (.aload_n 0, 1) := by decide +kernel
theorem dX2_weigh_63 : decode cX2_weigh 63 = .ok (.iload_n 1, 1) := by decide +kernel
theorem dX2_weigh_64 : decode cX2_weigh 64 = .ok (.invokevirtual 63, 3) := by decide +kernel
theorem dX2_weigh_67 : decode cX2_weigh 67 = .ok (.pop, 1) := by decide +kernel
theorem dX2_weigh_68 : decode cX2_weigh 68 = .ok (.aload_n 0, 1) := by decide +kernel
theorem dX2_weigh_69 : decode cX2_weigh 69 = .ok (.getfield 11, 3) := by decide +kernel
theorem dX2_weigh_72 : decode cX2_weigh 72 = .ok (.iload_n 1, 1) := by decide +kernel
theorem dX2_weigh_73 : decode cX2_weigh 73 = .ok (.aaload, 1) := by decide +kernel
theorem dX2_weigh_74 : decode cX2_weigh 74 = .ok (.iconst 1, 1) := by decide +kernel
theorem dX2_weigh_75 : decode cX2_weigh 75 = .ok (.iaload, 1) := by decide +kernel
theorem dX2_weigh_76 : decode cX2_weigh 76 = .ok (.ireturn, 1) := by decide +kernel
set_option maxRecDepth 20000 in
theorem ggX2_turned_X2_left : GoodIn wsX2_turned wsX2_left := goodIn_r _ [7] (by decide +kernel) (by decide +kernel)
set_option maxRecDepth 20000 in
theorem gX2_turned_X2_left : GoodIn wsX2_turned (va_wsS RX2 46 yX2_left wsX2_left) := goodIn_app (goodIn_of _ (by decide +kernel)) ggX2_turned_X2_left
theorem dX2_turned_0 : decode cX2_turned 0 = .ok (.aload_n 0, 1) := by decide +kernel
theorem dX2_turned_1 : decode cX2_turned 1 = .ok (.getfield 14, 3) := by decide +kernel
theorem dX2_turned_4 : decode cX2_turned 4 = .ok (.iload_n 1, 1) := by decide +kernel
theorem dX2_turned_5 : decode cX2_turned 5 = .ok (.iaload, 1) := by decide +kernel
theorem dX2_turned_6 : decode cX2_turned 6 = .ok (.istore_n 2, 1) := by decide +kernel
theorem dX2_turned_7 : decode cX2_turned 7 = .ok (.iconst 0, 1) := by decide +kernel
theorem dX2_turned_8 : decode cX2_turned 8 = .ok (.istore_n 3, 1) := by decide +kernel
theorem dX2_turned_9 : decode cX2_turned 9 = .ok (.iload_n 3, 1) := by decide +kernel
theorem dX2_turned_10 : decode cX2_turned 10 = .ok (.iload_n 2, 1) := by decide +kernel
theorem dX2_turned_11 : decode cX2_turned 11 = .ok (.if_icmp .ge 29, 3) := by decide +kernel
theorem dX2_turned_14 : decode cX2_turned 14 = .ok (.aload_n 0, 1) := by decide +kernel
theorem dX2_turned_15 : decode cX2_turned 15 = .ok (.getfield 18, 3) := by decide +kernel
theorem dX2_turned_18 : decode cX2_turned 18 = .ok (.iload_n 3, 1) := by decide +kernel
theorem dX2_turned_19 : decode cX2_turned 19 = .ok (.aload_n 0, 1) := by decide +kernel
theorem dX2_turned_20 : decode cX2_turned 20 = .ok (.getfield 11, 3) := by decide +kernel
theorem dX2_turned_23 : decode cX2_turned 23 = .ok (.iload_n 1, 1) := by decide +kernel
theorem dX2_turned_24 : decode cX2_turned 24 = .ok (.aaload, 1) := by decide +kernel
theorem dX2_turned_25 : decode cX2_turned 25 = .ok (.iload_n 3, 1) := by decide +kernel
theorem dX2_turned_26 : decode cX2_turned 26 = .ok (.ineg, 1) := by decide +kernel
theorem dX2_turned_27 : decode cX2_turned 27 = .ok (.i2l, 1) := by decide +kernel
theorem dX2_turned_28 : decode cX2_turned 28 = .ok (.iload_n 2, 1) := by decide +kernel
theorem dX2_turned_29 : decode cX2_turned 29 = .ok (.invokestatic 46, 3) := by decide +kernel
theorem dX2_turned_32 : decode cX2_turned 32 = .ok (.iaload, 1) := by decide +kernel
theorem dX2_turned_33 : decode cX2_turned 33 = .ok (.iastore, 1) := by decide +kernel
theorem dX2_turned_34 : decode cX2_turned 34 = .ok (.iinc 3 1, 3) := by decide +kernel
theorem dX2_turned_37 : decode cX2_turned 37 = .ok (.goto (-28), 3) := by decide +kernel
theorem dX2_turned_40 : decode cX2_turned 40 = .ok (.return_, 1) := by decide +kernel
set_option maxRecDepth 20000 in
theorem ggX2_turnRound_X2_lacks : GoodIn wsX2_turnRound wsX2_lacks := goodIn_r _ [5, 6, 7, 4, 8, 9, 10, 11, 12, 13, 28, 29, 30, 31, 32, 33] (by decide +kernel) (by decide +kernel)
set_option maxRecDepth 20000 in
theorem gX2_turnRound_X2_lacks : GoodIn wsX2_turnRound (wsV RX2 70 RX2 yX2_lacks wsX2_lacks) := goodIn_app (goodIn_of _ (by decide +kernel)) ggX2_turnRound_X2_lacks
set_option maxRecDepth 20000 in
theorem ggX2_turnRound_X2_turned : GoodIn wsX2_turnRound wsX2_turned := goodIn_r _ [17, 18, 19, 20, 21, 22, 4, 23, 28, 29, 30, 31, 32, 33] (by decide +kernel) (by decide +kernel)
set_option maxRecDepth 20000 in
theorem gX2_turnRound_X2_turned : GoodIn wsX2_turnRound (wsV RX2 114 RX2 yX2_turned wsX2_turned) := goodIn_app (goodIn_of _ (by decide +kernel)) ggX2_turnRound_X2_turned
set_option maxRecDepth 20000 in
theorem ggX2_turnRound_X2_put : GoodIn wsX2_turnRound wsX2_put := goodIn_r _ [27, 18, 20, 19, 28, 29, 30, 31, 32, 33] (by decide +kernel) (by decide +kernel)
set_option maxRecDepth 20000 in
theorem gX2_turnRound_X2_put : GoodIn wsX2_turnRound (wsV RX2 63 RX2 yX2_put wsX2_put) := goodIn_app (goodIn_of _ (by decide +kernel)) ggX2_turnRound_X2_put
theorem dX2_turnRound_0 : decode cX2_turnRound 0 = .ok (.aload_n 0, 1) := by decide +kernel
theorem dX2_turnRound_1 : decode cX2_turnRound 1 = .ok (.iload_n 1, 1) := by decide +kernel
theorem dX2_turnRound_2 : decode cX2_turnRound 2 = .ok (.invokevirtual 70, 3) := by decide +kernel
theorem dX2_turnRound_5 : decode cX2_turnRound 5 = .ok (.ifCond .eq 5, 3) := by decide +kernel
theorem dX2_turnRound_8 : decode cX2_turnRound 8 = .ok (.iconst 0, 1) := by decide +kernel
theorem dX2_turnRound_9 : decode cX2_turnRound 9 = .ok (.ireturn, 1) := by decide +kernel
theorem dX2_turnRound_10 : decode cX2_turnRound 10 = .ok (.aload_n 0, 1) := by decide +kernel
theorem dX2_turnRound_11 : decode cX2_turnRound 11 = .ok (.iload_n 1, 1) := by decide +kernel
theorem dX2_turnRound_12 : decode cX2_turnRound 12 = .ok (.invokevirtual 114, 3) := by decide +kernel
theorem dX2_turnRound_15 : decode cX2_turnRound 15 = .ok (.aload_n 0, 1) := by decide +kernel
theorem dX2_turnRound_16 : decode cX2_turnRound 16 = .ok (.iload_n 1, 1) := by decide +kernel
theorem dX2_turnRound_17 : decode cX2_turnRound 17 = .ok (.invokevirtual 63, 3) := by decide +kernel
theorem dX2_turnRound_20 : decode cX2_turnRound 20 = .ok (.ifCond .le 7, 3) := by decide +kernel
theorem dX2_turnRound_23 : decode cX2_turnRound 23 = .ok (.iconst 1, 1) := by decide +kernel
theorem dX2_turnRound_24 : decode cX2_turnRound 24 = .ok (.goto 4, 3) := by decide +kernel
theorem dX2_turnRound_27 : decode cX2_turnRound 27 = .ok (.iconst 0, 1) := by decide +kernel
theorem dX2_turnRound_28 : decode cX2_turnRound 28 = .ok (.ireturn, 1) := by decide +kernel
set_option maxRecDepth 20000 in
theorem ggX2_combine_X2_lacksTwo : GoodIn wsX2_combine wsX2_lacksTwo := goodIn_r _ [9, 10, 11, 8, 12, 13, 14, 15, 16, 17, 34, 35, 36, 37, 38, 39] (by decide +kernel) (by decide +kernel)
set_option maxRecDepth 20000 in
theorem gX2_combine_X2_lacksTwo : GoodIn wsX2_combine (wsV RX2 82 RX2 yX2_lacksTwo wsX2_lacksTwo) := goodIn_app (goodIn_of _ (by decide +kernel)) ggX2_combine_X2_lacksTwo
set_option maxRecDepth 20000 in
theorem ggX2_combine_X2_no : GoodIn wsX2_combine wsX2_no := goodIn_r _ [16, 17, 34, 35, 36, 37, 38, 39] (by decide +kernel) (by decide +kernel)
set_option maxRecDepth 20000 in
theorem gX2_combine_X2_no : GoodIn wsX2_combine (wsV RX2 35 RX2 yX2_no wsX2_no) := goodIn_app (goodIn_of _ (by decide +kernel)) ggX2_combine_X2_no
set_option maxRecDepth 20000 in
theorem ggX2_combine_X2_product : GoodIn wsX2_combine wsX2_product := goodIn_r _ [20, 21] (by decide +kernel) (by decide +kernel)
set_option maxRecDepth 20000 in
theorem gX2_combine_X2_product : GoodIn wsX2_combine (va_wsS RX2 42 yX2_product wsX2_product) := goodIn_app (goodIn_of _ (by decide +kernel)) ggX2_combine_X2_product
set_option maxRecDepth 20000 in
theorem ggX2_combine_X2_putZeros : GoodIn wsX2_combine wsX2_putZeros := goodIn_r _ [25, 26, 27, 28, 8, 29, 1, 2, 3, 30, 31, 32, 33, 34, 35, 36, 37, 38, 39] (by decide +kernel) (by decide +kernel)
set_option maxRecDepth 20000 in
theorem gX2_combine_X2_putZeros : GoodIn wsX2_combine (wsV RX2 95 RX2 yX2_putZeros wsX2_putZeros) := goodIn_app (goodIn_of _ (by decide +kernel)) ggX2_combine_X2_putZeros
theorem dX2_combine_0 : decode cX2_combine 0 = .ok (.aload_n 0, 1) := by decide +kernel
theorem dX2_combine_1 : decode cX2_combine 1 = .ok (.iload_n 1, 1) := by decide +kernel
theorem dX2_combine_2 : decode cX2_combine 2 = .ok (.iload_n 2, 1) := by decide +kernel
theorem dX2_combine_3 : decode cX2_combine 3 = .ok (.invokevirtual 82, 3) := by decide +kernel
theorem dX2_combine_6 : decode cX2_combine 6 = .ok (.ifCond .ne 62, 3) := by decide +kernel
theorem dX2_combine_9 : decode cX2_combine 9 = .ok (.aload_n 0, 1) := by decide +kernel
theorem dX2_combine_10 : decode cX2_combine 10 = .ok (.iload_n 3, 1) := by decide +kernel
theorem dX2_combine_11 : decode cX2_combine 11 = .ok (.bipush 43, 2) := by decide +kernel
theorem dX2_combine_13 : decode cX2_combine 13 = .ok (.if_icmp .eq 15, 3) := by decide +kernel
theorem dX2_combine_16 : decode cX2_combine 16 = .ok (.iload_n 3, 1) := by decide +kernel
theorem dX2_combine_17 : decode cX2_combine 17 = .ok (.bipush 45, 2) := by decide +kernel
theorem dX2_combine_19 : decode cX2_combine 19 = .ok (.if_icmp .eq 9, 3) := by decide +kernel
theorem dX2_combine_22 : decode cX2_combine 22 = .ok (.iload_n 3, 1) := by decide +kernel
theorem dX2_combine_23 : decode cX2_combine 23 = .ok (.bipush 42, 2) := by decide +kernel
theorem dX2_combine_25 : decode cX2_combine 25 = .ok (.if_icmp .ne 7, 3) := by decide +kernel
theorem dX2_combine_28 : decode cX2_combine 28 = .ok (.iconst 1, 1) := by decide +kernel
theorem dX2_combine_29 : decode cX2_combine 29 = .ok (.goto 4, 3) := by decide +kernel
theorem dX2_combine_32 : decode cX2_combine 32 = .ok (.iconst 0, 1) := by decide +kernel
theorem dX2_combine_33 : decode cX2_combine 33 = .ok (.iconst 2, 1) := by decide +kernel
theorem dX2_combine_34 : decode cX2_combine 34 = .ok (.invokevirtual 35, 3) := by decide +kernel
theorem dX2_combine_37 : decode cX2_combine 37 = .ok (.ifCond .ne 31, 3) := by decide +kernel
theorem dX2_combine_40 : decode cX2_combine 40 = .ok (.aload_n 0, 1) := by decide +kernel
theorem dX2_combine_41 : decode cX2_combine 41 = .ok (.aload_n 0, 1) := by decide +kernel
theorem dX2_combine_42 : decode cX2_combine 42 = .ok (.getfield 14, 3) := by decide +kernel
theorem dX2_combine_45 : decode cX2_combine 45 = .ok (.iload_n 1, 1) := by decide +kernel
theorem dX2_combine_46 : decode cX2_combine 46 = .ok (.iaload, 1) := by decide +kernel
theorem dX2_combine_47 : decode cX2_combine 47 = .ok (.aload_n 0, 1) := by decide +kernel
theorem dX2_combine_48 : decode cX2_combine 48 = .ok (.getfield 14, 3) := by decide +kernel
theorem dX2_combine_51 : decode cX2_combine 51 = .ok (.iload_n 2, 1) := by decide +kernel
theorem dX2_combine_52 : decode cX2_combine 52 = .ok (.iaload, 1) := by decide +kernel
theorem dX2_combine_53 : decode cX2_combine 53 = .ok (.if_icmp .ne 7, 3) := by decide +kernel
theorem dX2_combine_56 : decode cX2_combine 56 = .ok (.iconst 1, 1) := by decide +kernel
theorem dX2_combine_57 : decode cX2_combine 57 = .ok (.goto 4, 3) := by decide +kernel
theorem dX2_combine_60 : decode cX2_combine 60 = .ok (.iconst 0, 1) := by decide +kernel
theorem dX2_combine_61 : decode cX2_combine 61 = .ok (.iconst 3, 1) := by decide +kernel
theorem dX2_combine_62 : decode cX2_combine 62 = .ok (.invokevirtual 35, 3) := by decide +kernel
theorem dX2_combine_65 : decode cX2_combine 65 = .ok (.ifCond .eq 5, 3) := by decide +kernel
theorem dX2_combine_68 : decode cX2_combine 68 = .ok (.iconst 0, 1) := by decide +kernel
theorem dX2_combine_69 : decode cX2_combine 69 = .ok (.ireturn, 1) := by decide +kernel
theorem dX2_combine_70 : decode cX2_combine 70 = .ok (.iconst 0, 1) := by decide +kernel
theorem dX2_combine_71 : decode cX2_combine 71 = .ok (.istore 4, 2) := by decide +kernel
theorem dX2_combine_73 : decode cX2_combine 73 = .ok (.iload 4, 2) := by decide +kernel
theorem dX2_combine_75 : decode cX2_combine 75 = .ok (.aload_n 0, 1) := by decide +kernel
theorem dX2_combine_76 : decode cX2_combine 76 = .ok (.getfield 14, 3) := by decide +kernel
theorem dX2_combine_79 : decode cX2_combine 79 = .ok (.iload_n 1, 1) := by decide +kernel
theorem dX2_combine_80 : decode cX2_combine 80 = .ok (.iaload, 1) := by decide +kernel
theorem dX2_combine_81 : decode cX2_combine 81 = .ok (.if_icmp .ge 85, 3) := by decide +kernel
theorem dX2_combine_84 : decode cX2_combine 84 = .ok (.aload_n 0, 1) := by decide +kernel
theorem dX2_combine_85 : decode cX2_combine 85 = .ok (.getfield 11, 3) := by decide +kernel
theorem dX2_combine_88 : decode cX2_combine 88 = .ok (.iload_n 1, 1) := by decide +kernel
theorem dX2_combine_89 : decode cX2_combine 89 = .ok (.aaload, 1) := by decide +kernel
theorem dX2_combine_90 : decode cX2_combine 90 = .ok (.iload 4, 2) := by decide +kernel
theorem dX2_combine_92 : decode cX2_combine 92 = .ok (.iaload, 1) := by decide +kernel
theorem dX2_combine_93 : decode cX2_combine 93 = .ok (.istore 5, 2) := by decide +kernel
theorem dX2_combine_95 : decode cX2_combine 95 = .ok (.aload_n 0, 1) := by decide +kernel
theorem dX2_combine_96 : decode cX2_combine 96 = .ok (.getfield 11, 3) := by decide +kernel
theorem dX2_combine_99 : decode cX2_combine 99 = .ok (.iload_n 2, 1) := by decide +kernel
theorem dX2_combine_100 : decode cX2_combine 100 = .ok (.aaload, 1) := by decide +kernel
theorem dX2_combine_101 : decode cX2_combine 101 = .ok (.iload 4, 2) := by decide +kernel
theorem dX2_combine_103 : decode cX2_combine 103 = .ok (.iaload, 1) := by decide +kernel
theorem dX2_combine_104 : decode cX2_combine 104 = .ok (.istore 6, 2) := by decide +kernel
theorem dX2_combine_106 : decode cX2_combine 106 = .ok (.aload_n 0, 1) := by decide +kernel
theorem dX2_combine_107 : decode cX2_combine 107 = .ok (.getfield 18, 3) := by decide +kernel
theorem dX2_combine_110 : decode cX2_combine 110 = .ok (.iload 4, 2) := by decide +kernel
theorem dX2_combine_112 : decode cX2_combine 112 = .ok (.iload_n 3, 1) := by decide +kernel
theorem dX2_combine_113 : decode cX2_combine 113 = .ok (.bipush 43, 2) := by decide +kernel
theorem dX2_combine_115 : decode cX2_combine 115 = .ok (.if_icmp .ne 14, 3) := by decide +kernel
theorem dX2_combine_118 : decode cX2_combine 118 = .ok (.iload 5, 2) := by decide +kernel
theorem dX2_combine_120 : decode cX2_combine 120 = .ok (.iload 6, 2) := by decide +kernel
theorem dX2_combine_122 : decode cX2_combine 122 = .ok (.iadd, 1) := by decide +kernel
theorem dX2_combine_123 : decode cX2_combine 123 = .ok (.ldc 58, 2) := by decide +kernel
theorem dX2_combine_125 : decode cX2_combine 125 = .ok (.irem, 1) := by decide +kernel
theorem dX2_combine_126 : decode cX2_combine 126 = .ok (.goto 33, 3) := by decide +kernel
theorem dX2_combine_129 : decode cX2_combine 129 = .ok (.iload_n 3, 1) := by decide +kernel
theorem dX2_combine_130 : decode cX2_combine 130 = .ok (.bipush 45, 2) := by decide +kernel
theorem dX2_combine_132 : decode cX2_combine 132 = .ok (.if_icmp .ne 17, 3) := by decide +kernel
theorem dX2_combine_135 : decode cX2_combine 135 = .ok (.iload 5, 2) := by decide +kernel
theorem dX2_combine_137 : decode cX2_combine 137 = .ok (.iload 6, 2) := by decide +kernel
theorem dX2_combine_139 : decode cX2_combine 139 = .ok (.isub, 1) := by decide +kernel
theorem dX2_combine_140 : decode cX2_combine 140 = .ok (.ldc 58, 2) := by decide +kernel
theorem dX2_combine_142 : decode cX2_combine 142 = .ok (.iadd, 1) := by decide +kernel
theorem dX2_combine_143 : decode cX2_combine 143 = .ok (.ldc 58, 2) := by decide +kernel
theorem dX2_combine_145 : decode cX2_combine 145 = .ok (.irem, 1) := by decide +kernel
theorem dX2_combine_146 : decode cX2_combine 146 = .ok (.goto 13, 3) := by decide +kernel
theorem dX2_combine_149 : decode cX2_combine 149 = .ok (.iload 5, 2) := by decide +kernel
theorem dX2_combine_151 : decode cX2_combine 151 = .ok (.i2l, 1) := by decide +kernel
theorem dX2_combine_152 : decode cX2_combine 152 = .ok (.iload 6, 2) := by decide +kernel
theorem dX2_combine_154 : decode cX2_combine 154 = .ok (.i2l, 1) := by decide +kernel
theorem dX2_combine_155 : decode cX2_combine 155 = .ok (.iconst 0, 1) := by decide +kernel
theorem dX2_combine_156 : decode cX2_combine 156 = .ok (.invokestatic 42, 3) := by decide +kernel
theorem dX2_combine_159 : decode cX2_combine 159 = .ok (.iastore, 1) := by decide +kernel
theorem dX2_combine_160 : decode cX2_combine 160 = .ok (.iinc 4 1, 3) := by decide +kernel
theorem dX2_combine_163 : decode cX2_combine 163 = .ok (.goto (-90), 3) := by decide +kernel
theorem dX2_combine_166 : decode cX2_combine 166 = .ok (.aload_n 0, 1) := by decide +kernel
theorem dX2_combine_167 : decode cX2_combine 167 = .ok (.iload_n 1, 1) := by decide +kernel
theorem dX2_combine_168 : decode cX2_combine 168 = .ok (.invokevirtual 95, 3) := by decide +kernel
theorem dX2_combine_171 : decode cX2_combine 171 = .ok (.ireturn, 1) := by decide +kernel
set_option maxRecDepth 20000 in
theorem ggX2_multiply_X2_lacks : GoodIn wsX2_multiply wsX2_lacks := goodIn_r _ [9, 10, 11, 8, 12, 13, 14, 15, 16, 17, 34, 35, 36, 37, 38, 39] (by decide +kernel) (by decide +kernel)
set_option maxRecDepth 20000 in
theorem gX2_multiply_X2_lacks : GoodIn wsX2_multiply (wsV RX2 70 RX2 yX2_lacks wsX2_lacks) := goodIn_app (goodIn_of _ (by decide +kernel)) ggX2_multiply_X2_lacks
set_option maxRecDepth 20000 in
theorem ggX2_multiply_X2_in : GoodIn wsX2_multiply wsX2_in := goodIn_r _ [12] (by decide +kernel) (by decide +kernel)
set_option maxRecDepth 20000 in
theorem gX2_multiply_X2_in : GoodIn wsX2_multiply (va_wsS RX2 31 yX2_in wsX2_in) := goodIn_app (goodIn_of _ (by decide +kernel)) ggX2_multiply_X2_in
set_option maxRecDepth 20000 in
theorem ggX2_multiply_X2_no : GoodIn wsX2_multiply wsX2_no := goodIn_r _ [16, 17, 34, 35, 36, 37, 38, 39] (by decide +kernel) (by decide +kernel)
set_option maxRecDepth 20000 in
theorem gX2_multiply_X2_no : GoodIn wsX2_multiply (wsV RX2 35 RX2 yX2_no wsX2_no) := goodIn_app (goodIn_of _ (by decide +kernel)) ggX2_multiply_X2_no
set_option maxRecDepth 20000 in
theorem ggX2_multiply_X2_product : GoodIn wsX2_multiply wsX2_product := goodIn_r _ [20, 21] (by decide +kernel) (by decide +kernel)
set_option maxRecDepth 20000 in
theorem gX2_multiply_X2_product : GoodIn wsX2_multiply (va_wsS RX2 42 yX2_product wsX2_product) := goodIn_app (goodIn_of _ (by decide +kernel)) ggX2_multiply_X2_product
set_option maxRecDepth 20000 in
theorem ggX2_multiply_X2_putZeros : GoodIn wsX2_multiply wsX2_putZeros := goodIn_r _ [25, 26, 27, 28, 8, 29, 2, 4, 3, 30, 31, 32, 33, 34, 35, 36, 37, 38, 39] (by decide +kernel) (by decide +kernel)
set_option maxRecDepth 20000 in
theorem gX2_multiply_X2_putZeros : GoodIn wsX2_multiply (wsV RX2 95 RX2 yX2_putZeros wsX2_putZeros) := goodIn_app (goodIn_of _ (by decide +kernel)) ggX2_multiply_X2_putZeros
theorem dX2_multiply_0 : decode cX2_multiply 0 = .ok (.aload_n 0, 1) := by decide +kernel
theorem dX2_multiply_1 : decode cX2_multiply 1 = .ok (.iload_n 1, 1) := by decide +kernel
theorem dX2_multiply_2 : decode cX2_multiply 2 = .ok (.invokevirtual 70, 3) := by decide +kernel
theorem dX2_multiply_5 : decode cX2_multiply 5 = .ok (.ifCond .ne 18, 3) := by decide +kernel
theorem dX2_multiply_8 : decode cX2_multiply 8 = .ok (.aload_n 0, 1) := by decide +kernel
theorem dX2_multiply_9 : decode cX2_multiply 9 = .ok (.iload_n 2, 1) := by decide +kernel
theorem dX2_multiply_10 : decode cX2_multiply 10 = .ok (.iconst 0, 1) := by decide +kernel
theorem dX2_multiply_11 : decode cX2_multiply 11 = .ok (.ldc 81, 2) := by decide +kernel
theorem dX2_multiply_13 : decode cX2_multiply 13 = .ok (.invokestatic 31, 3) := by decide +kernel
theorem dX2_multiply_16 : decode cX2_multiply 16 = .ok (.iconst 2, 1) := by decide +kernel
theorem dX2_multiply_17 : decode cX2_multiply 17 = .ok (.invokevirtual 35, 3) := by decide +kernel
theorem dX2_multiply_20 : decode cX2_multiply 20 = .ok (.ifCond .eq 5, 3) := by decide +kernel
theorem dX2_multiply_23 : decode cX2_multiply 23 = .ok (.iconst 0, 1) := by decide +kernel
theorem dX2_multiply_24 : decode cX2_multiply 24 = .ok (.ireturn, 1) := by decide +kernel
theorem dX2_multiply_25 : decode cX2_multiply 25 = .ok (.iconst 0, 1) := by decide +kernel
theorem dX2_multiply_26 : decode cX2_multiply 26 = .ok (.istore_n 3, 1) := by decide +kernel
theorem dX2_multiply_27 : decode cX2_multiply 27 = .ok (.iload_n 3, 1) := by decide +kernel
theorem dX2_multiply_28 : decode cX2_multiply 28 = .ok (.aload_n 0, 1) := by decide +kernel
theorem dX2_multiply_29 : decode cX2_multiply 29 = .ok (.getfield 14, 3) := by decide +kernel
theorem dX2_multiply_32 : decode cX2_multiply 32 = .ok (.iload_n 1, 1) := by decide +kernel
theorem dX2_multiply_33 : decode cX2_multiply 33 = .ok (.iaload, 1) := by decide +kernel
theorem dX2_multiply_34 : decode cX2_multiply 34 = .ok (.if_icmp .ge 30, 3) := by decide +kernel
theorem dX2_multiply_37 : decode cX2_multiply 37 = .ok (.aload_n 0, 1) := by decide +kernel
theorem dX2_multiply_38 : decode cX2_multiply 38 = .ok (.getfield 18, 3) := by decide +kernel
theorem dX2_multiply_41 : decode cX2_multiply 41 = .ok (.iload_n 3, 1) := by decide +kernel
theorem dX2_multiply_42 : decode cX2_multiply 42 = .ok (.aload_n 0, 1) := by decide +kernel
theorem dX2_multiply_43 : decode cX2_multiply 43 = .ok (.getfield 11, 3) := by decide +kernel
theorem dX2_multiply_46 : decode cX2_multiply 46 = .ok (.iload_n 1, 1) := by decide +kernel
theorem dX2_multiply_47 : decode cX2_multiply 47 = .ok (.aaload, 1) := by decide +kernel
theorem dX2_multiply_48 : decode cX2_multiply 48 = .ok (.iload_n 3, 1) := by decide +kernel
theorem dX2_multiply_49 : decode cX2_multiply 49 = .ok (.iaload, 1) := by decide +kernel
theorem dX2_multiply_50 : decode cX2_multiply 50 = .ok (.i2l, 1) := by decide +kernel
theorem dX2_multiply_51 : decode cX2_multiply 51 = .ok (.iload_n 2, 1) := by decide +kernel
theorem dX2_multiply_52 : decode cX2_multiply 52 = .ok (.i2l, 1) := by decide +kernel
theorem dX2_multiply_53 : decode cX2_multiply 53 = .ok (.iconst 0, 1) := by decide +kernel
theorem dX2_multiply_54 : decode cX2_multiply 54 = .ok (.invokestatic 42, 3) := by decide +kernel
theorem dX2_multiply_57 : decode cX2_multiply 57 = .ok (.iastore, 1) := by decide +kernel
theorem dX2_multiply_58 : decode cX2_multiply 58 = .ok (.iinc 3 1, 3) := by decide +kernel
theorem dX2_multiply_61 : decode cX2_multiply 61 = .ok (.goto (-34), 3) := by decide +kernel
theorem dX2_multiply_64 : decode cX2_multiply 64 = .ok (.aload_n 0, 1) := by decide +kernel
theorem dX2_multiply_65 : decode cX2_multiply 65 = .ok (.iload_n 1, 1) := by decide +kernel
theorem dX2_multiply_66 : decode cX2_multiply 66 = .ok (.invokevirtual 95, 3) := by decide +kernel
theorem dX2_multiply_69 : decode cX2_multiply 69 = .ok (.ireturn, 1) := by decide +kernel
set_option maxRecDepth 20000 in
theorem ggX2_cannotRepeat_X2_lacks : GoodIn wsX2_cannotRepeat wsX2_lacks := goodIn_r _ [6, 7, 8, 5, 9, 10, 11, 12, 13, 14, 18, 19, 20, 21, 22, 23] (by decide +kernel) (by decide +kernel)
set_option maxRecDepth 20000 in
theorem gX2_cannotRepeat_X2_lacks : GoodIn wsX2_cannotRepeat (wsV RX2 70 RX2 yX2_lacks wsX2_lacks) := goodIn_app (goodIn_of _ (by decide +kernel)) ggX2_cannotRepeat_X2_lacks
set_option maxRecDepth 20000 in
theorem ggX2_cannotRepeat_X2_isLength : GoodIn wsX2_cannotRepeat wsX2_isLength := goodIn_r _ [17] (by decide +kernel) (by decide +kernel)
set_option maxRecDepth 20000 in
theorem gX2_cannotRepeat_X2_isLength : GoodIn wsX2_cannotRepeat (va_wsS RX2 74 yX2_isLength wsX2_isLength) := goodIn_app (goodIn_of _ (by decide +kernel)) ggX2_cannotRepeat_X2_isLength
set_option maxRecDepth 20000 in
theorem ggX2_cannotRepeat_X2_no : GoodIn wsX2_cannotRepeat wsX2_no := goodIn_r _ [13, 14, 18, 19, 20, 21, 22, 23] (by decide +kernel) (by decide +kernel)
set_option maxRecDepth 20000 in
theorem gX2_cannotRepeat_X2_no : GoodIn wsX2_cannotRepeat (wsV RX2 35 RX2 yX2_no wsX2_no) := goodIn_app (goodIn_of _ (by decide +kernel)) ggX2_cannotRepeat_X2_no
theorem dX2_cannotRepeat_0 : decode cX2_cannotRepeat 0 = .ok (.aload_n 0, 1) := by decide +kernel
theorem dX2_cannotRepeat_1 : decode cX2_cannotRepeat 1 = .ok (.iload_n 1, 1) := by decide +kernel
theorem dX2_cannotRepeat_2 : decode cX2_cannotRepeat 2 = .ok (.invokevirtual 70, 3) := by decide +kernel
theorem dX2_cannotRepeat_5 : decode cX2_cannotRepeat 5 = .ok (.ifCond .ne 38, 3) := by decide +kernel
theorem dX2_cannotRepeat_8 : decode cX2_cannotRepeat 8 = .ok (.aload_n 0, 1) := by decide +kernel
theorem dX2_cannotRepeat_9 : decode cX2_cannotRepeat 9 = .ok (.iload_n 2, 1) := by decide +kernel
theorem dX2_cannotRepeat_10 : decode cX2_cannotRepeat 10 = .ok (.iconst 1, 1) := by decide +kernel
theorem dX2_cannotRepeat_11 : decode cX2_cannotRepeat 11 = .ok (.if_icmp .eq 10, 3) := by decide +kernel
theorem dX2_cannotRepeat_14 : decode cX2_cannotRepeat 14 = .ok (.iload_n 2, 1) := by decide +kernel
theorem dX2_cannotRepeat_15 : decode cX2_cannotRepeat 15 = .ok (.invokestatic 74, 3) := by decide +kernel
theorem dX2_cannotRepeat_18 : decode cX2_cannotRepeat 18 = .ok (.ifCond .eq 17, 3) := by decide +kernel
theorem dX2_cannotRepeat_21 : decode cX2_cannotRepeat 21 = .ok (.iload_n 2, 1) := by decide +kernel
theorem dX2_cannotRepeat_22 : decode cX2_cannotRepeat 22 = .ok (.aload_n 0, 1) := by decide +kernel
theorem dX2_cannotRepeat_23 : decode cX2_cannotRepeat 23 = .ok (.getfield 14, 3) := by decide +kernel
theorem dX2_cannotRepeat_26 : decode cX2_cannotRepeat 26 = .ok (.iload_n 1, 1) := by decide +kernel
theorem dX2_cannotRepeat_27 : decode cX2_cannotRepeat 27 = .ok (.iaload, 1) := by decide +kernel
theorem dX2_cannotRepeat_28 : decode cX2_cannotRepeat 28 = .ok (.if_icmp .gt 7, 3) := by decide +kernel
theorem dX2_cannotRepeat_31 : decode cX2_cannotRepeat 31 = .ok (.iconst 1, 1) := by decide +kernel
theorem dX2_cannotRepeat_32 : decode cX2_cannotRepeat 32 = .ok (.goto 4, 3) := by decide +kernel
theorem dX2_cannotRepeat_35 : decode cX2_cannotRepeat 35 = .ok (.iconst 0, 1) := by decide +kernel
theorem dX2_cannotRepeat_36 : decode cX2_cannotRepeat 36 = .ok (.iconst 2, 1) := by decide +kernel
theorem dX2_cannotRepeat_37 : decode cX2_cannotRepeat 37 = .ok (.invokevirtual 35, 3) := by decide +kernel
theorem dX2_cannotRepeat_40 : decode cX2_cannotRepeat 40 = .ok (.ifCond .eq 7, 3) := by decide +kernel
theorem dX2_cannotRepeat_43 : decode cX2_cannotRepeat 43 = .ok (.iconst 1, 1) := by decide +kernel
theorem dX2_cannotRepeat_44 : decode cX2_cannotRepeat 44 = .ok (.goto 4, 3) := by decide +kernel
theorem dX2_cannotRepeat_47 : decode cX2_cannotRepeat 47 = .ok (.iconst 0, 1) := by decide +kernel
theorem dX2_cannotRepeat_48 : decode cX2_cannotRepeat 48 = .ok (.ireturn, 1) := by decide +kernel
set_option maxRecDepth 20000 in
theorem ggX2_repeat_X2_cannotRepeat : GoodIn wsX2_repeat wsX2_cannotRepeat := goodIn_r _ [8, 1, 9, 10, 11, 7, 12, 13, 14, 15, 16, 17, 18, 19, 20, 21, 22, 23, 28, 29, 30, 31, 32, 33] (by decide +kernel) (by decide +kernel)
set_option maxRecDepth 20000 in
theorem gX2_repeat_X2_cannotRepeat : GoodIn wsX2_repeat (wsV RX2 117 RX2 yX2_cannotRepeat wsX2_cannotRepeat) := goodIn_app (goodIn_of _ (by decide +kernel)) ggX2_repeat_X2_cannotRepeat
set_option maxRecDepth 20000 in
theorem ggX2_repeat_X2_put : GoodIn wsX2_repeat wsX2_put := goodIn_r _ [27, 1, 3, 2, 28, 29, 30, 31, 32, 33] (by decide +kernel) (by decide +kernel)
set_option maxRecDepth 20000 in
theorem gX2_repeat_X2_put : GoodIn wsX2_repeat (wsV RX2 63 RX2 yX2_put wsX2_put) := goodIn_app (goodIn_of _ (by decide +kernel)) ggX2_repeat_X2_put
theorem dX2_repeat_0 : decode cX2_repeat 0 = .ok (.aload_n 0, 1) := by decide +kernel
theorem dX2_repeat_1 : decode cX2_repeat 1 = .ok (.iload_n 1, 1) := by decide +kernel
theorem dX2_repeat_2 : decode cX2_repeat 2 = .ok (.iload_n 2, 1) := by decide +kernel
theorem dX2_repeat_3 : decode cX2_repeat 3 = .ok (.invokevirtual 117, 3) := by decide +kernel
theorem dX2_repeat_6 : decode cX2_repeat 6 = .ok (.ifCond .eq 5, 3) := by decide +kernel
theorem dX2_repeat_9 : decode cX2_repeat 9 = .ok (.iconst 0, 1) := by decide +kernel
theorem dX2_repeat_10 : decode cX2_repeat 10 = .ok (.ireturn, 1) := by decide +kernel
theorem dX2_repeat_11 : decode cX2_repeat 11 = .ok (.iconst 0, 1) := by decide +kernel
theorem dX2_repeat_12 : decode cX2_repeat 12 = .ok (.istore_n 3, 1) := by decide +kernel
theorem dX2_repeat_13 : decode cX2_repeat 13 = .ok (.iload_n 3, 1) := by decide +kernel
theorem dX2_repeat_14 : decode cX2_repeat 14 = .ok (.aload_n 0, 1) := by decide +kernel
theorem dX2_repeat_15 : decode cX2_repeat 15 = .ok (.getfield 14, 3) := by decide +kernel
theorem dX2_repeat_18 : decode cX2_repeat 18 = .ok (.iload_n 1, 1) := by decide +kernel
theorem dX2_repeat_19 : decode cX2_repeat 19 = .ok (.iaload, 1) := by decide +kernel
theorem dX2_repeat_20 : decode cX2_repeat 20 = .ok (.if_icmp .ge 25, 3) := by decide +kernel
theorem dX2_repeat_23 : decode cX2_repeat 23 = .ok (.aload_n 0, 1) := by decide +kernel
theorem dX2_repeat_24 : decode cX2_repeat 24 = .ok (.getfield 18, 3) := by decide +kernel
theorem dX2_repeat_27 : decode cX2_repeat 27 = .ok (.iload_n 3, 1) := by decide +kernel
theorem dX2_repeat_28 : decode cX2_repeat 28 = .ok (.aload_n 0, 1) := by decide +kernel
theorem dX2_repeat_29 : decode cX2_repeat 29 = .ok (.getfield 11, 3) := by decide +kernel
theorem dX2_repeat_32 : decode cX2_repeat 32 = .ok (.iload_n 1, 1) := by decide +kernel
theorem dX2_repeat_33 : decode cX2_repeat 33 = .ok (.aaload, 1) := by decide +kernel
theorem dX2_repeat_34 : decode cX2_repeat 34 = .ok (.iload_n 3, 1) := by decide +kernel
theorem dX2_repeat_35 : decode cX2_repeat 35 = .ok (.iload_n 2, 1) := by decide +kernel
theorem dX2_repeat_36 : decode cX2_repeat 36 = .ok (.irem, 1) := by decide +kernel
theorem dX2_repeat_37 : decode cX2_repeat 37 = .ok (.iaload, 1) := by decide +kernel
theorem dX2_repeat_38 : decode cX2_repeat 38 = .ok (.iastore, 1) := by decide +kernel
theorem dX2_repeat_39 : decode cX2_repeat 39 = .ok (.iinc 3 1, 3) := by decide +kernel
theorem dX2_repeat_42 : decode cX2_repeat 42 = .ok (.goto (-29), 3) := by decide +kernel
theorem dX2_repeat_45 : decode cX2_repeat 45 = .ok (.aload_n 0, 1) := by decide +kernel
theorem dX2_repeat_46 : decode cX2_repeat 46 = .ok (.iload_n 1, 1) := by decide +kernel
theorem dX2_repeat_47 : decode cX2_repeat 47 = .ok (.invokevirtual 63, 3) := by decide +kernel
theorem dX2_repeat_50 : decode cX2_repeat 50 = .ok (.ireturn, 1) := by decide +kernel
set_option maxRecDepth 20000 in
theorem ggX2_own_X2_lacks : GoodIn wsX2_own wsX2_lacks := goodIn_r _ [10, 11, 12, 9, 13, 14, 15, 16, 17, 18, 54, 55, 56, 57, 58, 59] (by decide +kernel) (by decide +kernel)
set_option maxRecDepth 20000 in
theorem gX2_own_X2_lacks : GoodIn wsX2_own (wsV RX2 70 RX2 yX2_lacks wsX2_lacks) := goodIn_app (goodIn_of _ (by decide +kernel)) ggX2_own_X2_lacks
set_option maxRecDepth 20000 in
theorem ggX2_own_X2_turned : GoodIn wsX2_own wsX2_turned := goodIn_r _ [22, 1, 3, 4, 23, 24, 9, 25, 54, 55, 56, 57, 58, 59] (by decide +kernel) (by decide +kernel)
set_option maxRecDepth 20000 in
theorem gX2_own_X2_turned : GoodIn wsX2_own (wsV RX2 114 RX2 yX2_turned wsX2_turned) := goodIn_app (goodIn_of _ (by decide +kernel)) ggX2_own_X2_turned
set_option maxRecDepth 20000 in
theorem ggX2_own_X2_sums : GoodIn wsX2_own wsX2_sums := goodIn_r _ [29, 5, 3, 30, 31, 32, 9, 33, 34, 23, 24, 25, 35, 36, 37, 38, 54, 55, 56, 57, 58, 59] (by decide +kernel) (by decide +kernel)
set_option maxRecDepth 20000 in
theorem gX2_own_X2_sums : GoodIn wsX2_own (wsV RX2 59 RX2 yX2_sums wsX2_sums) := goodIn_app (goodIn_of _ (by decide +kernel)) ggX2_own_X2_sums
set_option maxRecDepth 20000 in
theorem ggX2_own_X2_product : GoodIn wsX2_own wsX2_product := goodIn_r _ [41, 38] (by decide +kernel) (by decide +kernel)
set_option maxRecDepth 20000 in
theorem gX2_own_X2_product : GoodIn wsX2_own (va_wsS RX2 42 yX2_product wsX2_product) := goodIn_app (goodIn_of _ (by decide +kernel)) ggX2_own_X2_product
set_option maxRecDepth 20000 in
theorem ggX2_own_X2_putZeros : GoodIn wsX2_own wsX2_putZeros := goodIn_r _ [45, 46, 47, 48, 9, 49, 1, 4, 3, 50, 51, 52, 53, 54, 55, 56, 57, 58, 59] (by decide +kernel) (by decide +kernel)
set_option maxRecDepth 20000 in
theorem gX2_own_X2_putZeros : GoodIn wsX2_own (wsV RX2 95 RX2 yX2_putZeros wsX2_putZeros) := goodIn_app (goodIn_of _ (by decide +kernel)) ggX2_own_X2_putZeros
theorem dX2_own_0 : decode cX2_own 0 = .ok (.aload_n 0, 1) := by decide +kernel
theorem dX2_own_1 : decode cX2_own 1 = .ok (.iload_n 1, 1) := by decide +kernel
theorem dX2_own_2 : decode cX2_own 2 = .ok (.invokevirtual 70, 3) := by decide +kernel
theorem dX2_own_5 : decode cX2_own 5 = .ok (.ifCond .eq 5, 3) := by decide +kernel
theorem dX2_own_8 : decode cX2_own 8 = .ok (.iconst 0, 1) := by decide +kernel
theorem dX2_own_9 : decode cX2_own 9 = .ok (.ireturn, 1) := by decide +kernel
theorem dX2_own_10 : decode cX2_own 10 = .ok (.aload_n 0, 1) := by decide +kernel
theorem dX2_own_11 : decode cX2_own 11 = .ok (.getfield 14, 3) := by decide +kernel
theorem dX2_own_14 : decode cX2_own 14 = .ok (.iload_n 1, 1) := by decide +kernel
theorem dX2_own_15 : decode cX2_own 15 = .ok (.iaload, 1) := by decide +kernel
theorem dX2_own_16 : decode cX2_own 16 = .ok (.istore_n 2, 1) := by decide +kernel
theorem dX2_own_17 : decode cX2_own 17 = .ok (.iload_n 2, 1) := by decide +kernel
theorem dX2_own_18 : decode cX2_own 18 = .ok (.iconst 2, 1) := by decide +kernel
theorem dX2_own_19 : decode cX2_own 19 = .ok (.if_icmp .ne 9, 3) := by decide +kernel
theorem dX2_own_22 : decode cX2_own 22 = .ok (.sipush 4080, 3) := by decide +kernel
theorem dX2_own_25 : decode cX2_own 25 = .ok (.goto 25, 3) := by decide +kernel
theorem dX2_own_28 : decode cX2_own 28 = .ok (.iload_n 2, 1) := by decide +kernel
theorem dX2_own_29 : decode cX2_own 29 = .ok (.iconst 4, 1) := by decide +kernel
theorem dX2_own_30 : decode cX2_own 30 = .ok (.if_icmp .ne 7, 3) := by decide +kernel
theorem dX2_own_33 : decode cX2_own 33 = .ok (.iconst 2, 1) := by decide +kernel
theorem dX2_own_34 : decode cX2_own 34 = .ok (.goto 16, 3) := by decide +kernel
theorem dX2_own_37 : decode cX2_own 37 = .ok (.iload_n 2, 1) := by decide +kernel
theorem dX2_own_38 : decode cX2_own 38 = .ok (.bipush 8, 2) := by decide +kernel
theorem dX2_own_40 : decode cX2_own 40 = .ok (.if_icmp .ne 9, 3) := by decide +kernel
theorem dX2_own_43 : decode cX2_own 43 = .ok (.sipush 8160, 3) := by decide +kernel
theorem dX2_own_46 : decode cX2_own 46 = .ok (.goto 4, 3) := by decide +kernel
theorem dX2_own_49 : decode cX2_own 49 = .ok (.iconst 4, 1) := by decide +kernel
theorem dX2_own_50 : decode cX2_own 50 = .ok (.istore_n 3, 1) := by decide +kernel
theorem dX2_own_51 : decode cX2_own 51 = .ok (.aload_n 0, 1) := by decide +kernel
theorem dX2_own_52 : decode cX2_own 52 = .ok (.iload_n 1, 1) := by decide +kernel
theorem dX2_own_53 : decode cX2_own 53 = .ok (.invokevirtual 114, 3) := by decide +kernel
theorem dX2_own_56 : decode cX2_own 56 = .ok (.iconst 0, 1) := by decide +kernel
theorem dX2_own_57 : decode cX2_own 57 = .ok (.istore 4, 2) := by decide +kernel
theorem dX2_own_59 : decode cX2_own 59 = .ok (.iload 4, 2) := by decide +kernel
theorem dX2_own_61 : decode cX2_own 61 = .ok (.iload_n 2, 1) := by decide +kernel
theorem dX2_own_62 : decode cX2_own 62 = .ok (.if_icmp .ge 36, 3) := by decide +kernel
theorem dX2_own_65 : decode cX2_own 65 = .ok (.aload_n 0, 1) := by decide +kernel
theorem dX2_own_66 : decode cX2_own 66 = .ok (.getfield 21, 3) := by decide +kernel
theorem dX2_own_69 : decode cX2_own 69 = .ok (.iload 4, 2) := by decide +kernel
theorem dX2_own_71 : decode cX2_own 71 = .ok (.aload_n 0, 1) := by decide +kernel
theorem dX2_own_72 : decode cX2_own 72 = .ok (.getfield 18, 3) := by decide +kernel
theorem dX2_own_75 : decode cX2_own 75 = .ok (.iload 4, 2) := by decide +kernel
theorem dX2_own_77 : decode cX2_own 77 = .ok (.iaload, 1) := by decide +kernel
theorem dX2_own_78 : decode cX2_own 78 = .ok (.aload_n 0, 1) := by decide +kernel
theorem dX2_own_79 : decode cX2_own 79 = .ok (.getfield 11, 3) := by decide +kernel
theorem dX2_own_82 : decode cX2_own 82 = .ok (.iload_n 1, 1) := by decide +kernel
theorem dX2_own_83 : decode cX2_own 83 = .ok (.aaload, 1) := by decide +kernel
theorem dX2_own_84 : decode cX2_own 84 = .ok (.iload 4, 2) := by decide +kernel
theorem dX2_own_86 : decode cX2_own 86 = .ok (.iaload, 1) := by decide +kernel
theorem dX2_own_87 : decode cX2_own 87 = .ok (.iadd, 1) := by decide +kernel
theorem dX2_own_88 : decode cX2_own 88 = .ok (.ldc 58, 2) := by decide +kernel
theorem dX2_own_90 : decode cX2_own 90 = .ok (.irem, 1) := by decide +kernel
theorem dX2_own_91 : decode cX2_own 91 = .ok (.iastore, 1) := by decide +kernel
theorem dX2_own_92 : decode cX2_own 92 = .ok (.iinc 4 1, 3) := by decide +kernel
theorem dX2_own_95 : decode cX2_own 95 = .ok (.goto (-36), 3) := by decide +kernel
theorem dX2_own_98 : decode cX2_own 98 = .ok (.aload_n 0, 1) := by decide +kernel
theorem dX2_own_99 : decode cX2_own 99 = .ok (.aload_n 0, 1) := by decide +kernel
theorem dX2_own_100 : decode cX2_own 100 = .ok (.getfield 21, 3) := by decide +kernel
theorem dX2_own_103 : decode cX2_own 103 = .ok (.iload_n 2, 1) := by decide +kernel
theorem dX2_own_104 : decode cX2_own 104 = .ok (.iconst 1, 1) := by decide +kernel
theorem dX2_own_105 : decode cX2_own 105 = .ok (.iconst 0, 1) := by decide +kernel
theorem dX2_own_106 : decode cX2_own 106 = .ok (.invokevirtual 59, 3) := by decide +kernel
theorem dX2_own_109 : decode cX2_own 109 = .ok (.iconst 0, 1) := by decide +kernel
theorem dX2_own_110 : decode cX2_own 110 = .ok (.istore 4, 2) := by decide +kernel
theorem dX2_own_112 : decode cX2_own 112 = .ok (.iload 4, 2) := by decide +kernel
theorem dX2_own_114 : decode cX2_own 114 = .ok (.iload_n 2, 1) := by decide +kernel
theorem dX2_own_115 : decode cX2_own 115 = .ok (.if_icmp .ge 36, 3) := by decide +kernel
theorem dX2_own_118 : decode cX2_own 118 = .ok (.aload_n 0, 1) := by decide +kernel
theorem dX2_own_119 : decode cX2_own 119 = .ok (.getfield 18, 3) := by decide +kernel
theorem dX2_own_122 : decode cX2_own 122 = .ok (.iload 4, 2) := by decide +kernel
theorem dX2_own_124 : decode cX2_own 124 = .ok (.iload_n 3, 1) := by decide +kernel
theorem dX2_own_125 : decode cX2_own 125 = .ok (.i2l, 1) := by decide +kernel
theorem dX2_own_126 : decode cX2_own 126 = .ok (.aload_n 0, 1) := by decide +kernel
theorem dX2_own_127 : decode cX2_own 127 = .ok (.getfield 21, 3) := by decide +kernel
theorem dX2_own_130 : decode cX2_own 130 = .ok (.iload 4, 2) := by decide +kernel
theorem dX2_own_132 : decode cX2_own 132 = .ok (.iaload, 1) := by decide +kernel
theorem dX2_own_133 : decode cX2_own 133 = .ok (.i2l, 1) := by decide +kernel
theorem dX2_own_134 : decode cX2_own 134 = .ok (.aload_n 0, 1) := by decide +kernel
theorem dX2_own_135 : decode cX2_own 135 = .ok (.getfield 18, 3) := by decide +kernel
theorem dX2_own_138 : decode cX2_own 138 = .ok (.iload 4, 2) := by decide +kernel
theorem dX2_own_140 : decode cX2_own 140 = .ok (.iaload, 1) := by decide +kernel
theorem dX2_own_141 : decode cX2_own 141 = .ok (.invokestatic 42, 3) := by decide +kernel
theorem dX2_own_144 : decode cX2_own 144 = .ok (.iastore, 1) := by decide +kernel
theorem dX2_own_145 : decode cX2_own 145 = .ok (.iinc 4 1, 3) := by decide +kernel
theorem dX2_own_148 : decode cX2_own 148 = .ok (.goto (-36), 3) := by decide +kernel
theorem dX2_own_151 : decode cX2_own 151 = .ok (.aload_n 0, 1) := by decide +kernel
theorem dX2_own_152 : decode cX2_own 152 = .ok (.iload_n 1, 1) := by decide +kernel
theorem dX2_own_153 : decode cX2_own 153 = .ok (.invokevirtual 95, 3) := by decide +kernel
theorem dX2_own_156 : decode cX2_own 156 = .ok (.ireturn, 1) := by decide +kernel
set_option maxRecDepth 20000 in
theorem ggX2_period_X2_lacks : GoodIn wsX2_period wsX2_lacks := goodIn_r _ [7, 8, 9, 6, 10, 11, 12, 13, 14, 15, 16, 17, 18, 19, 20, 21] (by decide +kernel) (by decide +kernel)
set_option maxRecDepth 20000 in
theorem gX2_period_X2_lacks : GoodIn wsX2_period (wsV RX2 70 RX2 yX2_lacks wsX2_lacks) := goodIn_app (goodIn_of _ (by decide +kernel)) ggX2_period_X2_lacks
theorem dX2_period_0 : decode cX2_period 0 = .ok (.aload_n 0, 1) := by decide +kernel
theorem dX2_period_1 : decode cX2_period 1 = .ok (.iload_n 1, 1) := by decide +kernel
theorem dX2_period_2 : decode cX2_period 2 = .ok (.invokevirtual 70, 3) := by decide +kernel
theorem dX2_period_5 : decode cX2_period 5 = .ok (.ifCond .eq 5, 3) := by decide +kernel
theorem dX2_period_8 : decode cX2_period 8 = .ok (.iconst 0, 1) := by decide +kernel
theorem dX2_period_9 : decode cX2_period 9 = .ok (.ireturn, 1) := by decide +kernel
theorem dX2_period_10 : decode cX2_period 10 = .ok (.aload_n 0, 1) := by decide +kernel
theorem dX2_period_11 : decode cX2_period 11 = .ok (.getfield 14, 3) := by decide +kernel
theorem dX2_period_14 : decode cX2_period 14 = .ok (.iload_n 1, 1) := by decide +kernel
theorem dX2_period_15 : decode cX2_period 15 = .ok (.iaload, 1) := by decide +kernel
theorem dX2_period_16 : decode cX2_period 16 = .ok (.istore_n 2, 1) := by decide +kernel
theorem dX2_period_17 : decode cX2_period 17 = .ok (.iload_n 2, 1) := by decide +kernel
theorem dX2_period_18 : decode cX2_period 18 = .ok (.istore_n 3, 1) := by decide +kernel
theorem dX2_period_19 : decode cX2_period 19 = .ok (.iload_n 2, 1) := by decide +kernel
theorem dX2_period_20 : decode cX2_period 20 = .ok (.iconst 2, 1) := by decide +kernel
theorem dX2_period_21 : decode cX2_period 21 = .ok (.idiv, 1) := by decide +kernel
theorem dX2_period_22 : decode cX2_period 22 = .ok (.istore 4, 2) := by decide +kernel
theorem dX2_period_24 : decode cX2_period 24 = .ok (.iload 4, 2) := by decide +kernel
theorem dX2_period_26 : decode cX2_period 26 = .ok (.ifCond .le 80, 3) := by decide +kernel
theorem dX2_period_29 : decode cX2_period 29 = .ok (.iconst 1, 1) := by decide +kernel
theorem dX2_period_30 : decode cX2_period 30 = .ok (.istore 5, 2) := by decide +kernel
theorem dX2_period_32 : decode cX2_period 32 = .ok (.iconst 0, 1) := by decide +kernel
theorem dX2_period_33 : decode cX2_period 33 = .ok (.istore 6, 2) := by decide +kernel
theorem dX2_period_35 : decode cX2_period 35 = .ok (.iload 6, 2) := by decide +kernel
theorem dX2_period_37 : decode cX2_period 37 = .ok (.iload_n 2, 1) := by decide +kernel
theorem dX2_period_38 : decode cX2_period 38 = .ok (.if_icmp .ge 47, 3) := by decide +kernel
theorem dX2_period_41 : decode cX2_period 41 = .ok (.iload 5, 2) := by decide +kernel
theorem dX2_period_43 : decode cX2_period 43 = .ok (.ifCond .eq 33, 3) := by decide +kernel
theorem dX2_period_46 : decode cX2_period 46 = .ok (.aload_n 0, 1) := by decide +kernel
theorem dX2_period_47 : decode cX2_period 47 = .ok (.getfield 11, 3) := by decide +kernel
theorem dX2_period_50 : decode cX2_period 50 = .ok (.iload_n 1, 1) := by decide +kernel
theorem dX2_period_51 : decode cX2_period 51 = .ok (.aaload, 1) := by decide +kernel
theorem dX2_period_52 : decode cX2_period 52 = .ok (.iload 6, 2) := by decide +kernel
theorem dX2_period_54 : decode cX2_period 54 = .ok (.iaload, 1) := by decide +kernel
theorem dX2_period_55 : decode cX2_period 55 = .ok (.aload_n 0, 1) := by decide +kernel
theorem dX2_period_56 : decode cX2_period 56 = .ok (.getfield 11, 3) := by decide +kernel
theorem dX2_period_59 : decode cX2_period 59 = .ok (.iload_n 1, 1) := by decide +kernel
theorem dX2_period_60 : decode cX2_period 60 = .ok (.aaload, 1) := by decide +kernel
theorem dX2_period_61 : decode cX2_period 61 = .ok (.iload 6, 2) := by decide +kernel
theorem dX2_period_63 : decode cX2_period 63 = .ok (.iload 4, 2) := by decide +kernel
theorem dX2_period_65 : decode cX2_period 65 = .ok (.iadd, 1) := by decide +kernel
theorem dX2_period_66 : decode cX2_period 66 = .ok (.iload_n 2, 1) := by decide +kernel
theorem dX2_period_67 : decode cX2_period 67 = .ok (.irem, 1) := by decide +kernel
theorem dX2_period_68 : decode cX2_period 68 = .ok (.iaload, 1) := by decide +kernel
theorem dX2_period_69 : decode cX2_period 69 = .ok (.if_icmp .ne 7, 3) := by decide +kernel
theorem dX2_period_72 : decode cX2_period 72 = .ok (.iconst 1, 1) := by decide +kernel
theorem dX2_period_73 : decode cX2_period 73 = .ok (.goto 4, 3) := by decide +kernel
theorem dX2_period_76 : decode cX2_period 76 = .ok (.iconst 0, 1) := by decide +kernel
theorem dX2_period_77 : decode cX2_period 77 = .ok (.istore 5, 2) := by decide +kernel
theorem dX2_period_79 : decode cX2_period 79 = .ok (.iinc 6 1, 3) := by decide +kernel
theorem dX2_period_82 : decode cX2_period 82 = .ok (.goto (-47), 3) := by decide +kernel
theorem dX2_period_85 : decode cX2_period 85 = .ok (.iload 5, 2) := by decide +kernel
theorem dX2_period_87 : decode cX2_period 87 = .ok (.ifCond .eq 8, 3) := by decide +kernel
theorem dX2_period_90 : decode cX2_period 90 = .ok (.iload 4, 2) := by decide +kernel
theorem dX2_period_92 : decode cX2_period 92 = .ok (.goto 4, 3) := by decide +kernel
theorem dX2_period_95 : decode cX2_period 95 = .ok (.iload_n 3, 1) := by decide +kernel
theorem dX2_period_96 : decode cX2_period 96 = .ok (.istore_n 3, 1) := by decide +kernel
theorem dX2_period_97 : decode cX2_period 97 = .ok (.iload 4, 2) := by decide +kernel
theorem dX2_period_99 : decode cX2_period 99 = .ok (.iconst 2, 1) := by decide +kernel
theorem dX2_period_100 : decode cX2_period 100 = .ok (.idiv, 1) := by decide +kernel
theorem dX2_period_101 : decode cX2_period 101 = .ok (.istore 4, 2) := by decide +kernel
theorem dX2_period_103 : decode cX2_period 103 = .ok (.goto (-79), 3) := by decide +kernel
theorem dX2_period_106 : decode cX2_period 106 = .ok (.iload_n 3, 1) := by decide +kernel
theorem dX2_period_107 : decode cX2_period 107 = .ok (.ireturn, 1) := by decide +kernel
set_option maxRecDepth 20000 in
theorem ggX2_factor_X2_lacks : GoodIn wsX2_factor wsX2_lacks := goodIn_r _ [8, 9, 10, 7, 11, 12, 13, 14, 15, 16, 45, 46, 47, 48, 49, 50] (by decide +kernel) (by decide +kernel)
set_option maxRecDepth 20000 in
theorem gX2_factor_X2_lacks : GoodIn wsX2_factor (wsV RX2 70 RX2 yX2_lacks wsX2_lacks) := goodIn_app (goodIn_of _ (by decide +kernel)) ggX2_factor_X2_lacks
set_option maxRecDepth 20000 in
theorem ggX2_factor_X2_valuesOf : GoodIn wsX2_factor wsX2_valuesOf := goodIn_r _ [20, 2, 1, 21, 22, 23, 7, 24, 25, 3, 26, 27, 28, 29, 30, 31, 32, 33, 34, 35, 36, 37, 45, 46, 47, 48, 49, 50] (by decide +kernel) (by decide +kernel)
set_option maxRecDepth 20000 in
theorem gX2_factor_X2_valuesOf : GoodIn wsX2_factor (wsV RX2 91 RX2 yX2_valuesOf wsX2_valuesOf) := goodIn_app (goodIn_of _ (by decide +kernel)) ggX2_factor_X2_valuesOf
set_option maxRecDepth 20000 in
theorem ggX2_factor_X2_inverse : GoodIn wsX2_factor wsX2_inverse := goodIn_r _ [40, 41, 42, 43, 7, 44, 37] (by decide +kernel) (by decide +kernel)
set_option maxRecDepth 20000 in
theorem gX2_factor_X2_inverse : GoodIn wsX2_factor (va_wsS RX2 109 yX2_inverse wsX2_inverse) := goodIn_app (goodIn_of _ (by decide +kernel)) ggX2_factor_X2_inverse
set_option maxRecDepth 20000 in
theorem ggX2_factor_X2_product : GoodIn wsX2_factor wsX2_product := goodIn_r _ [44, 37] (by decide +kernel) (by decide +kernel)
set_option maxRecDepth 20000 in
theorem gX2_factor_X2_product : GoodIn wsX2_factor (va_wsS RX2 42 yX2_product wsX2_product) := goodIn_app (goodIn_of _ (by decide +kernel)) ggX2_factor_X2_product
theorem dX2_factor_0 : decode cX2_factor 0 = .ok (.aload_n 0, 1) := by decide +kernel
theorem dX2_factor_1 : decode cX2_factor 1 = .ok (.iload_n 1, 1) := by decide +kernel
theorem dX2_factor_2 : decode cX2_factor 2 = .ok (.invokevirtual 70, 3) := by decide +kernel
theorem dX2_factor_5 : decode cX2_factor 5 = .ok (.ifCond .eq 5, 3) := by decide +kernel
theorem dX2_factor_8 : decode cX2_factor 8 = .ok (.iconst 0, 1) := by decide +kernel
theorem dX2_factor_9 : decode cX2_factor 9 = .ok (.ireturn, 1) := by decide +kernel
theorem dX2_factor_10 : decode cX2_factor 10 = .ok (.aload_n 0, 1) := by decide +kernel
theorem dX2_factor_11 : decode cX2_factor 11 = .ok (.iload_n 1, 1) := by decide +kernel
theorem dX2_factor_12 : decode cX2_factor 12 = .ok (.invokevirtual 91, 3) := by decide +kernel
theorem dX2_factor_15 : decode cX2_factor 15 = .ok (.iconst 0, 1) := by decide +kernel
theorem dX2_factor_16 : decode cX2_factor 16 = .ok (.istore_n 2, 1) := by decide +kernel
theorem dX2_factor_17 : decode cX2_factor 17 = .ok (.aload_n 0, 1) := by decide +kernel
theorem dX2_factor_18 : decode cX2_factor 18 = .ok (.getfield 14, 3) := by decide +kernel
theorem dX2_factor_21 : decode cX2_factor 21 = .ok (.iload_n 1, 1) := by decide +kernel
theorem dX2_factor_22 : decode cX2_factor 22 = .ok (.iaload, 1) := by decide +kernel
theorem dX2_factor_23 : decode cX2_factor 23 = .ok (.iconst 1, 1) := by decide +kernel
theorem dX2_factor_24 : decode cX2_factor 24 = .ok (.isub, 1) := by decide +kernel
theorem dX2_factor_25 : decode cX2_factor 25 = .ok (.istore_n 3, 1) := by decide +kernel
theorem dX2_factor_26 : decode cX2_factor 26 = .ok (.iload_n 3, 1) := by decide +kernel
theorem dX2_factor_27 : decode cX2_factor 27 = .ok (.ifCond .lt 46, 3) := by decide +kernel
theorem dX2_factor_30 : decode cX2_factor 30 = .ok (.aload_n 0, 1) := by decide +kernel
theorem dX2_factor_31 : decode cX2_factor 31 = .ok (.getfield 11, 3) := by decide +kernel
theorem dX2_factor_34 : decode cX2_factor 34 = .ok (.iload_n 1, 1) := by decide +kernel
theorem dX2_factor_35 : decode cX2_factor 35 = .ok (.aaload, 1) := by decide +kernel
theorem dX2_factor_36 : decode cX2_factor 36 = .ok (.iload_n 3, 1) := by decide +kernel
theorem dX2_factor_37 : decode cX2_factor 37 = .ok (.iaload, 1) := by decide +kernel
theorem dX2_factor_38 : decode cX2_factor 38 = .ok (.istore 4, 2) := by decide +kernel
theorem dX2_factor_40 : decode cX2_factor 40 = .ok (.iload 4, 2) := by decide +kernel
theorem dX2_factor_42 : decode cX2_factor 42 = .ok (.ifCond .ne 7, 3) := by decide +kernel
theorem dX2_factor_45 : decode cX2_factor 45 = .ok (.iload_n 2, 1) := by decide +kernel
theorem dX2_factor_46 : decode cX2_factor 46 = .ok (.goto 20, 3) := by decide +kernel
theorem dX2_factor_49 : decode cX2_factor 49 = .ok (.aload_n 0, 1) := by decide +kernel
theorem dX2_factor_50 : decode cX2_factor 50 = .ok (.getfield 18, 3) := by decide +kernel
theorem dX2_factor_53 : decode cX2_factor 53 = .ok (.iload_n 3, 1) := by decide +kernel
theorem dX2_factor_54 : decode cX2_factor 54 = .ok (.iaload, 1) := by decide +kernel
theorem dX2_factor_55 : decode cX2_factor 55 = .ok (.i2l, 1) := by decide +kernel
theorem dX2_factor_56 : decode cX2_factor 56 = .ok (.iload 4, 2) := by decide +kernel
theorem dX2_factor_58 : decode cX2_factor 58 = .ok (.invokestatic 109, 3) := by decide +kernel
theorem dX2_factor_61 : decode cX2_factor 61 = .ok (.i2l, 1) := by decide +kernel
theorem dX2_factor_62 : decode cX2_factor 62 = .ok (.iconst 0, 1) := by decide +kernel
theorem dX2_factor_63 : decode cX2_factor 63 = .ok (.invokestatic 42, 3) := by decide +kernel
theorem dX2_factor_66 : decode cX2_factor 66 = .ok (.istore_n 2, 1) := by decide +kernel
theorem dX2_factor_67 : decode cX2_factor 67 = .ok (.iinc 3 (-1), 3) := by decide +kernel
theorem dX2_factor_70 : decode cX2_factor 70 = .ok (.goto (-44), 3) := by decide +kernel
theorem dX2_factor_73 : decode cX2_factor 73 = .ok (.iconst 1, 1) := by decide +kernel
theorem dX2_factor_74 : decode cX2_factor 74 = .ok (.istore_n 3, 1) := by decide +kernel
theorem dX2_factor_75 : decode cX2_factor 75 = .ok (.iconst 0, 1) := by decide +kernel
theorem dX2_factor_76 : decode cX2_factor 76 = .ok (.istore 4, 2) := by decide +kernel
theorem dX2_factor_78 : decode cX2_factor 78 = .ok (.iload 4, 2) := by decide +kernel
theorem dX2_factor_80 : decode cX2_factor 80 = .ok (.aload_n 0, 1) := by decide +kernel
theorem dX2_factor_81 : decode cX2_factor 81 = .ok (.getfield 14, 3) := by decide +kernel
theorem dX2_factor_84 : decode cX2_factor 84 = .ok (.iload_n 1, 1) := by decide +kernel
theorem dX2_factor_85 : decode cX2_factor 85 = .ok (.iaload, 1) := by decide +kernel
theorem dX2_factor_86 : decode cX2_factor 86 = .ok (.if_icmp .ge 45, 3) := by decide +kernel
theorem dX2_factor_89 : decode cX2_factor 89 = .ok (.iload_n 3, 1) := by decide +kernel
theorem dX2_factor_90 : decode cX2_factor 90 = .ok (.ifCond .eq 33, 3) := by decide +kernel
theorem dX2_factor_93 : decode cX2_factor 93 = .ok (.aload_n 0, 1) := by decide +kernel
theorem dX2_factor_94 : decode cX2_factor 94 = .ok (.getfield 11, 3) := by decide +kernel
theorem dX2_factor_97 : decode cX2_factor 97 = .ok (.iload_n 1, 1) := by decide +kernel
theorem dX2_factor_98 : decode cX2_factor 98 = .ok (.aaload, 1) := by decide +kernel
theorem dX2_factor_99 : decode cX2_factor 99 = .ok (.iload 4, 2) := by decide +kernel
theorem dX2_factor_101 : decode cX2_factor 101 = .ok (.iaload, 1) := by decide +kernel
theorem dX2_factor_102 : decode cX2_factor 102 = .ok (.i2l, 1) := by decide +kernel
theorem dX2_factor_103 : decode cX2_factor 103 = .ok (.iload_n 2, 1) := by decide +kernel
theorem dX2_factor_104 : decode cX2_factor 104 = .ok (.i2l, 1) := by decide +kernel
theorem dX2_factor_105 : decode cX2_factor 105 = .ok (.iconst 0, 1) := by decide +kernel
theorem dX2_factor_106 : decode cX2_factor 106 = .ok (.invokestatic 42, 3) := by decide +kernel
theorem dX2_factor_109 : decode cX2_factor 109 = .ok (.aload_n 0, 1) := by decide +kernel
theorem dX2_factor_110 : decode cX2_factor 110 = .ok (.getfield 18, 3) := by decide +kernel
theorem dX2_factor_113 : decode cX2_factor 113 = .ok (.iload 4, 2) := by decide +kernel
theorem dX2_factor_115 : decode cX2_factor 115 = .ok (.iaload, 1) := by decide +kernel
theorem dX2_factor_116 : decode cX2_factor 116 = .ok (.if_icmp .ne 7, 3) := by decide +kernel
theorem dX2_factor_119 : decode cX2_factor 119 = .ok (.iconst 1, 1) := by decide +kernel
theorem dX2_factor_120 : decode cX2_factor 120 = .ok (.goto 4, 3) := by decide +kernel
theorem dX2_factor_123 : decode cX2_factor 123 = .ok (.iconst 0, 1) := by decide +kernel
theorem dX2_factor_124 : decode cX2_factor 124 = .ok (.istore_n 3, 1) := by decide +kernel
theorem dX2_factor_125 : decode cX2_factor 125 = .ok (.iinc 4 1, 3) := by decide +kernel
theorem dX2_factor_128 : decode cX2_factor 128 = .ok (.goto (-50), 3) := by decide +kernel
theorem dX2_factor_131 : decode cX2_factor 131 = .ok (.iload_n 3, 1) := by decide +kernel
theorem dX2_factor_132 : decode cX2_factor 132 = .ok (.ifCond .eq 7, 3) := by decide +kernel
theorem dX2_factor_135 : decode cX2_factor 135 = .ok (.iload_n 2, 1) := by decide +kernel
theorem dX2_factor_136 : decode cX2_factor 136 = .ok (.goto 4, 3) := by decide +kernel
theorem dX2_factor_139 : decode cX2_factor 139 = .ok (.iconst (-1), 1) := by decide +kernel
theorem dX2_factor_140 : decode cX2_factor 140 = .ok (.ireturn, 1) := by decide +kernel
set_option maxRecDepth 20000 in
theorem ggX2_sum_X2_lacksTwo : GoodIn wsX2_sum wsX2_lacksTwo := goodIn_r _ [7, 8, 9, 6, 10, 11, 12, 13, 14, 15, 23, 24, 25, 26, 27, 28] (by decide +kernel) (by decide +kernel)
set_option maxRecDepth 20000 in
theorem gX2_sum_X2_lacksTwo : GoodIn wsX2_sum (wsV RX2 82 RX2 yX2_lacksTwo wsX2_lacksTwo) := goodIn_app (goodIn_of _ (by decide +kernel)) ggX2_sum_X2_lacksTwo
set_option maxRecDepth 20000 in
theorem ggX2_sum_X2_no : GoodIn wsX2_sum wsX2_no := goodIn_r _ [14, 15, 23, 24, 25, 26, 27, 28] (by decide +kernel) (by decide +kernel)
set_option maxRecDepth 20000 in
theorem gX2_sum_X2_no : GoodIn wsX2_sum (wsV RX2 35 RX2 yX2_no wsX2_no) := goodIn_app (goodIn_of _ (by decide +kernel)) ggX2_sum_X2_no
set_option maxRecDepth 20000 in
theorem ggX2_sum_X2_left : GoodIn wsX2_sum wsX2_left := goodIn_r _ [18] (by decide +kernel) (by decide +kernel)
set_option maxRecDepth 20000 in
theorem gX2_sum_X2_left : GoodIn wsX2_sum (va_wsS RX2 46 yX2_left wsX2_left) := goodIn_app (goodIn_of _ (by decide +kernel)) ggX2_sum_X2_left
set_option maxRecDepth 20000 in
theorem ggX2_sum_X2_product : GoodIn wsX2_sum wsX2_product := goodIn_r _ [21, 22] (by decide +kernel) (by decide +kernel)
set_option maxRecDepth 20000 in
theorem gX2_sum_X2_product : GoodIn wsX2_sum (va_wsS RX2 42 yX2_product wsX2_product) := goodIn_app (goodIn_of _ (by decide +kernel)) ggX2_sum_X2_product
theorem dX2_sum_0 : decode cX2_sum 0 = .ok (.aload_n 0, 1) := by decide +kernel
theorem dX2_sum_1 : decode cX2_sum 1 = .ok (.iload_n 1, 1) := by decide +kernel
theorem dX2_sum_2 : decode cX2_sum 2 = .ok (.iload_n 2, 1) := by decide +kernel
theorem dX2_sum_3 : decode cX2_sum 3 = .ok (.invokevirtual 82, 3) := by decide +kernel
theorem dX2_sum_6 : decode cX2_sum 6 = .ok (.ifCond .ne 31, 3) := by decide +kernel
theorem dX2_sum_9 : decode cX2_sum 9 = .ok (.aload_n 0, 1) := by decide +kernel
theorem dX2_sum_10 : decode cX2_sum 10 = .ok (.aload_n 0, 1) := by decide +kernel
theorem dX2_sum_11 : decode cX2_sum 11 = .ok (.getfield 14, 3) := by decide +kernel
theorem dX2_sum_14 : decode cX2_sum 14 = .ok (.iload_n 1, 1) := by decide +kernel
theorem dX2_sum_15 : decode cX2_sum 15 = .ok (.iaload, 1) := by decide +kernel
theorem dX2_sum_16 : decode cX2_sum 16 = .ok (.aload_n 0, 1) := by decide +kernel
theorem dX2_sum_17 : decode cX2_sum 17 = .ok (.getfield 14, 3) := by decide +kernel
theorem dX2_sum_20 : decode cX2_sum 20 = .ok (.iload_n 2, 1) := by decide +kernel
theorem dX2_sum_21 : decode cX2_sum 21 = .ok (.iaload, 1) := by decide +kernel
theorem dX2_sum_22 : decode cX2_sum 22 = .ok (.if_icmp .ne 7, 3) := by decide +kernel
theorem dX2_sum_25 : decode cX2_sum 25 = .ok (.iconst 1, 1) := by decide +kernel
theorem dX2_sum_26 : decode cX2_sum 26 = .ok (.goto 4, 3) := by decide +kernel
theorem dX2_sum_29 : decode cX2_sum 29 = .ok (.iconst 0, 1) := by decide +kernel
theorem dX2_sum_30 : decode cX2_sum 30 = .ok (.iconst 2, 1) := by decide +kernel
theorem dX2_sum_31 : decode cX2_sum 31 = .ok (.invokevirtual 35, 3) := by decide +kernel
theorem dX2_sum_34 : decode cX2_sum 34 = .ok (.ifCond .eq 5, 3) := by decide +kernel
theorem dX2_sum_37 : decode cX2_sum 37 = .ok (.iconst 0, 1) := by decide +kernel
theorem dX2_sum_38 : decode cX2_sum 38 = .ok (.ireturn, 1) := by decide +kernel
theorem dX2_sum_39 : decode cX2_sum 39 = .ok (.aload_n 0, 1) := by decide +kernel
theorem dX2_sum_40 : decode cX2_sum 40 = .ok (.getfield 14, 3) := by decide +kernel
theorem dX2_sum_43 : decode cX2_sum 43 = .ok (.iload_n 1, 1) := by decide +kernel
theorem dX2_sum_44 : decode cX2_sum 44 = .ok (.iaload, 1) := by decide +kernel
theorem dX2_sum_45 : decode cX2_sum 45 = .ok (.istore 4, 2) := by decide +kernel
theorem dX2_sum_47 : decode cX2_sum 47 = .ok (.iconst 0, 1) := by decide +kernel
theorem dX2_sum_48 : decode cX2_sum 48 = .ok (.istore 5, 2) := by decide +kernel
theorem dX2_sum_50 : decode cX2_sum 50 = .ok (.iconst 0, 1) := by decide +kernel
theorem dX2_sum_51 : decode cX2_sum 51 = .ok (.istore 6, 2) := by decide +kernel
theorem dX2_sum_53 : decode cX2_sum 53 = .ok (.iload 6, 2) := by decide +kernel
theorem dX2_sum_55 : decode cX2_sum 55 = .ok (.iload 4, 2) := by decide +kernel
theorem dX2_sum_57 : decode cX2_sum 57 = .ok (.if_icmp .ge 52, 3) := by decide +kernel
theorem dX2_sum_60 : decode cX2_sum 60 = .ok (.aload_n 0, 1) := by decide +kernel
theorem dX2_sum_61 : decode cX2_sum 61 = .ok (.getfield 11, 3) := by decide +kernel
theorem dX2_sum_64 : decode cX2_sum 64 = .ok (.iload_n 1, 1) := by decide +kernel
theorem dX2_sum_65 : decode cX2_sum 65 = .ok (.aaload, 1) := by decide +kernel
theorem dX2_sum_66 : decode cX2_sum 66 = .ok (.iload 6, 2) := by decide +kernel
theorem dX2_sum_68 : decode cX2_sum 68 = .ok (.iaload, 1) := by decide +kernel
theorem dX2_sum_69 : decode cX2_sum 69 = .ok (.i2l, 1) := by decide +kernel
theorem dX2_sum_70 : decode cX2_sum 70 = .ok (.aload_n 0, 1) := by decide +kernel
theorem dX2_sum_71 : decode cX2_sum 71 = .ok (.getfield 11, 3) := by decide +kernel
theorem dX2_sum_74 : decode cX2_sum 74 = .ok (.iload_n 2, 1) := by decide +kernel
theorem dX2_sum_75 : decode cX2_sum 75 = .ok (.aaload, 1) := by decide +kernel
theorem dX2_sum_76 : decode cX2_sum 76 = .ok (.iload_n 3, 1) := by decide +kernel
theorem dX2_sum_77 : decode cX2_sum 77 = .ok (.ifCond .eq 15, 3) := by decide +kernel
theorem dX2_sum_80 : decode cX2_sum 80 = .ok (.iload 6, 2) := by decide +kernel
theorem dX2_sum_82 : decode cX2_sum 82 = .ok (.ineg, 1) := by decide +kernel
theorem dX2_sum_83 : decode cX2_sum 83 = .ok (.i2l, 1) := by decide +kernel
theorem dX2_sum_84 : decode cX2_sum 84 = .ok (.iload 4, 2) := by decide +kernel
theorem dX2_sum_86 : decode cX2_sum 86 = .ok (.invokestatic 46, 3) := by decide +kernel
theorem dX2_sum_89 : decode cX2_sum 89 = .ok (.goto 5, 3) := by decide +kernel
theorem dX2_sum_92 : decode cX2_sum 92 = .ok (.iload 6, 2) := by decide +kernel
theorem dX2_sum_94 : decode cX2_sum 94 = .ok (.iaload, 1) := by decide +kernel
theorem dX2_sum_95 : decode cX2_sum 95 = .ok (.i2l, 1) := by decide +kernel
theorem dX2_sum_96 : decode cX2_sum 96 = .ok (.iload 5, 2) := by decide +kernel
theorem dX2_sum_98 : decode cX2_sum 98 = .ok (.invokestatic 42, 3) := by decide +kernel
theorem dX2_sum_101 : decode cX2_sum 101 = .ok (.istore 5, 2) := by decide +kernel
theorem dX2_sum_103 : decode cX2_sum 103 = .ok (.iinc 6 1, 3) := by decide +kernel
theorem dX2_sum_106 : decode cX2_sum 106 = .ok (.goto (-53), 3) := by decide +kernel
theorem dX2_sum_109 : decode cX2_sum 109 = .ok (.iload 5, 2) := by decide +kernel
theorem dX2_sum_111 : decode cX2_sum 111 = .ok (.ireturn, 1) := by decide +kernel
set_option maxRecDepth 20000 in
theorem ggX2_mean_X2_lacks : GoodIn wsX2_mean wsX2_lacks := goodIn_r _ [7, 8, 9, 6, 10, 11, 12, 13, 14, 15, 16, 17, 18, 19, 20, 21] (by decide +kernel) (by decide +kernel)
set_option maxRecDepth 20000 in
theorem gX2_mean_X2_lacks : GoodIn wsX2_mean (wsV RX2 70 RX2 yX2_lacks wsX2_lacks) := goodIn_app (goodIn_of _ (by decide +kernel)) ggX2_mean_X2_lacks
theorem dX2_mean_0 : decode cX2_mean 0 = .ok (.aload_n 0, 1) := by decide +kernel
theorem dX2_mean_1 : decode cX2_mean 1 = .ok (.iload_n 1, 1) := by decide +kernel
theorem dX2_mean_2 : decode cX2_mean 2 = .ok (.invokevirtual 70, 3) := by decide +kernel
theorem dX2_mean_5 : decode cX2_mean 5 = .ok (.ifCond .eq 5, 3) := by decide +kernel
theorem dX2_mean_8 : decode cX2_mean 8 = .ok (.dconst 0, 1) := by decide +kernel
theorem dX2_mean_9 : decode cX2_mean 9 = .ok (.dreturn, 1) := by decide +kernel
theorem dX2_mean_10 : decode cX2_mean 10 = .ok (.iconst 0, 1) := by decide +kernel
theorem dX2_mean_11 : decode cX2_mean 11 = .ok (.istore_n 2, 1) := by decide +kernel
theorem dX2_mean_12 : decode cX2_mean 12 = .ok (.iconst 0, 1) := by decide +kernel
theorem dX2_mean_13 : decode cX2_mean 13 = .ok (.istore_n 3, 1) := by decide +kernel
theorem dX2_mean_14 : decode cX2_mean 14 = .ok (.iload_n 3, 1) := by decide +kernel
theorem dX2_mean_15 : decode cX2_mean 15 = .ok (.aload_n 0, 1) := by decide +kernel
theorem dX2_mean_16 : decode cX2_mean 16 = .ok (.getfield 14, 3) := by decide +kernel
theorem dX2_mean_19 : decode cX2_mean 19 = .ok (.iload_n 1, 1) := by decide +kernel
theorem dX2_mean_20 : decode cX2_mean 20 = .ok (.iaload, 1) := by decide +kernel
theorem dX2_mean_21 : decode cX2_mean 21 = .ok (.if_icmp .ge 20, 3) := by decide +kernel
theorem dX2_mean_24 : decode cX2_mean 24 = .ok (.iload_n 2, 1) := by decide +kernel
theorem dX2_mean_25 : decode cX2_mean 25 = .ok (.aload_n 0, 1) := by decide +kernel
theorem dX2_mean_26 : decode cX2_mean 26 = .ok (.getfield 11, 3) := by decide +kernel
theorem dX2_mean_29 : decode cX2_mean 29 = .ok (.iload_n 1, 1) := by decide +kernel
theorem dX2_mean_30 : decode cX2_mean 30 = .ok (.aaload, 1) := by decide +kernel
theorem dX2_mean_31 : decode cX2_mean 31 = .ok (.iload_n 3, 1) := by decide +kernel
theorem dX2_mean_32 : decode cX2_mean 32 = .ok (.iaload, 1) := by decide +kernel
theorem dX2_mean_33 : decode cX2_mean 33 = .ok (.iadd, 1) := by decide +kernel
theorem dX2_mean_34 : decode cX2_mean 34 = .ok (.istore_n 2, 1) := by decide +kernel
theorem dX2_mean_35 : decode cX2_mean 35 = .ok (.iinc 3 1, 3) := by decide +kernel
theorem dX2_mean_38 : decode cX2_mean 38 = .ok (.goto (-24), 3) := by decide +kernel
theorem dX2_mean_41 : decode cX2_mean 41 = .ok (.iload_n 2, 1) := by decide +kernel
theorem dX2_mean_42 : decode cX2_mean 42 = .ok (.i2d, 1) := by decide +kernel
theorem dX2_mean_43 : decode cX2_mean 43 = .ok (.aload_n 0, 1) := by decide +kernel
theorem dX2_mean_44 : decode cX2_mean 44 = .ok (.getfield 14, 3) := by decide +kernel
theorem dX2_mean_47 : decode cX2_mean 47 = .ok (.iload_n 1, 1) := by decide +kernel
theorem dX2_mean_48 : decode cX2_mean 48 = .ok (.iaload, 1) := by decide +kernel
theorem dX2_mean_49 : decode cX2_mean 49 = .ok (.i2d, 1) := by decide +kernel
theorem dX2_mean_50 : decode cX2_mean 50 = .ok (.ddiv, 1) := by decide +kernel
theorem dX2_mean_51 : decode cX2_mean 51 = .ok (.dreturn, 1) := by decide +kernel
set_option maxRecDepth 20000 in
theorem ggX2_zeros_X2_lacks : GoodIn wsX2_zeros wsX2_lacks := goodIn_r _ [6, 7, 8, 5, 9, 10, 11, 12, 13, 14, 20, 21, 22, 23, 24, 25] (by decide +kernel) (by decide +kernel)
set_option maxRecDepth 20000 in
theorem gX2_zeros_X2_lacks : GoodIn wsX2_zeros (wsV RX2 70 RX2 yX2_lacks wsX2_lacks) := goodIn_app (goodIn_of _ (by decide +kernel)) ggX2_zeros_X2_lacks
set_option maxRecDepth 20000 in
theorem ggX2_zeros_X2_zerosOf : GoodIn wsX2_zeros wsX2_zerosOf := goodIn_r _ [18, 1, 19, 20, 21, 22, 23, 24, 25] (by decide +kernel) (by decide +kernel)
set_option maxRecDepth 20000 in
theorem gX2_zeros_X2_zerosOf : GoodIn wsX2_zeros (wsV RX2 67 RX2 yX2_zerosOf wsX2_zerosOf) := goodIn_app (goodIn_of _ (by decide +kernel)) ggX2_zeros_X2_zerosOf
theorem dX2_zeros_0 : decode cX2_zeros 0 = .ok (.aload_n 0, 1) := by decide +kernel
theorem dX2_zeros_1 : decode cX2_zeros 1 = .ok (.iload_n 1, 1) := by decide +kernel
theorem dX2_zeros_2 : decode cX2_zeros 2 = .ok (.invokevirtual 70, 3) := by decide +kernel
theorem dX2_zeros_5 : decode cX2_zeros 5 = .ok (.ifCond .eq 7, 3) := by decide +kernel
theorem dX2_zeros_8 : decode cX2_zeros 8 = .ok (.fconst 0, 1) := by decide +kernel
theorem dX2_zeros_9 : decode cX2_zeros 9 = .ok (.goto 17, 3) := by decide +kernel
theorem dX2_zeros_12 : decode cX2_zeros 12 = .ok (.aload_n 0, 1) := by decide +kernel
theorem dX2_zeros_13 : decode cX2_zeros 13 = .ok (.iload_n 1, 1) := by decide +kernel
theorem dX2_zeros_14 : decode cX2_zeros 14 = .ok (.invokevirtual 67, 3) := by decide +kernel
theorem dX2_zeros_17 : decode cX2_zeros 17 = .ok (.i2f, 1) := by decide +kernel
theorem dX2_zeros_18 : decode cX2_zeros 18 = .ok (.aload_n 0, 1) := by decide +kernel
theorem dX2_zeros_19 : decode cX2_zeros 19 = .ok (.getfield 14, 3) := by decide +kernel
theorem dX2_zeros_22 : decode cX2_zeros 22 = .ok (.iload_n 1, 1) := by decide +kernel
theorem dX2_zeros_23 : decode cX2_zeros 23 = .ok (.iaload, 1) := by decide +kernel
theorem dX2_zeros_24 : decode cX2_zeros 24 = .ok (.i2f, 1) := by decide +kernel
theorem dX2_zeros_25 : decode cX2_zeros 25 = .ok (.fdiv, 1) := by decide +kernel
theorem dX2_zeros_26 : decode cX2_zeros 26 = .ok (.freturn, 1) := by decide +kernel
set_option maxRecDepth 20000 in
theorem ggX2_isBack_X2_lacks : GoodIn wsX2_isBack wsX2_lacks := goodIn_r _ [5, 6, 7, 4, 8, 9, 10, 11, 12, 13, 14, 15, 16, 17, 18, 19] (by decide +kernel) (by decide +kernel)
set_option maxRecDepth 20000 in
theorem gX2_isBack_X2_lacks : GoodIn wsX2_isBack (wsV RX2 70 RX2 yX2_lacks wsX2_lacks) := goodIn_app (goodIn_of _ (by decide +kernel)) ggX2_isBack_X2_lacks
theorem dX2_isBack_0 : decode cX2_isBack 0 = .ok (.aload_n 0, 1) := by decide +kernel
theorem dX2_isBack_1 : decode cX2_isBack 1 = .ok (.iload_n 1, 1) := by decide +kernel
theorem dX2_isBack_2 : decode cX2_isBack 2 = .ok (.invokevirtual 70, 3) := by decide +kernel
theorem dX2_isBack_5 : decode cX2_isBack 5 = .ok (.ifCond .ne 7, 3) := by decide +kernel
theorem dX2_isBack_8 : decode cX2_isBack 8 = .ok (.iconst 1, 1) := by decide +kernel
theorem dX2_isBack_9 : decode cX2_isBack 9 = .ok (.goto 4, 3) := by decide +kernel
theorem dX2_isBack_12 : decode cX2_isBack 12 = .ok (.iconst 0, 1) := by decide +kernel
theorem dX2_isBack_13 : decode cX2_isBack 13 = .ok (.ireturn, 1) := by decide +kernel
set_option maxRecDepth 20000 in
theorem ggX2_isProduct_X2_lacksTwo : GoodIn wsX2_isProduct wsX2_lacksTwo := goodIn_r _ [6, 7, 8, 5, 9, 10, 11, 12, 13, 14, 15, 16, 17, 18, 19, 20] (by decide +kernel) (by decide +kernel)
set_option maxRecDepth 20000 in
theorem gX2_isProduct_X2_lacksTwo : GoodIn wsX2_isProduct (wsV RX2 82 RX2 yX2_lacksTwo wsX2_lacksTwo) := goodIn_app (goodIn_of _ (by decide +kernel)) ggX2_isProduct_X2_lacksTwo
set_option maxRecDepth 20000 in
theorem ggX2_isProduct_X2_no : GoodIn wsX2_isProduct wsX2_no := goodIn_r _ [13, 14, 15, 16, 17, 18, 19, 20] (by decide +kernel) (by decide +kernel)
set_option maxRecDepth 20000 in
theorem gX2_isProduct_X2_no : GoodIn wsX2_isProduct (wsV RX2 35 RX2 yX2_no wsX2_no) := goodIn_app (goodIn_of _ (by decide +kernel)) ggX2_isProduct_X2_no
theorem dX2_isProduct_0 : decode cX2_isProduct 0 = .ok (.aload_n 0, 1) := by decide +kernel
theorem dX2_isProduct_1 : decode cX2_isProduct 1 = .ok (.iload_n 1, 1) := by decide +kernel
theorem dX2_isProduct_2 : decode cX2_isProduct 2 = .ok (.iload_n 2, 1) := by decide +kernel
theorem dX2_isProduct_3 : decode cX2_isProduct 3 = .ok (.invokevirtual 82, 3) := by decide +kernel
theorem dX2_isProduct_6 : decode cX2_isProduct 6 = .ok (.ifCond .ne 35, 3) := by decide +kernel
theorem dX2_isProduct_9 : decode cX2_isProduct 9 = .ok (.aload_n 0, 1) := by decide +kernel
theorem dX2_isProduct_10 : decode cX2_isProduct 10 = .ok (.aload_n 0, 1) := by decide +kernel
theorem dX2_isProduct_11 : decode cX2_isProduct 11 = .ok (.getfield 14, 3) := by decide +kernel
theorem dX2_isProduct_14 : decode cX2_isProduct 14 = .ok (.iload_n 1, 1) := by decide +kernel
theorem dX2_isProduct_15 : decode cX2_isProduct 15 = .ok (.iaload, 1) := by decide +kernel
theorem dX2_isProduct_16 : decode cX2_isProduct 16 = .ok (.aload_n 0, 1) := by decide +kernel
theorem dX2_isProduct_17 : decode cX2_isProduct 17 = .ok (.getfield 14, 3) := by decide +kernel
theorem dX2_isProduct_20 : decode cX2_isProduct 20 = .ok (.iload_n 2, 1) := by decide +kernel
theorem dX2_isProduct_21 : decode cX2_isProduct 21 = .ok (.iaload, 1) := by decide +kernel
theorem dX2_isProduct_22 : decode cX2_isProduct 22 = .ok (.if_icmp .ne 7, 3) := by decide +kernel
theorem dX2_isProduct_25 : decode cX2_isProduct 25 = .ok (.iconst 1, 1) := by decide +kernel
theorem dX2_isProduct_26 : decode cX2_isProduct 26 = .ok (.goto 4, 3) := by decide +kernel
theorem dX2_isProduct_29 : decode cX2_isProduct 29 = .ok (.iconst 0, 1) := by decide +kernel
theorem dX2_isProduct_30 : decode cX2_isProduct 30 = .ok (.iconst 2, 1) := by decide +kernel
theorem dX2_isProduct_31 : decode cX2_isProduct 31 = .ok (.invokevirtual 35, 3) := by decide +kernel
theorem dX2_isProduct_34 : decode cX2_isProduct 34 = .ok (.ifCond .ne 7, 3) := by decide +kernel
theorem dX2_isProduct_37 : decode cX2_isProduct 37 = .ok (.iconst 1, 1) := by decide +kernel
theorem dX2_isProduct_38 : decode cX2_isProduct 38 = .ok (.goto 4, 3) := by decide +kernel
theorem dX2_isProduct_41 : decode cX2_isProduct 41 = .ok (.iconst 0, 1) := by decide +kernel
theorem dX2_isProduct_42 : decode cX2_isProduct 42 = .ok (.ireturn, 1) := by decide +kernel
set_option maxRecDepth 20000 in
theorem ggX2_isPlain_X2_cannotBePlain : GoodIn wsX2_isPlain wsX2_cannotBePlain := goodIn_r _ [5, 6, 7, 8, 9, 4, 10, 11, 12, 13, 14, 15, 16, 17, 18, 19, 20, 21, 22, 23, 24] (by decide +kernel) (by decide +kernel)
set_option maxRecDepth 20000 in
theorem gX2_isPlain_X2_cannotBePlain : GoodIn wsX2_isPlain (wsV RX2 106 RX2 yX2_cannotBePlain wsX2_cannotBePlain) := goodIn_app (goodIn_of _ (by decide +kernel)) ggX2_isPlain_X2_cannotBePlain
theorem dX2_isPlain_0 : decode cX2_isPlain 0 = .ok (.aload_n 0, 1) := by decide +kernel
theorem dX2_isPlain_1 : decode cX2_isPlain 1 = .ok (.iload_n 1, 1) := by decide +kernel
theorem dX2_isPlain_2 : decode cX2_isPlain 2 = .ok (.iload_n 2, 1) := by decide +kernel
theorem dX2_isPlain_3 : decode cX2_isPlain 3 = .ok (.invokevirtual 106, 3) := by decide +kernel
theorem dX2_isPlain_6 : decode cX2_isPlain 6 = .ok (.ifCond .ne 7, 3) := by decide +kernel
theorem dX2_isPlain_9 : decode cX2_isPlain 9 = .ok (.iconst 1, 1) := by decide +kernel
theorem dX2_isPlain_10 : decode cX2_isPlain 10 = .ok (.goto 4, 3) := by decide +kernel
theorem dX2_isPlain_13 : decode cX2_isPlain 13 = .ok (.iconst 0, 1) := by decide +kernel
theorem dX2_isPlain_14 : decode cX2_isPlain 14 = .ok (.ireturn, 1) := by decide +kernel
set_option maxRecDepth 20000 in
theorem ggX2_isShifted_X2_lacks : GoodIn wsX2_isShifted wsX2_lacks := goodIn_r _ [5, 6, 7, 4, 8, 9, 10, 11, 12, 13, 14, 15, 16, 17, 18, 19] (by decide +kernel) (by decide +kernel)
set_option maxRecDepth 20000 in
theorem gX2_isShifted_X2_lacks : GoodIn wsX2_isShifted (wsV RX2 70 RX2 yX2_lacks wsX2_lacks) := goodIn_app (goodIn_of _ (by decide +kernel)) ggX2_isShifted_X2_lacks
theorem dX2_isShifted_0 : decode cX2_isShifted 0 = .ok (.aload_n 0, 1) := by decide +kernel
theorem dX2_isShifted_1 : decode cX2_isShifted 1 = .ok (.iload_n 1, 1) := by decide +kernel
theorem dX2_isShifted_2 : decode cX2_isShifted 2 = .ok (.invokevirtual 70, 3) := by decide +kernel
theorem dX2_isShifted_5 : decode cX2_isShifted 5 = .ok (.ifCond .ne 7, 3) := by decide +kernel
theorem dX2_isShifted_8 : decode cX2_isShifted 8 = .ok (.iconst 1, 1) := by decide +kernel
theorem dX2_isShifted_9 : decode cX2_isShifted 9 = .ok (.goto 4, 3) := by decide +kernel
theorem dX2_isShifted_12 : decode cX2_isShifted 12 = .ok (.iconst 0, 1) := by decide +kernel
theorem dX2_isShifted_13 : decode cX2_isShifted 13 = .ok (.ireturn, 1) := by decide +kernel
set_option maxRecDepth 20000 in
theorem ggX2_isSum_X2_lacksTwo : GoodIn wsX2_isSum wsX2_lacksTwo := goodIn_r _ [7, 8, 9, 6, 10, 11, 12, 13, 14, 15, 16, 17, 18, 19, 20, 21] (by decide +kernel) (by decide +kernel)
set_option maxRecDepth 20000 in
theorem gX2_isSum_X2_lacksTwo : GoodIn wsX2_isSum (wsV RX2 82 RX2 yX2_lacksTwo wsX2_lacksTwo) := goodIn_app (goodIn_of _ (by decide +kernel)) ggX2_isSum_X2_lacksTwo
set_option maxRecDepth 20000 in
theorem ggX2_isSum_X2_in : GoodIn wsX2_isSum wsX2_in := goodIn_r _ [10] (by decide +kernel) (by decide +kernel)
set_option maxRecDepth 20000 in
theorem gX2_isSum_X2_in : GoodIn wsX2_isSum (va_wsS RX2 31 yX2_in wsX2_in) := goodIn_app (goodIn_of _ (by decide +kernel)) ggX2_isSum_X2_in
set_option maxRecDepth 20000 in
theorem ggX2_isSum_X2_no : GoodIn wsX2_isSum wsX2_no := goodIn_r _ [14, 15, 16, 17, 18, 19, 20, 21] (by decide +kernel) (by decide +kernel)
set_option maxRecDepth 20000 in
theorem gX2_isSum_X2_no : GoodIn wsX2_isSum (wsV RX2 35 RX2 yX2_no wsX2_no) := goodIn_app (goodIn_of _ (by decide +kernel)) ggX2_isSum_X2_no
theorem dX2_isSum_0 : decode cX2_isSum 0 = .ok (.aload_n 0, 1) := by decide +kernel
theorem dX2_isSum_1 : decode cX2_isSum 1 = .ok (.iload_n 1, 1) := by decide +kernel
theorem dX2_isSum_2 : decode cX2_isSum 2 = .ok (.iload_n 2, 1) := by decide +kernel
theorem dX2_isSum_3 : decode cX2_isSum 3 = .ok (.invokevirtual 82, 3) := by decide +kernel
theorem dX2_isSum_6 : decode cX2_isSum 6 = .ok (.ifCond .ne 50, 3) := by decide +kernel
theorem dX2_isSum_9 : decode cX2_isSum 9 = .ok (.aload_n 0, 1) := by decide +kernel
theorem dX2_isSum_10 : decode cX2_isSum 10 = .ok (.iload_n 3, 1) := by decide +kernel
theorem dX2_isSum_11 : decode cX2_isSum 11 = .ok (.iconst 0, 1) := by decide +kernel
theorem dX2_isSum_12 : decode cX2_isSum 12 = .ok (.ldc 81, 2) := by decide +kernel
theorem dX2_isSum_14 : decode cX2_isSum 14 = .ok (.invokestatic 31, 3) := by decide +kernel
theorem dX2_isSum_17 : decode cX2_isSum 17 = .ok (.iconst 2, 1) := by decide +kernel
theorem dX2_isSum_18 : decode cX2_isSum 18 = .ok (.invokevirtual 35, 3) := by decide +kernel
theorem dX2_isSum_21 : decode cX2_isSum 21 = .ok (.ifCond .ne 35, 3) := by decide +kernel
theorem dX2_isSum_24 : decode cX2_isSum 24 = .ok (.aload_n 0, 1) := by decide +kernel
theorem dX2_isSum_25 : decode cX2_isSum 25 = .ok (.aload_n 0, 1) := by decide +kernel
theorem dX2_isSum_26 : decode cX2_isSum 26 = .ok (.getfield 14, 3) := by decide +kernel
theorem dX2_isSum_29 : decode cX2_isSum 29 = .ok (.iload_n 1, 1) := by decide +kernel
theorem dX2_isSum_30 : decode cX2_isSum 30 = .ok (.iaload, 1) := by decide +kernel
theorem dX2_isSum_31 : decode cX2_isSum 31 = .ok (.aload_n 0, 1) := by decide +kernel
theorem dX2_isSum_32 : decode cX2_isSum 32 = .ok (.getfield 14, 3) := by decide +kernel
theorem dX2_isSum_35 : decode cX2_isSum 35 = .ok (.iload_n 2, 1) := by decide +kernel
theorem dX2_isSum_36 : decode cX2_isSum 36 = .ok (.iaload, 1) := by decide +kernel
theorem dX2_isSum_37 : decode cX2_isSum 37 = .ok (.if_icmp .ne 7, 3) := by decide +kernel
theorem dX2_isSum_40 : decode cX2_isSum 40 = .ok (.iconst 1, 1) := by decide +kernel
theorem dX2_isSum_41 : decode cX2_isSum 41 = .ok (.goto 4, 3) := by decide +kernel
theorem dX2_isSum_44 : decode cX2_isSum 44 = .ok (.iconst 0, 1) := by decide +kernel
theorem dX2_isSum_45 : decode cX2_isSum 45 = .ok (.iconst 3, 1) := by decide +kernel
theorem dX2_isSum_46 : decode cX2_isSum 46 = .ok (.invokevirtual 35, 3) := by decide +kernel
theorem dX2_isSum_49 : decode cX2_isSum 49 = .ok (.ifCond .ne 7, 3) := by decide +kernel
theorem dX2_isSum_52 : decode cX2_isSum 52 = .ok (.iconst 1, 1) := by decide +kernel
theorem dX2_isSum_53 : decode cX2_isSum 53 = .ok (.goto 4, 3) := by decide +kernel
theorem dX2_isSum_56 : decode cX2_isSum 56 = .ok (.iconst 0, 1) := by decide +kernel
theorem dX2_isSum_57 : decode cX2_isSum 57 = .ok (.ireturn, 1) := by decide +kernel
set_option maxRecDepth 20000 in
theorem ggX2_isAgain_X2_cannotRepeat : GoodIn wsX2_isAgain wsX2_cannotRepeat := goodIn_r _ [5, 6, 7, 8, 9, 4, 10, 11, 12, 13, 14, 15, 16, 17, 18, 19, 20, 21, 22, 23, 24, 25, 26, 27] (by decide +kernel) (by decide +kernel)
set_option maxRecDepth 20000 in
theorem gX2_isAgain_X2_cannotRepeat : GoodIn wsX2_isAgain (wsV RX2 117 RX2 yX2_cannotRepeat wsX2_cannotRepeat) := goodIn_app (goodIn_of _ (by decide +kernel)) ggX2_isAgain_X2_cannotRepeat
theorem dX2_isAgain_0 : decode cX2_isAgain 0 = .ok (.aload_n 0, 1) := by decide +kernel
theorem dX2_isAgain_1 : decode cX2_isAgain 1 = .ok (.iload_n 1, 1) := by decide +kernel
theorem dX2_isAgain_2 : decode cX2_isAgain 2 = .ok (.iload_n 2, 1) := by decide +kernel
theorem dX2_isAgain_3 : decode cX2_isAgain 3 = .ok (.invokevirtual 117, 3) := by decide +kernel
theorem dX2_isAgain_6 : decode cX2_isAgain 6 = .ok (.ifCond .ne 7, 3) := by decide +kernel
theorem dX2_isAgain_9 : decode cX2_isAgain 9 = .ok (.iconst 1, 1) := by decide +kernel
theorem dX2_isAgain_10 : decode cX2_isAgain 10 = .ok (.goto 4, 3) := by decide +kernel
theorem dX2_isAgain_13 : decode cX2_isAgain 13 = .ok (.iconst 0, 1) := by decide +kernel
theorem dX2_isAgain_14 : decode cX2_isAgain 14 = .ok (.ireturn, 1) := by decide +kernel
set_option maxRecDepth 20000 in
theorem ggX2_isOwn_X2_lacks : GoodIn wsX2_isOwn wsX2_lacks := goodIn_r _ [5, 6, 7, 4, 8, 9, 10, 11, 12, 13, 14, 15, 16, 17, 18, 19] (by decide +kernel) (by decide +kernel)
set_option maxRecDepth 20000 in
theorem gX2_isOwn_X2_lacks : GoodIn wsX2_isOwn (wsV RX2 70 RX2 yX2_lacks wsX2_lacks) := goodIn_app (goodIn_of _ (by decide +kernel)) ggX2_isOwn_X2_lacks
theorem dX2_isOwn_0 : decode cX2_isOwn 0 = .ok (.aload_n 0, 1) := by decide +kernel
theorem dX2_isOwn_1 : decode cX2_isOwn 1 = .ok (.iload_n 1, 1) := by decide +kernel
theorem dX2_isOwn_2 : decode cX2_isOwn 2 = .ok (.invokevirtual 70, 3) := by decide +kernel
theorem dX2_isOwn_5 : decode cX2_isOwn 5 = .ok (.ifCond .ne 7, 3) := by decide +kernel
theorem dX2_isOwn_8 : decode cX2_isOwn 8 = .ok (.iconst 1, 1) := by decide +kernel
theorem dX2_isOwn_9 : decode cX2_isOwn 9 = .ok (.goto 4, 3) := by decide +kernel
theorem dX2_isOwn_12 : decode cX2_isOwn 12 = .ok (.iconst 0, 1) := by decide +kernel
theorem dX2_isOwn_13 : decode cX2_isOwn 13 = .ok (.ireturn, 1) := by decide +kernel
set_option maxRecDepth 20000 in
theorem ggX2_isInverse_X2_lacks : GoodIn wsX2_isInverse wsX2_lacks := goodIn_r _ [5, 6, 7, 4, 8, 9, 10, 11, 12, 13, 14, 15, 16, 17, 18, 19] (by decide +kernel) (by decide +kernel)
set_option maxRecDepth 20000 in
theorem gX2_isInverse_X2_lacks : GoodIn wsX2_isInverse (wsV RX2 70 RX2 yX2_lacks wsX2_lacks) := goodIn_app (goodIn_of _ (by decide +kernel)) ggX2_isInverse_X2_lacks
theorem dX2_isInverse_0 : decode cX2_isInverse 0 = .ok (.aload_n 0, 1) := by decide +kernel
theorem dX2_isInverse_1 : decode cX2_isInverse 1 = .ok (.iload_n 1, 1) := by decide +kernel
theorem dX2_isInverse_2 : decode cX2_isInverse 2 = .ok (.invokevirtual 70, 3) := by decide +kernel
theorem dX2_isInverse_5 : decode cX2_isInverse 5 = .ok (.ifCond .ne 7, 3) := by decide +kernel
theorem dX2_isInverse_8 : decode cX2_isInverse 8 = .ok (.iconst 1, 1) := by decide +kernel
theorem dX2_isInverse_9 : decode cX2_isInverse 9 = .ok (.goto 4, 3) := by decide +kernel
theorem dX2_isInverse_12 : decode cX2_isInverse 12 = .ok (.iconst 0, 1) := by decide +kernel
theorem dX2_isInverse_13 : decode cX2_isInverse 13 = .ok (.ireturn, 1) := by decide +kernel
theorem dX2_isSound_0 : decode cX2_isSound 0 = .ok (.iconst 1, 1) := by decide +kernel
theorem dX2_isSound_1 : decode cX2_isSound 1 = .ok (.ireturn, 1) := by decide +kernel
theorem dX2_checksum_0 : decode cX2_checksum 0 = .ok (.ldc2_w 120, 3) := by decide +kernel
theorem dX2_checksum_3 : decode cX2_checksum 3 = .ok (.aload_n 0, 1) := by decide +kernel
theorem dX2_checksum_4 : decode cX2_checksum 4 = .ok (.getfield 24, 3) := by decide +kernel
theorem dX2_checksum_7 : decode cX2_checksum 7 = .ok (.i2l, 1) := by decide +kernel
theorem dX2_checksum_8 : decode cX2_checksum 8 = .ok (.ladd, 1) := by decide +kernel
theorem dX2_checksum_9 : decode cX2_checksum 9 = .ok (.lstore_n 1, 1) := by decide +kernel
theorem dX2_checksum_10 : decode cX2_checksum 10 = .ok (.iconst 0, 1) := by decide +kernel
theorem dX2_checksum_11 : decode cX2_checksum 11 = .ok (.istore_n 3, 1) := by decide +kernel
theorem dX2_checksum_12 : decode cX2_checksum 12 = .ok (.iload_n 3, 1) := by decide +kernel
theorem dX2_checksum_13 : decode cX2_checksum 13 = .ok (.iconst 4, 1) := by decide +kernel
theorem dX2_checksum_14 : decode cX2_checksum 14 = .ok (.if_icmp .ge 60, 3) := by decide +kernel
theorem dX2_checksum_17 : decode cX2_checksum 17 = .ok (.ldc2_w 122, 3) := by decide +kernel
theorem dX2_checksum_20 : decode cX2_checksum 20 = .ok (.lload_n 1, 1) := by decide +kernel
theorem dX2_checksum_21 : decode cX2_checksum 21 = .ok (.lmul, 1) := by decide +kernel
theorem dX2_checksum_22 : decode cX2_checksum 22 = .ok (.aload_n 0, 1) := by decide +kernel
theorem dX2_checksum_23 : decode cX2_checksum 23 = .ok (.getfield 14, 3) := by decide +kernel
theorem dX2_checksum_26 : decode cX2_checksum 26 = .ok (.iload_n 3, 1) := by decide +kernel
theorem dX2_checksum_27 : decode cX2_checksum 27 = .ok (.iaload, 1) := by decide +kernel
theorem dX2_checksum_28 : decode cX2_checksum 28 = .ok (.i2l, 1) := by decide +kernel
theorem dX2_checksum_29 : decode cX2_checksum 29 = .ok (.ladd, 1) := by decide +kernel
theorem dX2_checksum_30 : decode cX2_checksum 30 = .ok (.lstore_n 1, 1) := by decide +kernel
theorem dX2_checksum_31 : decode cX2_checksum 31 = .ok (.iconst 0, 1) := by decide +kernel
theorem dX2_checksum_32 : decode cX2_checksum 32 = .ok (.istore 4, 2) := by decide +kernel
theorem dX2_checksum_34 : decode cX2_checksum 34 = .ok (.iload 4, 2) := by decide +kernel
theorem dX2_checksum_36 : decode cX2_checksum 36 = .ok (.aload_n 0, 1) := by decide +kernel
theorem dX2_checksum_37 : decode cX2_checksum 37 = .ok (.getfield 14, 3) := by decide +kernel
theorem dX2_checksum_40 : decode cX2_checksum 40 = .ok (.iload_n 3, 1) := by decide +kernel
theorem dX2_checksum_41 : decode cX2_checksum 41 = .ok (.iaload, 1) := by decide +kernel
theorem dX2_checksum_42 : decode cX2_checksum 42 = .ok (.if_icmp .ge 26, 3) := by decide +kernel
theorem dX2_checksum_45 : decode cX2_checksum 45 = .ok (.ldc2_w 122, 3) := by decide +kernel
theorem dX2_checksum_48 : decode cX2_checksum 48 = .ok (.lload_n 1, 1) := by decide +kernel
theorem dX2_checksum_49 : decode cX2_checksum 49 = .ok (.lmul, 1) := by decide +kernel
theorem dX2_checksum_50 : decode cX2_checksum 50 = .ok (.aload_n 0, 1) := by decide +kernel
theorem dX2_checksum_51 : decode cX2_checksum 51 = .ok (.getfield 11, 3) := by decide +kernel
theorem dX2_checksum_54 : decode cX2_checksum 54 = .ok (.iload_n 3, 1) := by decide +kernel
theorem dX2_checksum_55 : decode cX2_checksum 55 = .ok (.aaload, 1) := by decide +kernel
theorem dX2_checksum_56 : decode cX2_checksum 56 = .ok (.iload 4, 2) := by decide +kernel
theorem dX2_checksum_58 : decode cX2_checksum 58 = .ok (.iaload, 1) := by decide +kernel
theorem dX2_checksum_59 : decode cX2_checksum 59 = .ok (.i2l, 1) := by decide +kernel
theorem dX2_checksum_60 : decode cX2_checksum 60 = .ok (.ladd, 1) := by decide +kernel
theorem dX2_checksum_61 : decode cX2_checksum 61 = .ok (.lstore_n 1, 1) := by decide +kernel
theorem dX2_checksum_62 : decode cX2_checksum 62 = .ok (.iinc 4 1, 3) := by decide +kernel
theorem dX2_checksum_65 : decode cX2_checksum 65 = .ok (.goto (-31), 3) := by decide +kernel
theorem dX2_checksum_68 : decode cX2_checksum 68 = .ok (.iinc 3 1, 3) := by decide +kernel
theorem dX2_checksum_71 : decode cX2_checksum 71 = .ok (.goto (-59), 3) := by decide +kernel
theorem dX2_checksum_74 : decode cX2_checksum 74 = .ok (.lload_n 1, 1) := by decide +kernel
theorem dX2_checksum_75 : decode cX2_checksum 75 = .ok (.lreturn, 1) := by decide +kernel
