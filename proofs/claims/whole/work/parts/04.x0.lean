theorem dX0_init_0 : decode cX0_init 0 = .ok (.aload_n 0, 1) := by decide +kernel
theorem dX0_init_1 : decode cX0_init 1 = .ok (.invokespecial 3, 3) := by decide +kernel
theorem dX0_init_4 : decode cX0_init 4 = .ok (.aload_n 0, 1) := by decide +kernel
theorem dX0_init_5 : decode cX0_init 5 = .ok (.bipush 16, 2) := by decide +kernel
theorem dX0_init_7 : decode cX0_init 7 = .ok (.newarray .int, 2) := by decide +kernel
theorem dX0_init_9 : decode cX0_init 9 = .ok (.putfield 9, 3) := by decide +kernel
theorem dX0_init_12 : decode cX0_init 12 = .ok (.aload_n 0, 1) := by decide +kernel
theorem dX0_init_13 : decode cX0_init 13 = .ok (.iconst 2, 1) := by decide +kernel
theorem dX0_init_14 : decode cX0_init 14 = .ok (.putfield 15, 3) := by decide +kernel
theorem dX0_init_17 : decode cX0_init 17 = .ok (.return_, 1) := by decide +kernel
set_option maxRecDepth 20000 in
theorem ggX0_clear_J7_fill_53178 : GoodIn wsX0_clear wsJ7_fill_53178 := goodIn_r _ [6] (by decide +kernel) (by decide +kernel)
set_option maxRecDepth 20000 in
theorem gX0_clear_J7_fill_53178 : GoodIn wsX0_clear (va_wsS RX0 19 yJ7_fill_53178 wsJ7_fill_53178) := goodIn_app (goodIn_of _ (by decide +kernel)) ggX0_clear_J7_fill_53178
theorem dX0_clear_0 : decode cX0_clear 0 = .ok (.aload_n 0, 1) := by decide +kernel
theorem dX0_clear_1 : decode cX0_clear 1 = .ok (.iload_n 1, 1) := by decide +kernel
theorem dX0_clear_2 : decode cX0_clear 2 = .ok (.putfield 15, 3) := by decide +kernel
theorem dX0_clear_5 : decode cX0_clear 5 = .ok (.aload_n 0, 1) := by decide +kernel
theorem dX0_clear_6 : decode cX0_clear 6 = .ok (.getfield 9, 3) := by decide +kernel
theorem dX0_clear_9 : decode cX0_clear 9 = .ok (.iconst 0, 1) := by decide +kernel
theorem dX0_clear_10 : decode cX0_clear 10 = .ok (.invokestatic 19, 3) := by decide +kernel
theorem dX0_clear_13 : decode cX0_clear 13 = .ok (.return_, 1) := by decide +kernel
theorem dX0_take_0 : decode cX0_take 0 = .ok (.aload_n 0, 1) := by decide +kernel
theorem dX0_take_1 : decode cX0_take 1 = .ok (.aload_n 1, 1) := by decide +kernel
theorem dX0_take_2 : decode cX0_take 2 = .ok (.getfield 15, 3) := by decide +kernel
theorem dX0_take_5 : decode cX0_take 5 = .ok (.putfield 15, 3) := by decide +kernel
theorem dX0_take_8 : decode cX0_take 8 = .ok (.aload_n 1, 1) := by decide +kernel
theorem dX0_take_9 : decode cX0_take 9 = .ok (.getfield 9, 3) := by decide +kernel
theorem dX0_take_12 : decode cX0_take 12 = .ok (.iconst 0, 1) := by decide +kernel
theorem dX0_take_13 : decode cX0_take 13 = .ok (.aload_n 0, 1) := by decide +kernel
theorem dX0_take_14 : decode cX0_take 14 = .ok (.getfield 9, 3) := by decide +kernel
theorem dX0_take_17 : decode cX0_take 17 = .ok (.iconst 0, 1) := by decide +kernel
theorem dX0_take_18 : decode cX0_take 18 = .ok (.bipush 16, 2) := by decide +kernel
theorem dX0_take_20 : decode cX0_take 20 = .ok (.invokestatic 25, 3) := by decide +kernel
theorem dX0_take_23 : decode cX0_take 23 = .ok (.return_, 1) := by decide +kernel
theorem dX0_isLike_0 : decode cX0_isLike 0 = .ok (.aload_n 0, 1) := by decide +kernel
theorem dX0_isLike_1 : decode cX0_isLike 1 = .ok (.getfield 15, 3) := by decide +kernel
theorem dX0_isLike_4 : decode cX0_isLike 4 = .ok (.aload_n 1, 1) := by decide +kernel
theorem dX0_isLike_5 : decode cX0_isLike 5 = .ok (.getfield 15, 3) := by decide +kernel
theorem dX0_isLike_8 : decode cX0_isLike 8 = .ok (.if_icmp .eq 5, 3) := by decide +kernel
theorem dX0_isLike_11 : decode cX0_isLike 11 = .ok (.iconst 0, 1) := by decide +kernel
theorem dX0_isLike_12 : decode cX0_isLike 12 = .ok (.ireturn, 1) := by decide +kernel
theorem dX0_isLike_13 : decode cX0_isLike 13 = .ok (.iconst 0, 1) := by decide +kernel
theorem dX0_isLike_14 : decode cX0_isLike 14 = .ok (.istore_n 2, 1) := by decide +kernel
theorem dX0_isLike_15 : decode cX0_isLike 15 = .ok (.iload_n 2, 1) := by decide +kernel
theorem dX0_isLike_16 : decode cX0_isLike 16 = .ok (.aload_n 0, 1) := by decide +kernel
theorem dX0_isLike_17 : decode cX0_isLike 17 = .ok (.getfield 15, 3) := by decide +kernel
theorem dX0_isLike_20 : decode cX0_isLike 20 = .ok (.if_icmp .ge 26, 3) := by decide +kernel
theorem dX0_isLike_23 : decode cX0_isLike 23 = .ok (.aload_n 0, 1) := by decide +kernel
theorem dX0_isLike_24 : decode cX0_isLike 24 = .ok (.getfield 9, 3) := by decide +kernel
theorem dX0_isLike_27 : decode cX0_isLike 27 = .ok (.iload_n 2, 1) := by decide +kernel
theorem dX0_isLike_28 : decode cX0_isLike 28 = .ok (.iaload, 1) := by decide +kernel
theorem dX0_isLike_29 : decode cX0_isLike 29 = .ok (.aload_n 1, 1) := by decide +kernel
theorem dX0_isLike_30 : decode cX0_isLike 30 = .ok (.getfield 9, 3) := by decide +kernel
theorem dX0_isLike_33 : decode cX0_isLike 33 = .ok (.iload_n 2, 1) := by decide +kernel
theorem dX0_isLike_34 : decode cX0_isLike 34 = .ok (.iaload, 1) := by decide +kernel
theorem dX0_isLike_35 : decode cX0_isLike 35 = .ok (.if_icmp .eq 5, 3) := by decide +kernel
theorem dX0_isLike_38 : decode cX0_isLike 38 = .ok (.iconst 0, 1) := by decide +kernel
theorem dX0_isLike_39 : decode cX0_isLike 39 = .ok (.ireturn, 1) := by decide +kernel
theorem dX0_isLike_40 : decode cX0_isLike 40 = .ok (.iinc 2 1, 3) := by decide +kernel
theorem dX0_isLike_43 : decode cX0_isLike 43 = .ok (.goto (-28), 3) := by decide +kernel
theorem dX0_isLike_46 : decode cX0_isLike 46 = .ok (.iconst 1, 1) := by decide +kernel
theorem dX0_isLike_47 : decode cX0_isLike 47 = .ok (.ireturn, 1) := by decide +kernel
set_option maxRecDepth 20000 in
theorem ggX0_isInRange_X1_isNumber : GoodIn wsX0_isInRange wsX1_isNumber := goodIn_r _ [5, 6] (by decide +kernel) (by decide +kernel)
set_option maxRecDepth 20000 in
theorem gX0_isInRange_X1_isNumber_n31 : GoodIn wsX0_isInRange (wsX1_isNumber) := ggX0_isInRange_X1_isNumber
theorem dX0_isInRange_0 : decode cX0_isInRange 0 = .ok (.iconst 0, 1) := by decide +kernel
theorem dX0_isInRange_1 : decode cX0_isInRange 1 = .ok (.istore_n 1, 1) := by decide +kernel
theorem dX0_isInRange_2 : decode cX0_isInRange 2 = .ok (.iload_n 1, 1) := by decide +kernel
theorem dX0_isInRange_3 : decode cX0_isInRange 3 = .ok (.aload_n 0, 1) := by decide +kernel
theorem dX0_isInRange_4 : decode cX0_isInRange 4 = .ok (.getfield 15, 3) := by decide +kernel
theorem dX0_isInRange_7 : decode cX0_isInRange 7 = .ok (.if_icmp .ge 23, 3) := by decide +kernel
theorem dX0_isInRange_10 : decode cX0_isInRange 10 = .ok (.aload_n 0, 1) := by decide +kernel
theorem dX0_isInRange_11 : decode cX0_isInRange 11 = .ok (.getfield 9, 3) := by decide +kernel
theorem dX0_isInRange_14 : decode cX0_isInRange 14 = .ok (.iload_n 1, 1) := by decide +kernel
theorem dX0_isInRange_15 : decode cX0_isInRange 15 = .ok (.iaload, 1) := by decide +kernel
theorem dX0_isInRange_16 : decode cX0_isInRange 16 = .ok (.invokestatic 31, 3) := by decide +kernel
theorem dX0_isInRange_19 : decode cX0_isInRange 19 = .ok (.ifCond .ne 5, 3) := by decide +kernel
theorem dX0_isInRange_22 : decode cX0_isInRange 22 = .ok (.iconst 0, 1) := by decide +kernel
theorem dX0_isInRange_23 : decode cX0_isInRange 23 = .ok (.ireturn, 1) := by decide +kernel
theorem dX0_isInRange_24 : decode cX0_isInRange 24 = .ok (.iinc 1 1, 3) := by decide +kernel
theorem dX0_isInRange_27 : decode cX0_isInRange 27 = .ok (.goto (-25), 3) := by decide +kernel
theorem dX0_isInRange_30 : decode cX0_isInRange 30 = .ok (.iconst 1, 1) := by decide +kernel
theorem dX0_isInRange_31 : decode cX0_isInRange 31 = .ok (.ireturn, 1) := by decide +kernel
theorem dX0_countZeros_0 : decode cX0_countZeros 0 = .ok (.iconst 0, 1) := by decide +kernel
theorem dX0_countZeros_1 : decode cX0_countZeros 1 = .ok (.istore_n 1, 1) := by decide +kernel
theorem dX0_countZeros_2 : decode cX0_countZeros 2 = .ok (.iconst 0, 1) := by decide +kernel
theorem dX0_countZeros_3 : decode cX0_countZeros 3 = .ok (.istore_n 2, 1) := by decide +kernel
theorem dX0_countZeros_4 : decode cX0_countZeros 4 = .ok (.iload_n 2, 1) := by decide +kernel
theorem dX0_countZeros_5 : decode cX0_countZeros 5 = .ok (.aload_n 0, 1) := by decide +kernel
theorem dX0_countZeros_6 : decode cX0_countZeros 6 = .ok (.getfield 15, 3) := by decide +kernel
theorem dX0_countZeros_9 : decode cX0_countZeros 9 = .ok (.if_icmp .ge 21, 3) := by decide +kernel
theorem dX0_countZeros_12 : decode cX0_countZeros 12 = .ok (.aload_n 0, 1) := by decide +kernel
theorem dX0_countZeros_13 : decode cX0_countZeros 13 = .ok (.getfield 9, 3) := by decide +kernel
theorem dX0_countZeros_16 : decode cX0_countZeros 16 = .ok (.iload_n 2, 1) := by decide +kernel
theorem dX0_countZeros_17 : decode cX0_countZeros 17 = .ok (.iaload, 1) := by decide +kernel
theorem dX0_countZeros_18 : decode cX0_countZeros 18 = .ok (.ifCond .ne 6, 3) := by decide +kernel
theorem dX0_countZeros_21 : decode cX0_countZeros 21 = .ok (.iinc 1 1, 3) := by decide +kernel
theorem dX0_countZeros_24 : decode cX0_countZeros 24 = .ok (.iinc 2 1, 3) := by decide +kernel
theorem dX0_countZeros_27 : decode cX0_countZeros 27 = .ok (.goto (-23), 3) := by decide +kernel
theorem dX0_countZeros_30 : decode cX0_countZeros 30 = .ok (.iload_n 1, 1) := by decide +kernel
theorem dX0_countZeros_31 : decode cX0_countZeros 31 = .ok (.ireturn, 1) := by decide +kernel
theorem dX0_roundAt_0 : decode cX0_roundAt 0 = .ok (.aload_n 0, 1) := by decide +kernel
theorem dX0_roundAt_1 : decode cX0_roundAt 1 = .ok (.getfield 9, 3) := by decide +kernel
theorem dX0_roundAt_4 : decode cX0_roundAt 4 = .ok (.iload_n 1, 1) := by decide +kernel
theorem dX0_roundAt_5 : decode cX0_roundAt 5 = .ok (.aload_n 0, 1) := by decide +kernel
theorem dX0_roundAt_6 : decode cX0_roundAt 6 = .ok (.getfield 15, 3) := by decide +kernel
theorem dX0_roundAt_9 : decode cX0_roundAt 9 = .ok (.iconst 1, 1) := by decide +kernel
theorem dX0_roundAt_10 : decode cX0_roundAt 10 = .ok (.isub, 1) := by decide +kernel
theorem dX0_roundAt_11 : decode cX0_roundAt 11 = .ok (.iand, 1) := by decide +kernel
theorem dX0_roundAt_12 : decode cX0_roundAt 12 = .ok (.iaload, 1) := by decide +kernel
theorem dX0_roundAt_13 : decode cX0_roundAt 13 = .ok (.ireturn, 1) := by decide +kernel
set_option maxRecDepth 20000 in
theorem ggX0_comesAgain_X0_roundAt : GoodIn wsX0_comesAgain wsX0_roundAt := goodIn_r _ [7, 2, 1, 8, 9] (by decide +kernel) (by decide +kernel)
set_option maxRecDepth 20000 in
theorem gX0_comesAgain_X0_roundAt : GoodIn wsX0_comesAgain (wsV RX0 35 RX0 yX0_roundAt wsX0_roundAt) := goodIn_app (goodIn_of _ (by decide +kernel)) ggX0_comesAgain_X0_roundAt
theorem dX0_comesAgain_0 : decode cX0_comesAgain 0 = .ok (.iconst 0, 1) := by decide +kernel
theorem dX0_comesAgain_1 : decode cX0_comesAgain 1 = .ok (.istore_n 2, 1) := by decide +kernel
theorem dX0_comesAgain_2 : decode cX0_comesAgain 2 = .ok (.iload_n 2, 1) := by decide +kernel
theorem dX0_comesAgain_3 : decode cX0_comesAgain 3 = .ok (.aload_n 0, 1) := by decide +kernel
theorem dX0_comesAgain_4 : decode cX0_comesAgain 4 = .ok (.getfield 15, 3) := by decide +kernel
theorem dX0_comesAgain_7 : decode cX0_comesAgain 7 = .ok (.if_icmp .ge 27, 3) := by decide +kernel
theorem dX0_comesAgain_10 : decode cX0_comesAgain 10 = .ok (.aload_n 0, 1) := by decide +kernel
theorem dX0_comesAgain_11 : decode cX0_comesAgain 11 = .ok (.getfield 9, 3) := by decide +kernel
theorem dX0_comesAgain_14 : decode cX0_comesAgain 14 = .ok (.iload_n 2, 1) := by decide +kernel
theorem dX0_comesAgain_15 : decode cX0_comesAgain 15 = .ok (.iaload, 1) := by decide +kernel
theorem dX0_comesAgain_16 : decode cX0_comesAgain 16 = .ok (.aload_n 0, 1) := by decide +kernel
theorem dX0_comesAgain_17 : decode cX0_comesAgain 17 = .ok (.iload_n 2, 1) := by decide +kernel
theorem dX0_comesAgain_18 : decode cX0_comesAgain 18 = .ok (.iload_n 1, 1) := by decide +kernel
theorem dX0_comesAgain_19 : decode cX0_comesAgain 19 = .ok (.iadd, 1) := by decide +kernel
theorem dX0_comesAgain_20 : decode cX0_comesAgain 20 = .ok (.invokevirtual 35, 3) := by decide +kernel
theorem dX0_comesAgain_23 : decode cX0_comesAgain 23 = .ok (.if_icmp .eq 5, 3) := by decide +kernel
theorem dX0_comesAgain_26 : decode cX0_comesAgain 26 = .ok (.iconst 0, 1) := by decide +kernel
theorem dX0_comesAgain_27 : decode cX0_comesAgain 27 = .ok (.ireturn, 1) := by decide +kernel
theorem dX0_comesAgain_28 : decode cX0_comesAgain 28 = .ok (.iinc 2 1, 3) := by decide +kernel
theorem dX0_comesAgain_31 : decode cX0_comesAgain 31 = .ok (.goto (-29), 3) := by decide +kernel
theorem dX0_comesAgain_34 : decode cX0_comesAgain 34 = .ok (.iconst 1, 1) := by decide +kernel
theorem dX0_comesAgain_35 : decode cX0_comesAgain 35 = .ok (.ireturn, 1) := by decide +kernel
theorem dX0_isZeroOffMultiples_0 : decode cX0_isZeroOffMultiples 0 = .ok (.iconst 0, 1) := by decide +kernel
theorem dX0_isZeroOffMultiples_1 : decode cX0_isZeroOffMultiples 1 = .ok (.istore_n 2, 1) := by decide +kernel
theorem dX0_isZeroOffMultiples_2 : decode cX0_isZeroOffMultiples 2 = .ok (.iload_n 2, 1) := by decide +kernel
theorem dX0_isZeroOffMultiples_3 : decode cX0_isZeroOffMultiples 3 = .ok (.aload_n 0, 1) := by decide +kernel
theorem dX0_isZeroOffMultiples_4 : decode cX0_isZeroOffMultiples 4 = .ok (.getfield 15, 3) := by decide +kernel
theorem dX0_isZeroOffMultiples_7 : decode cX0_isZeroOffMultiples 7 = .ok (.if_icmp .ge 33, 3) := by decide +kernel
theorem dX0_isZeroOffMultiples_10 : decode cX0_isZeroOffMultiples 10 = .ok (.aload_n 0, 1) := by decide +kernel
theorem dX0_isZeroOffMultiples_11 : decode cX0_isZeroOffMultiples 11 = .ok (.getfield 9, 3) := by decide +kernel
theorem dX0_isZeroOffMultiples_14 : decode cX0_isZeroOffMultiples 14 = .ok (.iload_n 2, 1) := by decide +kernel
theorem dX0_isZeroOffMultiples_15 : decode cX0_isZeroOffMultiples 15 = .ok (.iaload, 1) := by decide +kernel
theorem dX0_isZeroOffMultiples_16 : decode cX0_isZeroOffMultiples 16 = .ok (.ifCond .eq 18, 3) := by decide +kernel
theorem dX0_isZeroOffMultiples_19 : decode cX0_isZeroOffMultiples 19 = .ok (.iload_n 2, 1) := by decide +kernel
theorem dX0_isZeroOffMultiples_20 : decode cX0_isZeroOffMultiples 20 = .ok (.iload_n 1, 1) := by decide +kernel
theorem dX0_isZeroOffMultiples_21 : decode cX0_isZeroOffMultiples 21 = .ok (.imul, 1) := by decide +kernel
theorem dX0_isZeroOffMultiples_22 : decode cX0_isZeroOffMultiples 22 = .ok (.aload_n 0, 1) := by decide +kernel
theorem dX0_isZeroOffMultiples_23 : decode cX0_isZeroOffMultiples 23 = .ok (.getfield 15, 3) := by decide +kernel
theorem dX0_isZeroOffMultiples_26 : decode cX0_isZeroOffMultiples 26 = .ok (.iconst 1, 1) := by decide +kernel
theorem dX0_isZeroOffMultiples_27 : decode cX0_isZeroOffMultiples 27 = .ok (.isub, 1) := by decide +kernel
theorem dX0_isZeroOffMultiples_28 : decode cX0_isZeroOffMultiples 28 = .ok (.iand, 1) := by decide +kernel
theorem dX0_isZeroOffMultiples_29 : decode cX0_isZeroOffMultiples 29 = .ok (.ifCond .eq 5, 3) := by decide +kernel
theorem dX0_isZeroOffMultiples_32 : decode cX0_isZeroOffMultiples 32 = .ok (.iconst 0, 1) := by decide +kernel
theorem dX0_isZeroOffMultiples_33 : decode cX0_isZeroOffMultiples 33 = .ok (.ireturn, 1) := by decide +kernel
theorem dX0_isZeroOffMultiples_34 : decode cX0_isZeroOffMultiples 34 = .ok (.iinc 2 1, 3) := by decide +kernel
theorem dX0_isZeroOffMultiples_37 : decode cX0_isZeroOffMultiples 37 = .ok (.goto (-35), 3) := by decide +kernel
theorem dX0_isZeroOffMultiples_40 : decode cX0_isZeroOffMultiples 40 = .ok (.iconst 1, 1) := by decide +kernel
theorem dX0_isZeroOffMultiples_41 : decode cX0_isZeroOffMultiples 41 = .ok (.ireturn, 1) := by decide +kernel
set_option maxRecDepth 20000 in
theorem ggX0_sumOfProducts_X0_roundAt : GoodIn wsX0_sumOfProducts wsX0_roundAt := goodIn_r _ [7, 2, 1, 12, 13] (by decide +kernel) (by decide +kernel)
set_option maxRecDepth 20000 in
theorem gX0_sumOfProducts_X0_roundAt : GoodIn wsX0_sumOfProducts (wsV RX0 35 RX0 yX0_roundAt wsX0_roundAt) := goodIn_app (goodIn_of _ (by decide +kernel)) ggX0_sumOfProducts_X0_roundAt
set_option maxRecDepth 20000 in
theorem ggX0_sumOfProducts_X1_reduced : GoodIn wsX0_sumOfProducts wsX1_reduced := goodIn_r _ [10, 11] (by decide +kernel) (by decide +kernel)
set_option maxRecDepth 20000 in
theorem gX0_sumOfProducts_X1_reduced_n39 : GoodIn wsX0_sumOfProducts (wsX1_reduced) := ggX0_sumOfProducts_X1_reduced
theorem dX0_sumOfProducts_0 : decode cX0_sumOfProducts 0 = .ok (.lconst 0, 1) := by decide +kernel
theorem dX0_sumOfProducts_1 : decode cX0_sumOfProducts 1 = .ok (.lstore_n 3, 1) := by decide +kernel
theorem dX0_sumOfProducts_2 : decode cX0_sumOfProducts 2 = .ok (.iconst 0, 1) := by decide +kernel
theorem dX0_sumOfProducts_3 : decode cX0_sumOfProducts 3 = .ok (.istore 5, 2) := by decide +kernel
theorem dX0_sumOfProducts_5 : decode cX0_sumOfProducts 5 = .ok (.iload 5, 2) := by decide +kernel
theorem dX0_sumOfProducts_7 : decode cX0_sumOfProducts 7 = .ok (.aload_n 0, 1) := by decide +kernel
theorem dX0_sumOfProducts_8 : decode cX0_sumOfProducts 8 = .ok (.getfield 15, 3) := by decide +kernel
theorem dX0_sumOfProducts_11 : decode cX0_sumOfProducts 11 = .ok (.if_icmp .ge 38, 3) := by decide +kernel
theorem dX0_sumOfProducts_14 : decode cX0_sumOfProducts 14 = .ok (.lload_n 3, 1) := by decide +kernel
theorem dX0_sumOfProducts_15 : decode cX0_sumOfProducts 15 = .ok (.aload_n 0, 1) := by decide +kernel
theorem dX0_sumOfProducts_16 : decode cX0_sumOfProducts 16 = .ok (.getfield 9, 3) := by decide +kernel
theorem dX0_sumOfProducts_19 : decode cX0_sumOfProducts 19 = .ok (.iload 5, 2) := by decide +kernel
theorem dX0_sumOfProducts_21 : decode cX0_sumOfProducts 21 = .ok (.iaload, 1) := by decide +kernel
theorem dX0_sumOfProducts_22 : decode cX0_sumOfProducts 22 = .ok (.i2l, 1) := by decide +kernel
theorem dX0_sumOfProducts_23 : decode cX0_sumOfProducts 23 = .ok (.aload_n 1, 1) := by decide +kernel
theorem dX0_sumOfProducts_24 : decode cX0_sumOfProducts 24 = .ok (.iload_n 2, 1) := by decide +kernel
theorem dX0_sumOfProducts_25 : decode cX0_sumOfProducts 25 = .ok (.ifCond .eq 9, 3) := by decide +kernel
theorem dX0_sumOfProducts_28 : decode cX0_sumOfProducts 28 = .ok (.iload 5, 2) := by decide +kernel
theorem dX0_sumOfProducts_30 : decode cX0_sumOfProducts 30 = .ok (.ineg, 1) := by decide +kernel
theorem dX0_sumOfProducts_31 : decode cX0_sumOfProducts 31 = .ok (.goto 5, 3) := by decide +kernel
theorem dX0_sumOfProducts_34 : decode cX0_sumOfProducts 34 = .ok (.iload 5, 2) := by decide +kernel
theorem dX0_sumOfProducts_36 : decode cX0_sumOfProducts 36 = .ok (.invokevirtual 35, 3) := by decide +kernel
theorem dX0_sumOfProducts_39 : decode cX0_sumOfProducts 39 = .ok (.i2l, 1) := by decide +kernel
theorem dX0_sumOfProducts_40 : decode cX0_sumOfProducts 40 = .ok (.lmul, 1) := by decide +kernel
theorem dX0_sumOfProducts_41 : decode cX0_sumOfProducts 41 = .ok (.ladd, 1) := by decide +kernel
theorem dX0_sumOfProducts_42 : decode cX0_sumOfProducts 42 = .ok (.lstore_n 3, 1) := by decide +kernel
theorem dX0_sumOfProducts_43 : decode cX0_sumOfProducts 43 = .ok (.iinc 5 1, 3) := by decide +kernel
theorem dX0_sumOfProducts_46 : decode cX0_sumOfProducts 46 = .ok (.goto (-41), 3) := by decide +kernel
theorem dX0_sumOfProducts_49 : decode cX0_sumOfProducts 49 = .ok (.lload_n 3, 1) := by decide +kernel
theorem dX0_sumOfProducts_50 : decode cX0_sumOfProducts 50 = .ok (.invokestatic 39, 3) := by decide +kernel
theorem dX0_sumOfProducts_53 : decode cX0_sumOfProducts 53 = .ok (.ireturn, 1) := by decide +kernel
theorem dX0_toldByDigits_0 : decode cX0_toldByDigits 0 = .ok (.lconst 0, 1) := by decide +kernel
theorem dX0_toldByDigits_1 : decode cX0_toldByDigits 1 = .ok (.lstore_n 1, 1) := by decide +kernel
theorem dX0_toldByDigits_2 : decode cX0_toldByDigits 2 = .ok (.iconst 0, 1) := by decide +kernel
theorem dX0_toldByDigits_3 : decode cX0_toldByDigits 3 = .ok (.istore_n 3, 1) := by decide +kernel
theorem dX0_toldByDigits_4 : decode cX0_toldByDigits 4 = .ok (.iload_n 3, 1) := by decide +kernel
theorem dX0_toldByDigits_5 : decode cX0_toldByDigits 5 = .ok (.aload_n 0, 1) := by decide +kernel
theorem dX0_toldByDigits_6 : decode cX0_toldByDigits 6 = .ok (.getfield 15, 3) := by decide +kernel
theorem dX0_toldByDigits_9 : decode cX0_toldByDigits 9 = .ok (.if_icmp .ge 23, 3) := by decide +kernel
theorem dX0_toldByDigits_12 : decode cX0_toldByDigits 12 = .ok (.lload_n 1, 1) := by decide +kernel
theorem dX0_toldByDigits_13 : decode cX0_toldByDigits 13 = .ok (.aload_n 0, 1) := by decide +kernel
theorem dX0_toldByDigits_14 : decode cX0_toldByDigits 14 = .ok (.getfield 9, 3) := by decide +kernel
theorem dX0_toldByDigits_17 : decode cX0_toldByDigits 17 = .ok (.iload_n 3, 1) := by decide +kernel
theorem dX0_toldByDigits_18 : decode cX0_toldByDigits 18 = .ok (.iaload, 1) := by decide +kernel
theorem dX0_toldByDigits_19 : decode cX0_toldByDigits 19 = .ok (.i2l, 1) := by decide +kernel
theorem dX0_toldByDigits_20 : decode cX0_toldByDigits 20 = .ok (.iconst 4, 1) := by decide +kernel
theorem dX0_toldByDigits_21 : decode cX0_toldByDigits 21 = .ok (.iload_n 3, 1) := by decide +kernel
theorem dX0_toldByDigits_22 : decode cX0_toldByDigits 22 = .ok (.imul, 1) := by decide +kernel
theorem dX0_toldByDigits_23 : decode cX0_toldByDigits 23 = .ok (.lshl, 1) := by decide +kernel
theorem dX0_toldByDigits_24 : decode cX0_toldByDigits 24 = .ok (.ladd, 1) := by decide +kernel
theorem dX0_toldByDigits_25 : decode cX0_toldByDigits 25 = .ok (.lstore_n 1, 1) := by decide +kernel
theorem dX0_toldByDigits_26 : decode cX0_toldByDigits 26 = .ok (.iinc 3 1, 3) := by decide +kernel
theorem dX0_toldByDigits_29 : decode cX0_toldByDigits 29 = .ok (.goto (-25), 3) := by decide +kernel
theorem dX0_toldByDigits_32 : decode cX0_toldByDigits 32 = .ok (.lload_n 1, 1) := by decide +kernel
theorem dX0_toldByDigits_33 : decode cX0_toldByDigits 33 = .ok (.lreturn, 1) := by decide +kernel
set_option maxRecDepth 20000 in
theorem ggX0_becomeDigits_X0_clear : GoodIn wsX0_becomeDigits wsX0_clear := goodIn_r _ [6, 7, 1, 8, 9, 10, 11, 12, 13] (by decide +kernel) (by decide +kernel)
set_option maxRecDepth 20000 in
theorem gX0_becomeDigits_X0_clear : GoodIn wsX0_becomeDigits (wsV RX0 43 RX0 yX0_clear wsX0_clear) := goodIn_app (goodIn_of _ (by decide +kernel)) ggX0_becomeDigits_X0_clear
theorem dX0_becomeDigits_0 : decode cX0_becomeDigits 0 = .ok (.aload_n 0, 1) := by decide +kernel
theorem dX0_becomeDigits_1 : decode cX0_becomeDigits 1 = .ok (.bipush 16, 2) := by decide +kernel
theorem dX0_becomeDigits_3 : decode cX0_becomeDigits 3 = .ok (.invokevirtual 43, 3) := by decide +kernel
theorem dX0_becomeDigits_6 : decode cX0_becomeDigits 6 = .ok (.iconst 0, 1) := by decide +kernel
theorem dX0_becomeDigits_7 : decode cX0_becomeDigits 7 = .ok (.istore_n 2, 1) := by decide +kernel
theorem dX0_becomeDigits_8 : decode cX0_becomeDigits 8 = .ok (.iload_n 2, 1) := by decide +kernel
theorem dX0_becomeDigits_9 : decode cX0_becomeDigits 9 = .ok (.bipush 8, 2) := by decide +kernel
theorem dX0_becomeDigits_11 : decode cX0_becomeDigits 11 = .ok (.if_icmp .ge 23, 3) := by decide +kernel
theorem dX0_becomeDigits_14 : decode cX0_becomeDigits 14 = .ok (.aload_n 0, 1) := by decide +kernel
theorem dX0_becomeDigits_15 : decode cX0_becomeDigits 15 = .ok (.getfield 9, 3) := by decide +kernel
theorem dX0_becomeDigits_18 : decode cX0_becomeDigits 18 = .ok (.iload_n 2, 1) := by decide +kernel
theorem dX0_becomeDigits_19 : decode cX0_becomeDigits 19 = .ok (.iload_n 1, 1) := by decide +kernel
theorem dX0_becomeDigits_20 : decode cX0_becomeDigits 20 = .ok (.iconst 4, 1) := by decide +kernel
theorem dX0_becomeDigits_21 : decode cX0_becomeDigits 21 = .ok (.iload_n 2, 1) := by decide +kernel
theorem dX0_becomeDigits_22 : decode cX0_becomeDigits 22 = .ok (.imul, 1) := by decide +kernel
theorem dX0_becomeDigits_23 : decode cX0_becomeDigits 23 = .ok (.iushr, 1) := by decide +kernel
theorem dX0_becomeDigits_24 : decode cX0_becomeDigits 24 = .ok (.bipush 15, 2) := by decide +kernel
theorem dX0_becomeDigits_26 : decode cX0_becomeDigits 26 = .ok (.iand, 1) := by decide +kernel
theorem dX0_becomeDigits_27 : decode cX0_becomeDigits 27 = .ok (.iastore, 1) := by decide +kernel
theorem dX0_becomeDigits_28 : decode cX0_becomeDigits 28 = .ok (.iinc 2 1, 3) := by decide +kernel
theorem dX0_becomeDigits_31 : decode cX0_becomeDigits 31 = .ok (.goto (-23), 3) := by decide +kernel
theorem dX0_becomeDigits_34 : decode cX0_becomeDigits 34 = .ok (.return_, 1) := by decide +kernel
set_option maxRecDepth 20000 in
theorem ggX0_becomeRingProduct_X0_clear : GoodIn wsX0_becomeRingProduct wsX0_clear := goodIn_r _ [7, 1, 2, 8, 9, 10, 11, 20, 21] (by decide +kernel) (by decide +kernel)
set_option maxRecDepth 20000 in
theorem gX0_becomeRingProduct_X0_clear : GoodIn wsX0_becomeRingProduct (wsV RX0 43 RX0 yX0_clear wsX0_clear) := goodIn_app (goodIn_of _ (by decide +kernel)) ggX0_becomeRingProduct_X0_clear
set_option maxRecDepth 20000 in
theorem ggX0_becomeRingProduct_X0_roundAt : GoodIn wsX0_becomeRingProduct wsX0_roundAt := goodIn_r _ [15, 2, 1, 20, 21] (by decide +kernel) (by decide +kernel)
set_option maxRecDepth 20000 in
theorem gX0_becomeRingProduct_X0_roundAt : GoodIn wsX0_becomeRingProduct (wsV RX0 35 RX0 yX0_roundAt wsX0_roundAt) := goodIn_app (goodIn_of _ (by decide +kernel)) ggX0_becomeRingProduct_X0_roundAt
set_option maxRecDepth 20000 in
theorem ggX0_becomeRingProduct_X1_reduced : GoodIn wsX0_becomeRingProduct wsX1_reduced := goodIn_r _ [18, 19] (by decide +kernel) (by decide +kernel)
set_option maxRecDepth 20000 in
theorem gX0_becomeRingProduct_X1_reduced_n39 : GoodIn wsX0_becomeRingProduct (wsX1_reduced) := ggX0_becomeRingProduct_X1_reduced
theorem dX0_becomeRingProduct_0 : decode cX0_becomeRingProduct 0 = .ok (.aload_n 0, 1) := by decide +kernel
theorem dX0_becomeRingProduct_1 : decode cX0_becomeRingProduct 1 = .ok (.aload_n 1, 1) := by decide +kernel
theorem dX0_becomeRingProduct_2 : decode cX0_becomeRingProduct 2 = .ok (.getfield 15, 3) := by decide +kernel
theorem dX0_becomeRingProduct_5 : decode cX0_becomeRingProduct 5 = .ok (.invokevirtual 43, 3) := by decide +kernel
theorem dX0_becomeRingProduct_8 : decode cX0_becomeRingProduct 8 = .ok (.iconst 0, 1) := by decide +kernel
theorem dX0_becomeRingProduct_9 : decode cX0_becomeRingProduct 9 = .ok (.istore_n 3, 1) := by decide +kernel
theorem dX0_becomeRingProduct_10 : decode cX0_becomeRingProduct 10 = .ok (.iload_n 3, 1) := by decide +kernel
theorem dX0_becomeRingProduct_11 : decode cX0_becomeRingProduct 11 = .ok (.aload_n 0, 1) := by decide +kernel
theorem dX0_becomeRingProduct_12 : decode cX0_becomeRingProduct 12 = .ok (.getfield 15, 3) := by decide +kernel
theorem dX0_becomeRingProduct_15 : decode cX0_becomeRingProduct 15 = .ok (.if_icmp .ge 64, 3) := by decide +kernel
theorem dX0_becomeRingProduct_18 : decode cX0_becomeRingProduct 18 = .ok (.lconst 0, 1) := by decide +kernel
theorem dX0_becomeRingProduct_19 : decode cX0_becomeRingProduct 19 = .ok (.lstore 4, 2) := by decide +kernel
theorem dX0_becomeRingProduct_21 : decode cX0_becomeRingProduct 21 = .ok (.iconst 0, 1) := by decide +kernel
theorem dX0_becomeRingProduct_22 : decode cX0_becomeRingProduct 22 = .ok (.istore 6, 2) := by decide +kernel
theorem dX0_becomeRingProduct_24 : decode cX0_becomeRingProduct 24 = .ok (.iload 6, 2) := by decide +kernel
theorem dX0_becomeRingProduct_26 : decode cX0_becomeRingProduct 26 = .ok (.aload_n 1, 1) := by decide +kernel
theorem dX0_becomeRingProduct_27 : decode cX0_becomeRingProduct 27 = .ok (.getfield 15, 3) := by decide +kernel
theorem dX0_becomeRingProduct_30 : decode cX0_becomeRingProduct 30 = .ok (.if_icmp .ge 32, 3) := by decide +kernel
theorem dX0_becomeRingProduct_33 : decode cX0_becomeRingProduct 33 = .ok (.lload 4, 2) := by decide +kernel
theorem dX0_becomeRingProduct_35 : decode cX0_becomeRingProduct 35 = .ok (.aload_n 1, 1) := by decide +kernel
theorem dX0_becomeRingProduct_36 : decode cX0_becomeRingProduct 36 = .ok (.getfield 9, 3) := by decide +kernel
theorem dX0_becomeRingProduct_39 : decode cX0_becomeRingProduct 39 = .ok (.iload 6, 2) := by decide +kernel
theorem dX0_becomeRingProduct_41 : decode cX0_becomeRingProduct 41 = .ok (.iaload, 1) := by decide +kernel
theorem dX0_becomeRingProduct_42 : decode cX0_becomeRingProduct 42 = .ok (.i2l, 1) := by decide +kernel
theorem dX0_becomeRingProduct_43 : decode cX0_becomeRingProduct 43 = .ok (.aload_n 2, 1) := by decide +kernel
theorem dX0_becomeRingProduct_44 : decode cX0_becomeRingProduct 44 = .ok (.iload_n 3, 1) := by decide +kernel
theorem dX0_becomeRingProduct_45 : decode cX0_becomeRingProduct 45 = .ok (.iload 6, 2) := by decide +kernel
theorem dX0_becomeRingProduct_47 : decode cX0_becomeRingProduct 47 = .ok (.isub, 1) := by decide +kernel
theorem dX0_becomeRingProduct_48 : decode cX0_becomeRingProduct 48 = .ok (.invokevirtual 35, 3) := by decide +kernel
theorem dX0_becomeRingProduct_51 : decode cX0_becomeRingProduct 51 = .ok (.i2l, 1) := by decide +kernel
theorem dX0_becomeRingProduct_52 : decode cX0_becomeRingProduct 52 = .ok (.lmul, 1) := by decide +kernel
theorem dX0_becomeRingProduct_53 : decode cX0_becomeRingProduct 53 = .ok (.ladd, 1) := by decide +kernel
theorem dX0_becomeRingProduct_54 : decode cX0_becomeRingProduct 54 = .ok (.lstore 4, 2) := by decide +kernel
theorem dX0_becomeRingProduct_56 : decode cX0_becomeRingProduct 56 = .ok (.iinc 6 1, 3) := by decide +kernel
theorem dX0_becomeRingProduct_59 : decode cX0_becomeRingProduct 59 = .ok (.goto (-35), 3) := by decide +kernel
theorem dX0_becomeRingProduct_62 : decode cX0_becomeRingProduct 62 = .ok (.aload_n 0, 1) := by decide +kernel
theorem dX0_becomeRingProduct_63 : decode cX0_becomeRingProduct 63 = .ok (.getfield 9, 3) := by decide +kernel
theorem dX0_becomeRingProduct_66 : decode cX0_becomeRingProduct 66 = .ok (.iload_n 3, 1) := by decide +kernel
theorem dX0_becomeRingProduct_67 : decode cX0_becomeRingProduct 67 = .ok (.lload 4, 2) := by decide +kernel
theorem dX0_becomeRingProduct_69 : decode cX0_becomeRingProduct 69 = .ok (.invokestatic 39, 3) := by decide +kernel
theorem dX0_becomeRingProduct_72 : decode cX0_becomeRingProduct 72 = .ok (.iastore, 1) := by decide +kernel
theorem dX0_becomeRingProduct_73 : decode cX0_becomeRingProduct 73 = .ok (.iinc 3 1, 3) := by decide +kernel
theorem dX0_becomeRingProduct_76 : decode cX0_becomeRingProduct 76 = .ok (.goto (-66), 3) := by decide +kernel
theorem dX0_becomeRingProduct_79 : decode cX0_becomeRingProduct 79 = .ok (.return_, 1) := by decide +kernel
set_option maxRecDepth 20000 in
theorem ggX0_becomePlainProduct_X0_clear : GoodIn wsX0_becomePlainProduct wsX0_clear := goodIn_r _ [7, 1, 2, 8, 9, 10, 11, 22, 23] (by decide +kernel) (by decide +kernel)
set_option maxRecDepth 20000 in
theorem gX0_becomePlainProduct_X0_clear : GoodIn wsX0_becomePlainProduct (wsV RX0 43 RX0 yX0_clear wsX0_clear) := goodIn_app (goodIn_of _ (by decide +kernel)) ggX0_becomePlainProduct_X0_clear
set_option maxRecDepth 20000 in
theorem ggX0_becomePlainProduct_X1_multiplied : GoodIn wsX0_becomePlainProduct wsX1_multiplied := goodIn_r _ [14, 15, 16, 13, 17, 18] (by decide +kernel) (by decide +kernel)
set_option maxRecDepth 20000 in
theorem gX0_becomePlainProduct_X1_multiplied_n47 : GoodIn wsX0_becomePlainProduct (wsX1_multiplied) := ggX0_becomePlainProduct_X1_multiplied
set_option maxRecDepth 20000 in
theorem ggX0_becomePlainProduct_X1_added : GoodIn wsX0_becomePlainProduct wsX1_added := goodIn_r _ [20, 21] (by decide +kernel) (by decide +kernel)
set_option maxRecDepth 20000 in
theorem gX0_becomePlainProduct_X1_added_n51 : GoodIn wsX0_becomePlainProduct (wsX1_added) := ggX0_becomePlainProduct_X1_added
theorem dX0_becomePlainProduct_0 : decode cX0_becomePlainProduct 0 = .ok (.aload_n 0, 1) := by decide +kernel
theorem dX0_becomePlainProduct_1 : decode cX0_becomePlainProduct 1 = .ok (.iconst 2, 1) := by decide +kernel
theorem dX0_becomePlainProduct_2 : decode cX0_becomePlainProduct 2 = .ok (.aload_n 1, 1) := by decide +kernel
theorem dX0_becomePlainProduct_3 : decode cX0_becomePlainProduct 3 = .ok (.getfield 15, 3) := by decide +kernel
theorem dX0_becomePlainProduct_6 : decode cX0_becomePlainProduct 6 = .ok (.imul, 1) := by decide +kernel
theorem dX0_becomePlainProduct_7 : decode cX0_becomePlainProduct 7 = .ok (.invokevirtual 43, 3) := by decide +kernel
theorem dX0_becomePlainProduct_10 : decode cX0_becomePlainProduct 10 = .ok (.iconst 0, 1) := by decide +kernel
theorem dX0_becomePlainProduct_11 : decode cX0_becomePlainProduct 11 = .ok (.istore_n 3, 1) := by decide +kernel
theorem dX0_becomePlainProduct_12 : decode cX0_becomePlainProduct 12 = .ok (.iload_n 3, 1) := by decide +kernel
theorem dX0_becomePlainProduct_13 : decode cX0_becomePlainProduct 13 = .ok (.aload_n 1, 1) := by decide +kernel
theorem dX0_becomePlainProduct_14 : decode cX0_becomePlainProduct 14 = .ok (.getfield 15, 3) := by decide +kernel
theorem dX0_becomePlainProduct_17 : decode cX0_becomePlainProduct 17 = .ok (.if_icmp .ge 64, 3) := by decide +kernel
theorem dX0_becomePlainProduct_20 : decode cX0_becomePlainProduct 20 = .ok (.iconst 0, 1) := by decide +kernel
theorem dX0_becomePlainProduct_21 : decode cX0_becomePlainProduct 21 = .ok (.istore 4, 2) := by decide +kernel
theorem dX0_becomePlainProduct_23 : decode cX0_becomePlainProduct 23 = .ok (.iload 4, 2) := by decide +kernel
theorem dX0_becomePlainProduct_25 : decode cX0_becomePlainProduct 25 = .ok (.aload_n 2, 1) := by decide +kernel
theorem dX0_becomePlainProduct_26 : decode cX0_becomePlainProduct 26 = .ok (.getfield 15, 3) := by decide +kernel
theorem dX0_becomePlainProduct_29 : decode cX0_becomePlainProduct 29 = .ok (.if_icmp .ge 46, 3) := by decide +kernel
theorem dX0_becomePlainProduct_32 : decode cX0_becomePlainProduct 32 = .ok (.aload_n 0, 1) := by decide +kernel
theorem dX0_becomePlainProduct_33 : decode cX0_becomePlainProduct 33 = .ok (.getfield 9, 3) := by decide +kernel
theorem dX0_becomePlainProduct_36 : decode cX0_becomePlainProduct 36 = .ok (.iload_n 3, 1) := by decide +kernel
theorem dX0_becomePlainProduct_37 : decode cX0_becomePlainProduct 37 = .ok (.iload 4, 2) := by decide +kernel
theorem dX0_becomePlainProduct_39 : decode cX0_becomePlainProduct 39 = .ok (.iadd, 1) := by decide +kernel
theorem dX0_becomePlainProduct_40 : decode cX0_becomePlainProduct 40 = .ok (.aload_n 0, 1) := by decide +kernel
theorem dX0_becomePlainProduct_41 : decode cX0_becomePlainProduct 41 = .ok (.getfield 9, 3) := by decide +kernel
theorem dX0_becomePlainProduct_44 : decode cX0_becomePlainProduct 44 = .ok (.iload_n 3, 1) := by decide +kernel
theorem dX0_becomePlainProduct_45 : decode cX0_becomePlainProduct 45 = .ok (.iload 4, 2) := by decide +kernel
theorem dX0_becomePlainProduct_47 : decode cX0_becomePlainProduct 47 = .ok (.iadd, 1) := by decide +kernel
theorem dX0_becomePlainProduct_48 : decode cX0_becomePlainProduct 48 = .ok (.iaload, 1) := by decide +kernel
theorem dX0_becomePlainProduct_49 : decode cX0_becomePlainProduct 49 = .ok (.aload_n 1, 1) := by decide +kernel
theorem dX0_becomePlainProduct_50 : decode cX0_becomePlainProduct 50 = .ok (.getfield 9, 3) := by decide +kernel
theorem dX0_becomePlainProduct_53 : decode cX0_becomePlainProduct 53 = .ok (.iload_n 3, 1) := by decide +kernel
theorem dX0_becomePlainProduct_54 : decode cX0_becomePlainProduct 54 = .ok (.iaload, 1) := by decide +kernel
theorem dX0_becomePlainProduct_55 : decode cX0_becomePlainProduct 55 = .ok (.aload_n 2, 1) := by decide +kernel
theorem dX0_becomePlainProduct_56 : decode cX0_becomePlainProduct 56 = .ok (.getfield 9, 3) := by decide +kernel
theorem dX0_becomePlainProduct_59 : decode cX0_becomePlainProduct 59 = .ok (.iload 4, 2) := by decide +kernel
theorem dX0_becomePlainProduct_61 : decode cX0_becomePlainProduct 61 = .ok (.iaload, 1) := by decide +kernel
theorem dX0_becomePlainProduct_62 : decode cX0_becomePlainProduct 62 = .ok (.invokestatic 47, 3) := by decide +kernel
theorem dX0_becomePlainProduct_65 : decode cX0_becomePlainProduct 65 = .ok (.invokestatic 51, 3) := by decide +kernel
theorem dX0_becomePlainProduct_68 : decode cX0_becomePlainProduct 68 = .ok (.iastore, 1) := by decide +kernel
theorem dX0_becomePlainProduct_69 : decode cX0_becomePlainProduct 69 = .ok (.iinc 4 1, 3) := by decide +kernel
theorem dX0_becomePlainProduct_72 : decode cX0_becomePlainProduct 72 = .ok (.goto (-49), 3) := by decide +kernel
theorem dX0_becomePlainProduct_75 : decode cX0_becomePlainProduct 75 = .ok (.iinc 3 1, 3) := by decide +kernel
theorem dX0_becomePlainProduct_78 : decode cX0_becomePlainProduct 78 = .ok (.goto (-66), 3) := by decide +kernel
theorem dX0_becomePlainProduct_81 : decode cX0_becomePlainProduct 81 = .ok (.return_, 1) := by decide +kernel
set_option maxRecDepth 20000 in
theorem ggX0_becomeLengthened_X0_clear : GoodIn wsX0_becomeLengthened wsX0_clear := goodIn_r _ [11, 1, 2, 12, 13, 14, 15, 16, 17] (by decide +kernel) (by decide +kernel)
set_option maxRecDepth 20000 in
theorem gX0_becomeLengthened_X0_clear : GoodIn wsX0_becomeLengthened (wsV RX0 43 RX0 yX0_clear wsX0_clear) := goodIn_app (goodIn_of _ (by decide +kernel)) ggX0_becomeLengthened_X0_clear
theorem dX0_becomeLengthened_0 : decode cX0_becomeLengthened 0 = .ok (.aload_n 0, 1) := by decide +kernel
theorem dX0_becomeLengthened_1 : decode cX0_becomeLengthened 1 = .ok (.iconst 2, 1) := by decide +kernel
theorem dX0_becomeLengthened_2 : decode cX0_becomeLengthened 2 = .ok (.aload_n 1, 1) := by decide +kernel
theorem dX0_becomeLengthened_3 : decode cX0_becomeLengthened 3 = .ok (.getfield 15, 3) := by decide +kernel
theorem dX0_becomeLengthened_6 : decode cX0_becomeLengthened 6 = .ok (.imul, 1) := by decide +kernel
theorem dX0_becomeLengthened_7 : decode cX0_becomeLengthened 7 = .ok (.invokevirtual 43, 3) := by decide +kernel
theorem dX0_becomeLengthened_10 : decode cX0_becomeLengthened 10 = .ok (.aload_n 1, 1) := by decide +kernel
theorem dX0_becomeLengthened_11 : decode cX0_becomeLengthened 11 = .ok (.getfield 9, 3) := by decide +kernel
theorem dX0_becomeLengthened_14 : decode cX0_becomeLengthened 14 = .ok (.iconst 0, 1) := by decide +kernel
theorem dX0_becomeLengthened_15 : decode cX0_becomeLengthened 15 = .ok (.aload_n 0, 1) := by decide +kernel
theorem dX0_becomeLengthened_16 : decode cX0_becomeLengthened 16 = .ok (.getfield 9, 3) := by decide +kernel
theorem dX0_becomeLengthened_19 : decode cX0_becomeLengthened 19 = .ok (.iconst 0, 1) := by decide +kernel
theorem dX0_becomeLengthened_20 : decode cX0_becomeLengthened 20 = .ok (.aload_n 1, 1) := by decide +kernel
theorem dX0_becomeLengthened_21 : decode cX0_becomeLengthened 21 = .ok (.getfield 15, 3) := by decide +kernel
theorem dX0_becomeLengthened_24 : decode cX0_becomeLengthened 24 = .ok (.invokestatic 25, 3) := by decide +kernel
theorem dX0_becomeLengthened_27 : decode cX0_becomeLengthened 27 = .ok (.return_, 1) := by decide +kernel
set_option maxRecDepth 20000 in
theorem ggX0_becomeEverySecond_X0_clear : GoodIn wsX0_becomeEverySecond wsX0_clear := goodIn_r _ [7, 1, 2, 8, 9, 10, 11, 12, 13] (by decide +kernel) (by decide +kernel)
set_option maxRecDepth 20000 in
theorem gX0_becomeEverySecond_X0_clear : GoodIn wsX0_becomeEverySecond (wsV RX0 43 RX0 yX0_clear wsX0_clear) := goodIn_app (goodIn_of _ (by decide +kernel)) ggX0_becomeEverySecond_X0_clear
theorem dX0_becomeEverySecond_0 : decode cX0_becomeEverySecond 0 = .ok (.aload_n 0, 1) := by decide +kernel
theorem dX0_becomeEverySecond_1 : decode cX0_becomeEverySecond 1 = .ok (.aload_n 1, 1) := by decide +kernel
theorem dX0_becomeEverySecond_2 : decode cX0_becomeEverySecond 2 = .ok (.getfield 15, 3) := by decide +kernel
theorem dX0_becomeEverySecond_5 : decode cX0_becomeEverySecond 5 = .ok (.iconst 2, 1) := by decide +kernel
theorem dX0_becomeEverySecond_6 : decode cX0_becomeEverySecond 6 = .ok (.idiv, 1) := by decide +kernel
theorem dX0_becomeEverySecond_7 : decode cX0_becomeEverySecond 7 = .ok (.invokevirtual 43, 3) := by decide +kernel
theorem dX0_becomeEverySecond_10 : decode cX0_becomeEverySecond 10 = .ok (.iconst 0, 1) := by decide +kernel
theorem dX0_becomeEverySecond_11 : decode cX0_becomeEverySecond 11 = .ok (.istore_n 3, 1) := by decide +kernel
theorem dX0_becomeEverySecond_12 : decode cX0_becomeEverySecond 12 = .ok (.iload_n 3, 1) := by decide +kernel
theorem dX0_becomeEverySecond_13 : decode cX0_becomeEverySecond 13 = .ok (.aload_n 0, 1) := by decide +kernel
theorem dX0_becomeEverySecond_14 : decode cX0_becomeEverySecond 14 = .ok (.getfield 15, 3) := by decide +kernel
theorem dX0_becomeEverySecond_17 : decode cX0_becomeEverySecond 17 = .ok (.if_icmp .ge 25, 3) := by decide +kernel
theorem dX0_becomeEverySecond_20 : decode cX0_becomeEverySecond 20 = .ok (.aload_n 0, 1) := by decide +kernel
theorem dX0_becomeEverySecond_21 : decode cX0_becomeEverySecond 21 = .ok (.getfield 9, 3) := by decide +kernel
theorem dX0_becomeEverySecond_24 : decode cX0_becomeEverySecond 24 = .ok (.iload_n 3, 1) := by decide +kernel
theorem dX0_becomeEverySecond_25 : decode cX0_becomeEverySecond 25 = .ok (.aload_n 1, 1) := by decide +kernel
theorem dX0_becomeEverySecond_26 : decode cX0_becomeEverySecond 26 = .ok (.getfield 9, 3) := by decide +kernel
theorem dX0_becomeEverySecond_29 : decode cX0_becomeEverySecond 29 = .ok (.iconst 2, 1) := by decide +kernel
theorem dX0_becomeEverySecond_30 : decode cX0_becomeEverySecond 30 = .ok (.iload_n 3, 1) := by decide +kernel
theorem dX0_becomeEverySecond_31 : decode cX0_becomeEverySecond 31 = .ok (.imul, 1) := by decide +kernel
theorem dX0_becomeEverySecond_32 : decode cX0_becomeEverySecond 32 = .ok (.iload_n 2, 1) := by decide +kernel
theorem dX0_becomeEverySecond_33 : decode cX0_becomeEverySecond 33 = .ok (.iadd, 1) := by decide +kernel
theorem dX0_becomeEverySecond_34 : decode cX0_becomeEverySecond 34 = .ok (.iaload, 1) := by decide +kernel
theorem dX0_becomeEverySecond_35 : decode cX0_becomeEverySecond 35 = .ok (.iastore, 1) := by decide +kernel
theorem dX0_becomeEverySecond_36 : decode cX0_becomeEverySecond 36 = .ok (.iinc 3 1, 3) := by decide +kernel
theorem dX0_becomeEverySecond_39 : decode cX0_becomeEverySecond 39 = .ok (.goto (-27), 3) := by decide +kernel
theorem dX0_becomeEverySecond_42 : decode cX0_becomeEverySecond 42 = .ok (.return_, 1) := by decide +kernel
set_option maxRecDepth 20000 in
theorem ggX0_becomeShifted_X0_clear : GoodIn wsX0_becomeShifted wsX0_clear := goodIn_r _ [7, 1, 2, 8, 9, 10, 11, 16, 17] (by decide +kernel) (by decide +kernel)
set_option maxRecDepth 20000 in
theorem gX0_becomeShifted_X0_clear : GoodIn wsX0_becomeShifted (wsV RX0 43 RX0 yX0_clear wsX0_clear) := goodIn_app (goodIn_of _ (by decide +kernel)) ggX0_becomeShifted_X0_clear
set_option maxRecDepth 20000 in
theorem ggX0_becomeShifted_X0_roundAt : GoodIn wsX0_becomeShifted wsX0_roundAt := goodIn_r _ [15, 2, 1, 16, 17] (by decide +kernel) (by decide +kernel)
set_option maxRecDepth 20000 in
theorem gX0_becomeShifted_X0_roundAt : GoodIn wsX0_becomeShifted (wsV RX0 35 RX0 yX0_roundAt wsX0_roundAt) := goodIn_app (goodIn_of _ (by decide +kernel)) ggX0_becomeShifted_X0_roundAt
theorem dX0_becomeShifted_0 : decode cX0_becomeShifted 0 = .ok (.aload_n 0, 1) := by decide +kernel
theorem dX0_becomeShifted_1 : decode cX0_becomeShifted 1 = .ok (.aload_n 1, 1) := by decide +kernel
theorem dX0_becomeShifted_2 : decode cX0_becomeShifted 2 = .ok (.getfield 15, 3) := by decide +kernel
theorem dX0_becomeShifted_5 : decode cX0_becomeShifted 5 = .ok (.invokevirtual 43, 3) := by decide +kernel
theorem dX0_becomeShifted_8 : decode cX0_becomeShifted 8 = .ok (.iconst 0, 1) := by decide +kernel
theorem dX0_becomeShifted_9 : decode cX0_becomeShifted 9 = .ok (.istore_n 3, 1) := by decide +kernel
theorem dX0_becomeShifted_10 : decode cX0_becomeShifted 10 = .ok (.iload_n 3, 1) := by decide +kernel
theorem dX0_becomeShifted_11 : decode cX0_becomeShifted 11 = .ok (.aload_n 0, 1) := by decide +kernel
theorem dX0_becomeShifted_12 : decode cX0_becomeShifted 12 = .ok (.getfield 15, 3) := by decide +kernel
theorem dX0_becomeShifted_15 : decode cX0_becomeShifted 15 = .ok (.if_icmp .ge 22, 3) := by decide +kernel
theorem dX0_becomeShifted_18 : decode cX0_becomeShifted 18 = .ok (.aload_n 0, 1) := by decide +kernel
theorem dX0_becomeShifted_19 : decode cX0_becomeShifted 19 = .ok (.getfield 9, 3) := by decide +kernel
theorem dX0_becomeShifted_22 : decode cX0_becomeShifted 22 = .ok (.iload_n 3, 1) := by decide +kernel
theorem dX0_becomeShifted_23 : decode cX0_becomeShifted 23 = .ok (.aload_n 1, 1) := by decide +kernel
theorem dX0_becomeShifted_24 : decode cX0_becomeShifted 24 = .ok (.iload_n 3, 1) := by decide +kernel
theorem dX0_becomeShifted_25 : decode cX0_becomeShifted 25 = .ok (.iload_n 2, 1) := by decide +kernel
theorem dX0_becomeShifted_26 : decode cX0_becomeShifted 26 = .ok (.isub, 1) := by decide +kernel
theorem dX0_becomeShifted_27 : decode cX0_becomeShifted 27 = .ok (.invokevirtual 35, 3) := by decide +kernel
theorem dX0_becomeShifted_30 : decode cX0_becomeShifted 30 = .ok (.iastore, 1) := by decide +kernel
theorem dX0_becomeShifted_31 : decode cX0_becomeShifted 31 = .ok (.iinc 3 1, 3) := by decide +kernel
theorem dX0_becomeShifted_34 : decode cX0_becomeShifted 34 = .ok (.goto (-24), 3) := by decide +kernel
theorem dX0_becomeShifted_37 : decode cX0_becomeShifted 37 = .ok (.return_, 1) := by decide +kernel
set_option maxRecDepth 20000 in
theorem ggX0_becomeTurned_X0_clear : GoodIn wsX0_becomeTurned wsX0_clear := goodIn_r _ [7, 1, 2, 8, 9, 10, 11, 16, 17] (by decide +kernel) (by decide +kernel)
set_option maxRecDepth 20000 in
theorem gX0_becomeTurned_X0_clear : GoodIn wsX0_becomeTurned (wsV RX0 43 RX0 yX0_clear wsX0_clear) := goodIn_app (goodIn_of _ (by decide +kernel)) ggX0_becomeTurned_X0_clear
set_option maxRecDepth 20000 in
theorem ggX0_becomeTurned_X0_roundAt : GoodIn wsX0_becomeTurned wsX0_roundAt := goodIn_r _ [15, 2, 1, 16, 17] (by decide +kernel) (by decide +kernel)
set_option maxRecDepth 20000 in
theorem gX0_becomeTurned_X0_roundAt : GoodIn wsX0_becomeTurned (wsV RX0 35 RX0 yX0_roundAt wsX0_roundAt) := goodIn_app (goodIn_of _ (by decide +kernel)) ggX0_becomeTurned_X0_roundAt
theorem dX0_becomeTurned_0 : decode cX0_becomeTurned 0 = .ok (.aload_n 0, 1) := by decide +kernel
theorem dX0_becomeTurned_1 : decode cX0_becomeTurned 1 = .ok (.aload_n 1, 1) := by decide +kernel
theorem dX0_becomeTurned_2 : decode cX0_becomeTurned 2 = .ok (.getfield 15, 3) := by decide +kernel
theorem dX0_becomeTurned_5 : decode cX0_becomeTurned 5 = .ok (.invokevirtual 43, 3) := by decide +kernel
theorem dX0_becomeTurned_8 : decode cX0_becomeTurned 8 = .ok (.iconst 0, 1) := by decide +kernel
theorem dX0_becomeTurned_9 : decode cX0_becomeTurned 9 = .ok (.istore_n 2, 1) := by decide +kernel
theorem dX0_becomeTurned_10 : decode cX0_becomeTurned 10 = .ok (.iload_n 2, 1) := by decide +kernel
theorem dX0_becomeTurned_11 : decode cX0_becomeTurned 11 = .ok (.aload_n 0, 1) := by decide +kernel
theorem dX0_becomeTurned_12 : decode cX0_becomeTurned 12 = .ok (.getfield 15, 3) := by decide +kernel
theorem dX0_becomeTurned_15 : decode cX0_becomeTurned 15 = .ok (.if_icmp .ge 21, 3) := by decide +kernel
theorem dX0_becomeTurned_18 : decode cX0_becomeTurned 18 = .ok (.aload_n 0, 1) := by decide +kernel
theorem dX0_becomeTurned_19 : decode cX0_becomeTurned 19 = .ok (.getfield 9, 3) := by decide +kernel
theorem dX0_becomeTurned_22 : decode cX0_becomeTurned 22 = .ok (.iload_n 2, 1) := by decide +kernel
theorem dX0_becomeTurned_23 : decode cX0_becomeTurned 23 = .ok (.aload_n 1, 1) := by decide +kernel
theorem dX0_becomeTurned_24 : decode cX0_becomeTurned 24 = .ok (.iload_n 2, 1) := by decide +kernel
theorem dX0_becomeTurned_25 : decode cX0_becomeTurned 25 = .ok (.ineg, 1) := by decide +kernel
theorem dX0_becomeTurned_26 : decode cX0_becomeTurned 26 = .ok (.invokevirtual 35, 3) := by decide +kernel
theorem dX0_becomeTurned_29 : decode cX0_becomeTurned 29 = .ok (.iastore, 1) := by decide +kernel
theorem dX0_becomeTurned_30 : decode cX0_becomeTurned 30 = .ok (.iinc 2 1, 3) := by decide +kernel
theorem dX0_becomeTurned_33 : decode cX0_becomeTurned 33 = .ok (.goto (-23), 3) := by decide +kernel
theorem dX0_becomeTurned_36 : decode cX0_becomeTurned 36 = .ok (.return_, 1) := by decide +kernel
set_option maxRecDepth 20000 in
theorem ggX0_becomeRepeated_X0_clear : GoodIn wsX0_becomeRepeated wsX0_clear := goodIn_r _ [7, 1, 2, 8, 9, 10, 11, 12, 13] (by decide +kernel) (by decide +kernel)
set_option maxRecDepth 20000 in
theorem gX0_becomeRepeated_X0_clear : GoodIn wsX0_becomeRepeated (wsV RX0 43 RX0 yX0_clear wsX0_clear) := goodIn_app (goodIn_of _ (by decide +kernel)) ggX0_becomeRepeated_X0_clear
theorem dX0_becomeRepeated_0 : decode cX0_becomeRepeated 0 = .ok (.aload_n 0, 1) := by decide +kernel
theorem dX0_becomeRepeated_1 : decode cX0_becomeRepeated 1 = .ok (.aload_n 1, 1) := by decide +kernel
theorem dX0_becomeRepeated_2 : decode cX0_becomeRepeated 2 = .ok (.getfield 15, 3) := by decide +kernel
theorem dX0_becomeRepeated_5 : decode cX0_becomeRepeated 5 = .ok (.invokevirtual 43, 3) := by decide +kernel
theorem dX0_becomeRepeated_8 : decode cX0_becomeRepeated 8 = .ok (.iconst 0, 1) := by decide +kernel
theorem dX0_becomeRepeated_9 : decode cX0_becomeRepeated 9 = .ok (.istore_n 3, 1) := by decide +kernel
theorem dX0_becomeRepeated_10 : decode cX0_becomeRepeated 10 = .ok (.iload_n 3, 1) := by decide +kernel
theorem dX0_becomeRepeated_11 : decode cX0_becomeRepeated 11 = .ok (.aload_n 0, 1) := by decide +kernel
theorem dX0_becomeRepeated_12 : decode cX0_becomeRepeated 12 = .ok (.getfield 15, 3) := by decide +kernel
theorem dX0_becomeRepeated_15 : decode cX0_becomeRepeated 15 = .ok (.if_icmp .ge 25, 3) := by decide +kernel
theorem dX0_becomeRepeated_18 : decode cX0_becomeRepeated 18 = .ok (.aload_n 0, 1) := by decide +kernel
theorem dX0_becomeRepeated_19 : decode cX0_becomeRepeated 19 = .ok (.getfield 9, 3) := by decide +kernel
theorem dX0_becomeRepeated_22 : decode cX0_becomeRepeated 22 = .ok (.iload_n 3, 1) := by decide +kernel
theorem dX0_becomeRepeated_23 : decode cX0_becomeRepeated 23 = .ok (.aload_n 1, 1) := by decide +kernel
theorem dX0_becomeRepeated_24 : decode cX0_becomeRepeated 24 = .ok (.getfield 9, 3) := by decide +kernel
theorem dX0_becomeRepeated_27 : decode cX0_becomeRepeated 27 = .ok (.iload_n 3, 1) := by decide +kernel
theorem dX0_becomeRepeated_28 : decode cX0_becomeRepeated 28 = .ok (.iload_n 2, 1) := by decide +kernel
theorem dX0_becomeRepeated_29 : decode cX0_becomeRepeated 29 = .ok (.iconst 1, 1) := by decide +kernel
theorem dX0_becomeRepeated_30 : decode cX0_becomeRepeated 30 = .ok (.isub, 1) := by decide +kernel
theorem dX0_becomeRepeated_31 : decode cX0_becomeRepeated 31 = .ok (.iand, 1) := by decide +kernel
theorem dX0_becomeRepeated_32 : decode cX0_becomeRepeated 32 = .ok (.iaload, 1) := by decide +kernel
theorem dX0_becomeRepeated_33 : decode cX0_becomeRepeated 33 = .ok (.iastore, 1) := by decide +kernel
theorem dX0_becomeRepeated_34 : decode cX0_becomeRepeated 34 = .ok (.iinc 3 1, 3) := by decide +kernel
theorem dX0_becomeRepeated_37 : decode cX0_becomeRepeated 37 = .ok (.goto (-27), 3) := by decide +kernel
theorem dX0_becomeRepeated_40 : decode cX0_becomeRepeated 40 = .ok (.return_, 1) := by decide +kernel
set_option maxRecDepth 20000 in
theorem ggX0_becomeScaled_X1_multiplied : GoodIn wsX0_becomeScaled wsX1_multiplied := goodIn_r _ [5, 6, 7, 4, 8, 9] (by decide +kernel) (by decide +kernel)
set_option maxRecDepth 20000 in
theorem gX0_becomeScaled_X1_multiplied_n47 : GoodIn wsX0_becomeScaled (wsX1_multiplied) := ggX0_becomeScaled_X1_multiplied
theorem dX0_becomeScaled_0 : decode cX0_becomeScaled 0 = .ok (.aload_n 0, 1) := by decide +kernel
theorem dX0_becomeScaled_1 : decode cX0_becomeScaled 1 = .ok (.aload_n 1, 1) := by decide +kernel
theorem dX0_becomeScaled_2 : decode cX0_becomeScaled 2 = .ok (.getfield 15, 3) := by decide +kernel
theorem dX0_becomeScaled_5 : decode cX0_becomeScaled 5 = .ok (.putfield 15, 3) := by decide +kernel
theorem dX0_becomeScaled_8 : decode cX0_becomeScaled 8 = .ok (.iconst 0, 1) := by decide +kernel
theorem dX0_becomeScaled_9 : decode cX0_becomeScaled 9 = .ok (.istore_n 3, 1) := by decide +kernel
theorem dX0_becomeScaled_10 : decode cX0_becomeScaled 10 = .ok (.iload_n 3, 1) := by decide +kernel
theorem dX0_becomeScaled_11 : decode cX0_becomeScaled 11 = .ok (.aload_n 0, 1) := by decide +kernel
theorem dX0_becomeScaled_12 : decode cX0_becomeScaled 12 = .ok (.getfield 15, 3) := by decide +kernel
theorem dX0_becomeScaled_15 : decode cX0_becomeScaled 15 = .ok (.if_icmp .ge 25, 3) := by decide +kernel
theorem dX0_becomeScaled_18 : decode cX0_becomeScaled 18 = .ok (.aload_n 0, 1) := by decide +kernel
theorem dX0_becomeScaled_19 : decode cX0_becomeScaled 19 = .ok (.getfield 9, 3) := by decide +kernel
theorem dX0_becomeScaled_22 : decode cX0_becomeScaled 22 = .ok (.iload_n 3, 1) := by decide +kernel
theorem dX0_becomeScaled_23 : decode cX0_becomeScaled 23 = .ok (.aload_n 1, 1) := by decide +kernel
theorem dX0_becomeScaled_24 : decode cX0_becomeScaled 24 = .ok (.getfield 9, 3) := by decide +kernel
theorem dX0_becomeScaled_27 : decode cX0_becomeScaled 27 = .ok (.iload_n 3, 1) := by decide +kernel
theorem dX0_becomeScaled_28 : decode cX0_becomeScaled 28 = .ok (.iaload, 1) := by decide +kernel
theorem dX0_becomeScaled_29 : decode cX0_becomeScaled 29 = .ok (.iload_n 2, 1) := by decide +kernel
theorem dX0_becomeScaled_30 : decode cX0_becomeScaled 30 = .ok (.invokestatic 47, 3) := by decide +kernel
theorem dX0_becomeScaled_33 : decode cX0_becomeScaled 33 = .ok (.iastore, 1) := by decide +kernel
theorem dX0_becomeScaled_34 : decode cX0_becomeScaled 34 = .ok (.iinc 3 1, 3) := by decide +kernel
theorem dX0_becomeScaled_37 : decode cX0_becomeScaled 37 = .ok (.goto (-27), 3) := by decide +kernel
theorem dX0_becomeScaled_40 : decode cX0_becomeScaled 40 = .ok (.return_, 1) := by decide +kernel
set_option maxRecDepth 20000 in
theorem ggX0_becomeSums_X1_added : GoodIn wsX0_becomeSums wsX1_added := goodIn_r _ [5, 6] (by decide +kernel) (by decide +kernel)
set_option maxRecDepth 20000 in
theorem gX0_becomeSums_X1_added_n51 : GoodIn wsX0_becomeSums (wsX1_added) := ggX0_becomeSums_X1_added
theorem dX0_becomeSums_0 : decode cX0_becomeSums 0 = .ok (.aload_n 0, 1) := by decide +kernel
theorem dX0_becomeSums_1 : decode cX0_becomeSums 1 = .ok (.aload_n 1, 1) := by decide +kernel
theorem dX0_becomeSums_2 : decode cX0_becomeSums 2 = .ok (.getfield 15, 3) := by decide +kernel
theorem dX0_becomeSums_5 : decode cX0_becomeSums 5 = .ok (.putfield 15, 3) := by decide +kernel
theorem dX0_becomeSums_8 : decode cX0_becomeSums 8 = .ok (.iconst 0, 1) := by decide +kernel
theorem dX0_becomeSums_9 : decode cX0_becomeSums 9 = .ok (.istore_n 3, 1) := by decide +kernel
theorem dX0_becomeSums_10 : decode cX0_becomeSums 10 = .ok (.iload_n 3, 1) := by decide +kernel
theorem dX0_becomeSums_11 : decode cX0_becomeSums 11 = .ok (.aload_n 0, 1) := by decide +kernel
theorem dX0_becomeSums_12 : decode cX0_becomeSums 12 = .ok (.getfield 15, 3) := by decide +kernel
theorem dX0_becomeSums_15 : decode cX0_becomeSums 15 = .ok (.if_icmp .ge 30, 3) := by decide +kernel
theorem dX0_becomeSums_18 : decode cX0_becomeSums 18 = .ok (.aload_n 0, 1) := by decide +kernel
theorem dX0_becomeSums_19 : decode cX0_becomeSums 19 = .ok (.getfield 9, 3) := by decide +kernel
theorem dX0_becomeSums_22 : decode cX0_becomeSums 22 = .ok (.iload_n 3, 1) := by decide +kernel
theorem dX0_becomeSums_23 : decode cX0_becomeSums 23 = .ok (.aload_n 1, 1) := by decide +kernel
theorem dX0_becomeSums_24 : decode cX0_becomeSums 24 = .ok (.getfield 9, 3) := by decide +kernel
theorem dX0_becomeSums_27 : decode cX0_becomeSums 27 = .ok (.iload_n 3, 1) := by decide +kernel
theorem dX0_becomeSums_28 : decode cX0_becomeSums 28 = .ok (.iaload, 1) := by decide +kernel
theorem dX0_becomeSums_29 : decode cX0_becomeSums 29 = .ok (.aload_n 2, 1) := by decide +kernel
theorem dX0_becomeSums_30 : decode cX0_becomeSums 30 = .ok (.getfield 9, 3) := by decide +kernel
theorem dX0_becomeSums_33 : decode cX0_becomeSums 33 = .ok (.iload_n 3, 1) := by decide +kernel
theorem dX0_becomeSums_34 : decode cX0_becomeSums 34 = .ok (.iaload, 1) := by decide +kernel
theorem dX0_becomeSums_35 : decode cX0_becomeSums 35 = .ok (.invokestatic 51, 3) := by decide +kernel
theorem dX0_becomeSums_38 : decode cX0_becomeSums 38 = .ok (.iastore, 1) := by decide +kernel
theorem dX0_becomeSums_39 : decode cX0_becomeSums 39 = .ok (.iinc 3 1, 3) := by decide +kernel
theorem dX0_becomeSums_42 : decode cX0_becomeSums 42 = .ok (.goto (-32), 3) := by decide +kernel
theorem dX0_becomeSums_45 : decode cX0_becomeSums 45 = .ok (.return_, 1) := by decide +kernel
set_option maxRecDepth 20000 in
theorem ggX0_becomeDifferences_X1_lessened : GoodIn wsX0_becomeDifferences wsX1_lessened := goodIn_r _ [5, 6] (by decide +kernel) (by decide +kernel)
set_option maxRecDepth 20000 in
theorem gX0_becomeDifferences_X1_lessened_n54 : GoodIn wsX0_becomeDifferences (wsX1_lessened) := ggX0_becomeDifferences_X1_lessened
theorem dX0_becomeDifferences_0 : decode cX0_becomeDifferences 0 = .ok (.aload_n 0, 1) := by decide +kernel
theorem dX0_becomeDifferences_1 : decode cX0_becomeDifferences 1 = .ok (.aload_n 1, 1) := by decide +kernel
theorem dX0_becomeDifferences_2 : decode cX0_becomeDifferences 2 = .ok (.getfield 15, 3) := by decide +kernel
theorem dX0_becomeDifferences_5 : decode cX0_becomeDifferences 5 = .ok (.putfield 15, 3) := by decide +kernel
theorem dX0_becomeDifferences_8 : decode cX0_becomeDifferences 8 = .ok (.iconst 0, 1) := by decide +kernel
theorem dX0_becomeDifferences_9 : decode cX0_becomeDifferences 9 = .ok (.istore_n 3, 1) := by decide +kernel
theorem dX0_becomeDifferences_10 : decode cX0_becomeDifferences 10 = .ok (.iload_n 3, 1) := by decide +kernel
theorem dX0_becomeDifferences_11 : decode cX0_becomeDifferences 11 = .ok (.aload_n 0, 1) := by decide +kernel
theorem dX0_becomeDifferences_12 : decode cX0_becomeDifferences 12 = .ok (.getfield 15, 3) := by decide +kernel
theorem dX0_becomeDifferences_15 : decode cX0_becomeDifferences 15 = .ok (.if_icmp .ge 30, 3) := by decide +kernel
theorem dX0_becomeDifferences_18 : decode cX0_becomeDifferences 18 = .ok (.aload_n 0, 1) := by decide +kernel
theorem dX0_becomeDifferences_19 : decode cX0_becomeDifferences 19 = .ok (.getfield 9, 3) := by decide +kernel
theorem dX0_becomeDifferences_22 : decode cX0_becomeDifferences 22 = .ok (.iload_n 3, 1) := by decide +kernel
theorem dX0_becomeDifferences_23 : decode cX0_becomeDifferences 23 = .ok (.aload_n 1, 1) := by decide +kernel
theorem dX0_becomeDifferences_24 : decode cX0_becomeDifferences 24 = .ok (.getfield 9, 3) := by decide +kernel
theorem dX0_becomeDifferences_27 : decode cX0_becomeDifferences 27 = .ok (.iload_n 3, 1) := by decide +kernel
theorem dX0_becomeDifferences_28 : decode cX0_becomeDifferences 28 = .ok (.iaload, 1) := by decide +kernel
theorem dX0_becomeDifferences_29 : decode cX0_becomeDifferences 29 = .ok (.aload_n 2, 1) := by decide +kernel
theorem dX0_becomeDifferences_30 : decode cX0_becomeDifferences 30 = .ok (.getfield 9, 3) := by decide +kernel
theorem dX0_becomeDifferences_33 : decode cX0_becomeDifferences 33 = .ok (.iload_n 3, 1) := by decide +kernel
theorem dX0_becomeDifferences_34 : decode cX0_becomeDifferences 34 = .ok (.iaload, 1) := by decide +kernel
theorem dX0_becomeDifferences_35 : decode cX0_becomeDifferences 35 = .ok (.invokestatic 54, 3) := by decide +kernel
theorem dX0_becomeDifferences_38 : decode cX0_becomeDifferences 38 = .ok (.iastore, 1) := by decide +kernel
theorem dX0_becomeDifferences_39 : decode cX0_becomeDifferences 39 = .ok (.iinc 3 1, 3) := by decide +kernel
theorem dX0_becomeDifferences_42 : decode cX0_becomeDifferences 42 = .ok (.goto (-32), 3) := by decide +kernel
theorem dX0_becomeDifferences_45 : decode cX0_becomeDifferences 45 = .ok (.return_, 1) := by decide +kernel
set_option maxRecDepth 20000 in
theorem ggX0_becomeProducts_X1_multiplied : GoodIn wsX0_becomeProducts wsX1_multiplied := goodIn_r _ [5, 6, 7, 4, 8, 9] (by decide +kernel) (by decide +kernel)
set_option maxRecDepth 20000 in
theorem gX0_becomeProducts_X1_multiplied_n47 : GoodIn wsX0_becomeProducts (wsX1_multiplied) := ggX0_becomeProducts_X1_multiplied
theorem dX0_becomeProducts_0 : decode cX0_becomeProducts 0 = .ok (.aload_n 0, 1) := by decide +kernel
theorem dX0_becomeProducts_1 : decode cX0_becomeProducts 1 = .ok (.aload_n 1, 1) := by decide +kernel
theorem dX0_becomeProducts_2 : decode cX0_becomeProducts 2 = .ok (.getfield 15, 3) := by decide +kernel
theorem dX0_becomeProducts_5 : decode cX0_becomeProducts 5 = .ok (.putfield 15, 3) := by decide +kernel
theorem dX0_becomeProducts_8 : decode cX0_becomeProducts 8 = .ok (.iconst 0, 1) := by decide +kernel
theorem dX0_becomeProducts_9 : decode cX0_becomeProducts 9 = .ok (.istore_n 3, 1) := by decide +kernel
theorem dX0_becomeProducts_10 : decode cX0_becomeProducts 10 = .ok (.iload_n 3, 1) := by decide +kernel
theorem dX0_becomeProducts_11 : decode cX0_becomeProducts 11 = .ok (.aload_n 0, 1) := by decide +kernel
theorem dX0_becomeProducts_12 : decode cX0_becomeProducts 12 = .ok (.getfield 15, 3) := by decide +kernel
theorem dX0_becomeProducts_15 : decode cX0_becomeProducts 15 = .ok (.if_icmp .ge 30, 3) := by decide +kernel
theorem dX0_becomeProducts_18 : decode cX0_becomeProducts 18 = .ok (.aload_n 0, 1) := by decide +kernel
theorem dX0_becomeProducts_19 : decode cX0_becomeProducts 19 = .ok (.getfield 9, 3) := by decide +kernel
theorem dX0_becomeProducts_22 : decode cX0_becomeProducts 22 = .ok (.iload_n 3, 1) := by decide +kernel
theorem dX0_becomeProducts_23 : decode cX0_becomeProducts 23 = .ok (.aload_n 1, 1) := by decide +kernel
theorem dX0_becomeProducts_24 : decode cX0_becomeProducts 24 = .ok (.getfield 9, 3) := by decide +kernel
theorem dX0_becomeProducts_27 : decode cX0_becomeProducts 27 = .ok (.iload_n 3, 1) := by decide +kernel
theorem dX0_becomeProducts_28 : decode cX0_becomeProducts 28 = .ok (.iaload, 1) := by decide +kernel
theorem dX0_becomeProducts_29 : decode cX0_becomeProducts 29 = .ok (.aload_n 2, 1) := by decide +kernel
theorem dX0_becomeProducts_30 : decode cX0_becomeProducts 30 = .ok (.getfield 9, 3) := by decide +kernel
theorem dX0_becomeProducts_33 : decode cX0_becomeProducts 33 = .ok (.iload_n 3, 1) := by decide +kernel
theorem dX0_becomeProducts_34 : decode cX0_becomeProducts 34 = .ok (.iaload, 1) := by decide +kernel
theorem dX0_becomeProducts_35 : decode cX0_becomeProducts 35 = .ok (.invokestatic 47, 3) := by decide +kernel
theorem dX0_becomeProducts_38 : decode cX0_becomeProducts 38 = .ok (.iastore, 1) := by decide +kernel
theorem dX0_becomeProducts_39 : decode cX0_becomeProducts 39 = .ok (.iinc 3 1, 3) := by decide +kernel
theorem dX0_becomeProducts_42 : decode cX0_becomeProducts 42 = .ok (.goto (-32), 3) := by decide +kernel
theorem dX0_becomeProducts_45 : decode cX0_becomeProducts 45 = .ok (.return_, 1) := by decide +kernel
