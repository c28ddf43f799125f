theorem dX4_existingPack_1 : decode cX4_existingPack 1 = .ok (.ifCond .lt 20, 3) := by decide +kernel
theorem dX4_existingPack_4 : decode cX4_existingPack 4 = .ok (.iload_n 1, 1) := by decide +kernel
theorem dX4_existingPack_5 : decode cX4_existingPack 5 = .ok (.aload_n 0, 1) := by decide +kernel
theorem dX4_existingPack_6 : decode cX4_existingPack 6 = .ok (.getfield 25, 3) := by decide +kernel
theorem dX4_existingPack_9 : decode cX4_existingPack 9 = .ok (.if_icmp .ge 12, 3) := by decide +kernel
theorem dX4_existingPack_12 : decode cX4_existingPack 12 = .ok (.aload_n 0, 1) := by decide +kernel
theorem dX4_existingPack_13 : decode cX4_existingPack 13 = .ok (.getfield 17, 3) := by decide +kernel
theorem dX4_existingPack_16 : decode cX4_existingPack 16 = .ok (.iload_n 1, 1) := by decide +kernel
theorem dX4_existingPack_17 : decode cX4_existingPack 17 = .ok (.aaload, 1) := by decide +kernel
theorem dX4_existingPack_18 : decode cX4_existingPack 18 = .ok (.ifnonnull 13, 3) := by decide +kernel
theorem dX4_existingPack_21 : decode cX4_existingPack 21 = .ok (.new 123, 3) := by decide +kernel
theorem dX4_existingPack_24 : decode cX4_existingPack 24 = .ok (.dup, 1) := by decide +kernel
theorem dX4_existingPack_25 : decode cX4_existingPack 25 = .ok (.ldc 163, 2) := by decide +kernel
theorem dX4_existingPack_27 : decode cX4_existingPack 27 = .ok (.invokespecial 127, 3) := by decide +kernel
theorem dX4_existingPack_30 : decode cX4_existingPack 30 = .ok (.athrow, 1) := by decide +kernel
theorem dX4_existingPack_31 : decode cX4_existingPack 31 = .ok (.aload_n 0, 1) := by decide +kernel
theorem dX4_existingPack_32 : decode cX4_existingPack 32 = .ok (.getfield 17, 3) := by decide +kernel
theorem dX4_existingPack_35 : decode cX4_existingPack 35 = .ok (.iload_n 1, 1) := by decide +kernel
theorem dX4_existingPack_36 : decode cX4_existingPack 36 = .ok (.aaload, 1) := by decide +kernel
theorem dX4_existingPack_37 : decode cX4_existingPack 37 = .ok (.areturn, 1) := by decide +kernel
set_option maxRecDepth 20000 in
theorem ggX4_existingStay_X4_existingPack : GoodIn wsX4_existingStay wsX4_existingPack := goodIn_ca (goodIn_r _ [5, 6, 7, 8, 9, 23, 24, 25, 26, 27, 28] (by decide +kernel) (by decide +kernel)) (goodIn_sub (fun _ h => List.mem_cons_of_mem _ (List.mem_append_left _ (List.mem_append_right _ h))) (by decide +kernel))
set_option maxRecDepth 20000 in
theorem gX4_existingStay_X4_existingPack : GoodIn wsX4_existingStay (wsV RX4 64 RX4 yX4_existingPack wsX4_existingPack) := goodIn_app (goodIn_of _ (by decide +kernel)) ggX4_existingStay_X4_existingPack
set_option maxRecDepth 20000 in
theorem ggX4_existingStay_X4_existingTitle : GoodIn wsX4_existingStay wsX4_existingTitle := goodIn_ca (goodIn_r _ [13, 6, 7, 14, 15, 23, 24, 25, 26, 27, 28] (by decide +kernel) (by decide +kernel)) (goodIn_sub (fun _ h => List.mem_cons_of_mem _ (List.mem_append_left _ (List.mem_append_right _ h))) (by decide +kernel))
set_option maxRecDepth 20000 in
theorem gX4_existingStay_X4_existingTitle : GoodIn wsX4_existingStay (wsV RX4 48 RX4 yX4_existingTitle wsX4_existingTitle) := goodIn_app (goodIn_of _ (by decide +kernel)) ggX4_existingStay_X4_existingTitle
set_option maxRecDepth 20000 in
theorem ggX4_existingStay_X2_stayOf : GoodIn wsX4_existingStay wsX2_stayOf := goodIn_ca (goodIn_r _ [20, 21, 7, 22, 29, 30, 31, 32, 33, 34] (by decide +kernel) (by decide +kernel)) (goodIn_sub (fun _ h => List.mem_cons_of_mem _ (List.mem_append_right _ h)) (by decide +kernel))
set_option maxRecDepth 20000 in
theorem gX4_existingStay_X2_stayOf : GoodIn wsX4_existingStay (wsV RX4 165 RX2 yX2_stayOf wsX2_stayOf) := goodIn_app (goodIn_of _ (by decide +kernel)) ggX4_existingStay_X2_stayOf
theorem dX4_existingStay_0 : decode cX4_existingStay 0 = .ok (.aload_n 0, 1) := by decide +kernel
theorem dX4_existingStay_1 : decode cX4_existingStay 1 = .ok (.iload_n 1, 1) := by decide +kernel
theorem dX4_existingStay_2 : decode cX4_existingStay 2 = .ok (.invokevirtual 64, 3) := by decide +kernel
theorem dX4_existingStay_5 : decode cX4_existingStay 5 = .ok (.astore_n 3, 1) := by decide +kernel
theorem dX4_existingStay_6 : decode cX4_existingStay 6 = .ok (.aload_n 0, 1) := by decide +kernel
theorem dX4_existingStay_7 : decode cX4_existingStay 7 = .ok (.iload_n 2, 1) := by decide +kernel
theorem dX4_existingStay_8 : decode cX4_existingStay 8 = .ok (.invokevirtual 48, 3) := by decide +kernel
theorem dX4_existingStay_11 : decode cX4_existingStay 11 = .ok (.pop, 1) := by decide +kernel
theorem dX4_existingStay_12 : decode cX4_existingStay 12 = .ok (.aload_n 3, 1) := by decide +kernel
theorem dX4_existingStay_13 : decode cX4_existingStay 13 = .ok (.iload_n 2, 1) := by decide +kernel
theorem dX4_existingStay_14 : decode cX4_existingStay 14 = .ok (.invokevirtual 165, 3) := by decide +kernel
theorem dX4_existingStay_17 : decode cX4_existingStay 17 = .ok (.areturn, 1) := by decide +kernel
set_option maxRecDepth 20000 in
theorem ggX4_change_X1_add : GoodIn wsX4_change wsX1_add := goodIn_r _ [7, 8, 9, 10, 11, 12, 13, 14, 15, 16, 17, 18, 19, 20, 21, 28, 29, 30, 31, 32, 33] (by decide +kernel) (by decide +kernel)
set_option maxRecDepth 20000 in
theorem gX4_change_X1_add : GoodIn wsX4_change (wsV RX4 169 RX1 yX1_add wsX1_add) := goodIn_app (goodIn_of _ (by decide +kernel)) ggX4_change_X1_add
theorem dX4_change_0 : decode cX4_change 0 = .ok (.aload_n 0, 1) := by decide +kernel
theorem dX4_change_1 : decode cX4_change 1 = .ok (.getfield 28, 3) := by decide +kernel
theorem dX4_change_4 : decode cX4_change 4 = .ok (.sipush 512, 3) := by decide +kernel
theorem dX4_change_7 : decode cX4_change 7 = .ok (.if_icmp .ge 24, 3) := by decide +kernel
theorem dX4_change_10 : decode cX4_change 10 = .ok (.aload_n 0, 1) := by decide +kernel
theorem dX4_change_11 : decode cX4_change 11 = .ok (.dup, 1) := by decide +kernel
theorem dX4_change_12 : decode cX4_change 12 = .ok (.getfield 28, 3) := by decide +kernel
theorem dX4_change_15 : decode cX4_change 15 = .ok (.iconst 1, 1) := by decide +kernel
theorem dX4_change_16 : decode cX4_change 16 = .ok (.iadd, 1) := by decide +kernel
theorem dX4_change_17 : decode cX4_change 17 = .ok (.putfield 28, 3) := by decide +kernel
theorem dX4_change_20 : decode cX4_change 20 = .ok (.aload_n 1, 1) := by decide +kernel
theorem dX4_change_21 : decode cX4_change 21 = .ok (.aload_n 0, 1) := by decide +kernel
theorem dX4_change_22 : decode cX4_change 22 = .ok (.getfield 31, 3) := by decide +kernel
theorem dX4_change_25 : decode cX4_change 25 = .ok (.lload_n 2, 1) := by decide +kernel
theorem dX4_change_26 : decode cX4_change 26 = .ok (.iload 4, 2) := by decide +kernel
theorem dX4_change_28 : decode cX4_change 28 = .ok (.invokevirtual 169, 3) := by decide +kernel
theorem dX4_change_31 : decode cX4_change 31 = .ok (.return_, 1) := by decide +kernel
set_option maxRecDepth 20000 in
theorem ggX4_isWay_X2_letsIn : GoodIn wsX4_isWay wsX2_letsIn := goodIn_r _ [5, 6, 56, 57, 58, 59, 60, 61] (by decide +kernel) (by decide +kernel)
set_option maxRecDepth 20000 in
theorem gX4_isWay_X2_letsIn : GoodIn wsX4_isWay (wsV RX4 142 RX2 yX2_letsIn wsX2_letsIn) := goodIn_app (goodIn_of _ (by decide +kernel)) ggX4_isWay_X2_letsIn
set_option maxRecDepth 20000 in
theorem ggX4_isWay_X2_yearsCovered : GoodIn wsX4_isWay wsX2_yearsCovered := goodIn_ca (goodIn_r _ [10, 11, 12, 13, 4, 14, 15, 16, 17, 18, 19, 20, 21, 22, 23, 24, 25, 26, 27, 28, 29, 30, 31, 32, 33, 34, 35, 36, 37, 38, 39, 40, 41, 42, 43, 44, 45, 46, 47, 48, 49, 50, 51, 52, 56, 57, 58, 59, 60, 61, 62, 63, 64, 65, 66, 67] (by decide +kernel) (by decide +kernel)) (goodIn_sub (fun _ h => List.mem_cons_of_mem _ (List.mem_append_right _ h)) (by decide +kernel))
set_option maxRecDepth 20000 in
theorem gX4_isWay_X2_yearsCovered : GoodIn wsX4_isWay (wsV RX4 145 RX2 yX2_yearsCovered wsX2_yearsCovered) := goodIn_app (goodIn_of _ (by decide +kernel)) ggX4_isWay_X2_yearsCovered
set_option maxRecDepth 20000 in
theorem ggX4_isWay_X4_hasYear : GoodIn wsX4_isWay wsX4_hasYear := goodIn_r _ [55] (by decide +kernel) (by decide +kernel)
set_option maxRecDepth 20000 in
theorem gX4_isWay_X4_hasYear : GoodIn wsX4_isWay (va_wsS RX4 138 yX4_hasYear wsX4_hasYear) := goodIn_app (goodIn_of _ (by decide +kernel)) ggX4_isWay_X4_hasYear
theorem dX4_isWay_0 : decode cX4_isWay 0 = .ok (.aload_n 0, 1) := by decide +kernel
theorem dX4_isWay_1 : decode cX4_isWay 1 = .ok (.iload_n 3, 1) := by decide +kernel
theorem dX4_isWay_2 : decode cX4_isWay 2 = .ok (.invokevirtual 142, 3) := by decide +kernel
theorem dX4_isWay_5 : decode cX4_isWay 5 = .ok (.ifCond .eq 21, 3) := by decide +kernel
theorem dX4_isWay_8 : decode cX4_isWay 8 = .ok (.aload_n 0, 1) := by decide +kernel
theorem dX4_isWay_9 : decode cX4_isWay 9 = .ok (.iload_n 1, 1) := by decide +kernel
theorem dX4_isWay_10 : decode cX4_isWay 10 = .ok (.iload 4, 2) := by decide +kernel
theorem dX4_isWay_12 : decode cX4_isWay 12 = .ok (.invokevirtual 145, 3) := by decide +kernel
theorem dX4_isWay_15 : decode cX4_isWay 15 = .ok (.iload_n 2, 1) := by decide +kernel
theorem dX4_isWay_16 : decode cX4_isWay 16 = .ok (.invokestatic 138, 3) := by decide +kernel
theorem dX4_isWay_19 : decode cX4_isWay 19 = .ok (.ifCond .eq 7, 3) := by decide +kernel
theorem dX4_isWay_22 : decode cX4_isWay 22 = .ok (.iconst 1, 1) := by decide +kernel
theorem dX4_isWay_23 : decode cX4_isWay 23 = .ok (.goto 4, 3) := by decide +kernel
theorem dX4_isWay_26 : decode cX4_isWay 26 = .ok (.iconst 0, 1) := by decide +kernel
theorem dX4_isWay_27 : decode cX4_isWay 27 = .ok (.ireturn, 1) := by decide +kernel
set_option maxRecDepth 20000 in
theorem ggX4_waysTo_X4_existingPack : GoodIn wsX4_waysTo wsX4_existingPack := goodIn_ca (goodIn_r _ [6, 7, 8, 1, 9, 66, 67, 68, 69, 70, 71] (by decide +kernel) (by decide +kernel)) (goodIn_sub (fun _ h => List.mem_cons_of_mem _ (List.mem_append_left _ (List.mem_append_right _ h))) (by decide +kernel))
set_option maxRecDepth 20000 in
theorem gX4_waysTo_X4_existingPack : GoodIn wsX4_waysTo (wsV RX4 64 RX4 yX4_existingPack wsX4_existingPack) := goodIn_app (goodIn_of _ (by decide +kernel)) ggX4_waysTo_X4_existingPack
set_option maxRecDepth 20000 in
theorem ggX4_waysTo_X4_isWay : GoodIn wsX4_waysTo wsX4_isWay := goodIn_ca (goodIn_r _ [12, 13, 14, 15, 16, 17, 18, 19, 20, 21, 22, 23, 24, 25, 26, 27, 28, 29, 30, 31, 32, 8, 33, 34, 35, 36, 37, 38, 39, 40, 41, 42, 43, 44, 45, 46, 47, 48, 5, 49, 50, 51, 52, 53, 54, 55, 56, 57, 58, 59, 60, 61, 62, 63, 64, 65, 72, 73, 74, 75, 76, 77, 78, 79, 80, 81, 82, 83] (by decide +kernel) (by decide +kernel)) (goodIn_sub (fun _ h => List.mem_cons_of_mem _ (List.mem_append_right _ h)) (by decide +kernel))
set_option maxRecDepth 20000 in
theorem gX4_waysTo_X4_isWay : GoodIn wsX4_waysTo (va_wsS RX4 102 yX4_isWay wsX4_isWay) := goodIn_app (goodIn_of _ (by decide +kernel)) ggX4_waysTo_X4_isWay
theorem dX4_waysTo_0 : decode cX4_waysTo 0 = .ok (.iconst 0, 1) := by decide +kernel
theorem dX4_waysTo_1 : decode cX4_waysTo 1 = .ok (.istore 5, 2) := by decide +kernel
theorem dX4_waysTo_3 : decode cX4_waysTo 3 = .ok (.iconst 0, 1) := by decide +kernel
theorem dX4_waysTo_4 : decode cX4_waysTo 4 = .ok (.istore 6, 2) := by decide +kernel
theorem dX4_waysTo_6 : decode cX4_waysTo 6 = .ok (.iload 6, 2) := by decide +kernel
theorem dX4_waysTo_8 : decode cX4_waysTo 8 = .ok (.aload_n 0, 1) := by decide +kernel
theorem dX4_waysTo_9 : decode cX4_waysTo 9 = .ok (.getfield 25, 3) := by decide +kernel
theorem dX4_waysTo_12 : decode cX4_waysTo 12 = .ok (.if_icmp .ge 35, 3) := by decide +kernel
theorem dX4_waysTo_15 : decode cX4_waysTo 15 = .ok (.aload_n 0, 1) := by decide +kernel
theorem dX4_waysTo_16 : decode cX4_waysTo 16 = .ok (.iload 6, 2) := by decide +kernel
theorem dX4_waysTo_18 : decode cX4_waysTo 18 = .ok (.invokevirtual 64, 3) := by decide +kernel
theorem dX4_waysTo_21 : decode cX4_waysTo 21 = .ok (.iload_n 1, 1) := by decide +kernel
theorem dX4_waysTo_22 : decode cX4_waysTo 22 = .ok (.iload_n 2, 1) := by decide +kernel
theorem dX4_waysTo_23 : decode cX4_waysTo 23 = .ok (.iload_n 3, 1) := by decide +kernel
theorem dX4_waysTo_24 : decode cX4_waysTo 24 = .ok (.iload 4, 2) := by decide +kernel
theorem dX4_waysTo_26 : decode cX4_waysTo 26 = .ok (.invokestatic 102, 3) := by decide +kernel
theorem dX4_waysTo_29 : decode cX4_waysTo 29 = .ok (.ifCond .eq 12, 3) := by decide +kernel
theorem dX4_waysTo_32 : decode cX4_waysTo 32 = .ok (.iload 5, 2) := by decide +kernel
theorem dX4_waysTo_34 : decode cX4_waysTo 34 = .ok (.iconst 1, 1) := by decide +kernel
theorem dX4_waysTo_35 : decode cX4_waysTo 35 = .ok (.iload 6, 2) := by decide +kernel
theorem dX4_waysTo_37 : decode cX4_waysTo 37 = .ok (.ishl, 1) := by decide +kernel
theorem dX4_waysTo_38 : decode cX4_waysTo 38 = .ok (.ior, 1) := by decide +kernel
theorem dX4_waysTo_39 : decode cX4_waysTo 39 = .ok (.istore 5, 2) := by decide +kernel
theorem dX4_waysTo_41 : decode cX4_waysTo 41 = .ok (.iinc 6 1, 3) := by decide +kernel
theorem dX4_waysTo_44 : decode cX4_waysTo 44 = .ok (.goto (-38), 3) := by decide +kernel
theorem dX4_waysTo_47 : decode cX4_waysTo 47 = .ok (.iload 5, 2) := by decide +kernel
theorem dX4_waysTo_49 : decode cX4_waysTo 49 = .ok (.ireturn, 1) := by decide +kernel
theorem dX4_isAmong_0 : decode cX4_isAmong 0 = .ok (.iload_n 0, 1) := by decide +kernel
theorem dX4_isAmong_1 : decode cX4_isAmong 1 = .ok (.iload_n 1, 1) := by decide +kernel
theorem dX4_isAmong_2 : decode cX4_isAmong 2 = .ok (.ishr, 1) := by decide +kernel
theorem dX4_isAmong_3 : decode cX4_isAmong 3 = .ok (.iconst 1, 1) := by decide +kernel
theorem dX4_isAmong_4 : decode cX4_isAmong 4 = .ok (.iand, 1) := by decide +kernel
theorem dX4_isAmong_5 : decode cX4_isAmong 5 = .ok (.iconst 1, 1) := by decide +kernel
theorem dX4_isAmong_6 : decode cX4_isAmong 6 = .ok (.if_icmp .ne 7, 3) := by decide +kernel
theorem dX4_isAmong_9 : decode cX4_isAmong 9 = .ok (.iconst 1, 1) := by decide +kernel
theorem dX4_isAmong_10 : decode cX4_isAmong 10 = .ok (.goto 4, 3) := by decide +kernel
theorem dX4_isAmong_13 : decode cX4_isAmong 13 = .ok (.iconst 0, 1) := by decide +kernel
theorem dX4_isAmong_14 : decode cX4_isAmong 14 = .ok (.ireturn, 1) := by decide +kernel
set_option maxRecDepth 20000 in
theorem ggX4_placeAmong_X4_isAmong : GoodIn wsX4_placeAmong wsX4_isAmong := goodIn_r _ [5] (by decide +kernel) (by decide +kernel)
set_option maxRecDepth 20000 in
theorem gX4_placeAmong_X4_isAmong : GoodIn wsX4_placeAmong (va_wsS RX4 115 yX4_isAmong wsX4_isAmong) := goodIn_app (goodIn_of _ (by decide +kernel)) ggX4_placeAmong_X4_isAmong
set_option maxRecDepth 20000 in
theorem ggX4_placeAmong_X4_isAhead : GoodIn wsX4_placeAmong wsX4_isAhead := goodIn_ca (goodIn_ca (goodIn_r _ [9, 10, 11, 12, 13, 14, 4, 15, 16, 17, 1, 18, 19, 20, 21, 22, 23, 24, 25, 26, 27, 28, 29, 30, 37, 38, 39, 40, 41, 42, 31, 32, 33, 34, 35, 36, 43, 44] (by decide +kernel) (by decide +kernel)) (goodIn_sub (fun _ h => List.mem_cons_of_mem _ (List.mem_append_left _ (List.mem_append_right _ h))) (by decide +kernel))) (goodIn_sub (fun _ h => List.mem_cons_of_mem _ (List.mem_append_right _ h)) (by decide +kernel))
set_option maxRecDepth 20000 in
theorem gX4_placeAmong_X4_isAhead : GoodIn wsX4_placeAmong (wsV RX4 173 RX4 yX4_isAhead wsX4_isAhead) := goodIn_app (goodIn_of _ (by decide +kernel)) ggX4_placeAmong_X4_isAhead
theorem dX4_placeAmong_0 : decode cX4_placeAmong 0 = .ok (.iconst 0, 1) := by decide +kernel
theorem dX4_placeAmong_1 : decode cX4_placeAmong 1 = .ok (.istore 4, 2) := by decide +kernel
theorem dX4_placeAmong_3 : decode cX4_placeAmong 3 = .ok (.iconst 0, 1) := by decide +kernel
theorem dX4_placeAmong_4 : decode cX4_placeAmong 4 = .ok (.istore 5, 2) := by decide +kernel
theorem dX4_placeAmong_6 : decode cX4_placeAmong 6 = .ok (.iload 5, 2) := by decide +kernel
theorem dX4_placeAmong_8 : decode cX4_placeAmong 8 = .ok (.aload_n 0, 1) := by decide +kernel
theorem dX4_placeAmong_9 : decode cX4_placeAmong 9 = .ok (.getfield 25, 3) := by decide +kernel
theorem dX4_placeAmong_12 : decode cX4_placeAmong 12 = .ok (.if_icmp .ge 38, 3) := by decide +kernel
theorem dX4_placeAmong_15 : decode cX4_placeAmong 15 = .ok (.iload 5, 2) := by decide +kernel
theorem dX4_placeAmong_17 : decode cX4_placeAmong 17 = .ok (.iload_n 2, 1) := by decide +kernel
theorem dX4_placeAmong_18 : decode cX4_placeAmong 18 = .ok (.if_icmp .eq 26, 3) := by decide +kernel
theorem dX4_placeAmong_21 : decode cX4_placeAmong 21 = .ok (.iload_n 1, 1) := by decide +kernel
theorem dX4_placeAmong_22 : decode cX4_placeAmong 22 = .ok (.iload 5, 2) := by decide +kernel
theorem dX4_placeAmong_24 : decode cX4_placeAmong 24 = .ok (.invokestatic 115, 3) := by decide +kernel
theorem dX4_placeAmong_27 : decode cX4_placeAmong 27 = .ok (.ifCond .eq 17, 3) := by decide +kernel
theorem dX4_placeAmong_30 : decode cX4_placeAmong 30 = .ok (.aload_n 0, 1) := by decide +kernel
theorem dX4_placeAmong_31 : decode cX4_placeAmong 31 = .ok (.iload 5, 2) := by decide +kernel
theorem dX4_placeAmong_33 : decode cX4_placeAmong 33 = .ok (.iload_n 2, 1) := by decide +kernel
theorem dX4_placeAmong_34 : decode cX4_placeAmong 34 = .ok (.iload_n 3, 1) := by decide +kernel
theorem dX4_placeAmong_35 : decode cX4_placeAmong 35 = .ok (.invokevirtual 173, 3) := by decide +kernel
theorem dX4_placeAmong_38 : decode cX4_placeAmong 38 = .ok (.ifCond .eq 6, 3) := by decide +kernel
theorem dX4_placeAmong_41 : decode cX4_placeAmong 41 = .ok (.iinc 4 1, 3) := by decide +kernel
theorem dX4_placeAmong_44 : decode cX4_placeAmong 44 = .ok (.iinc 5 1, 3) := by decide +kernel
theorem dX4_placeAmong_47 : decode cX4_placeAmong 47 = .ok (.goto (-41), 3) := by decide +kernel
theorem dX4_placeAmong_50 : decode cX4_placeAmong 50 = .ok (.iload 4, 2) := by decide +kernel
theorem dX4_placeAmong_52 : decode cX4_placeAmong 52 = .ok (.ireturn, 1) := by decide +kernel
set_option maxRecDepth 20000 in
theorem ggX4_isAhead_X4_existingPack : GoodIn wsX4_isAhead wsX4_existingPack := goodIn_ca (goodIn_r _ [7, 8, 9, 10, 11, 30, 31, 32, 33, 34, 35] (by decide +kernel) (by decide +kernel)) (goodIn_sub (fun _ h => List.mem_cons_of_mem _ (List.mem_append_left _ (List.mem_append_right _ h))) (by decide +kernel))
set_option maxRecDepth 20000 in
theorem gX4_isAhead_X4_existingPack : GoodIn wsX4_isAhead (wsV RX4 64 RX4 yX4_existingPack wsX4_existingPack) := goodIn_app (goodIn_of _ (by decide +kernel)) ggX4_isAhead_X4_existingPack
set_option maxRecDepth 20000 in
theorem ggX4_isAhead_X2_isBroken : GoodIn wsX4_isAhead wsX2_isBroken := goodIn_ca (goodIn_r _ [16, 17, 18, 19, 20, 15, 21, 22, 9, 23, 36, 37, 24, 25, 26, 27, 28, 29] (by decide +kernel) (by decide +kernel)) (goodIn_sub (fun _ h => List.mem_cons_of_mem _ (List.mem_append_right _ h)) (by decide +kernel))
set_option maxRecDepth 20000 in
theorem gX4_isAhead_X2_isBroken : GoodIn wsX4_isAhead (wsV RX4 177 RX2 yX2_isBroken wsX2_isBroken) := goodIn_app (goodIn_of _ (by decide +kernel)) ggX4_isAhead_X2_isBroken
theorem dX4_isAhead_0 : decode cX4_isAhead 0 = .ok (.aload_n 0, 1) := by decide +kernel
theorem dX4_isAhead_1 : decode cX4_isAhead 1 = .ok (.iload_n 1, 1) := by decide +kernel
theorem dX4_isAhead_2 : decode cX4_isAhead 2 = .ok (.invokevirtual 64, 3) := by decide +kernel
theorem dX4_isAhead_5 : decode cX4_isAhead 5 = .ok (.astore 4, 2) := by decide +kernel
theorem dX4_isAhead_7 : decode cX4_isAhead 7 = .ok (.aload_n 0, 1) := by decide +kernel
theorem dX4_isAhead_8 : decode cX4_isAhead 8 = .ok (.iload_n 2, 1) := by decide +kernel
theorem dX4_isAhead_9 : decode cX4_isAhead 9 = .ok (.invokevirtual 64, 3) := by decide +kernel
theorem dX4_isAhead_12 : decode cX4_isAhead 12 = .ok (.astore 5, 2) := by decide +kernel
theorem dX4_isAhead_14 : decode cX4_isAhead 14 = .ok (.aload 4, 2) := by decide +kernel
theorem dX4_isAhead_16 : decode cX4_isAhead 16 = .ok (.iload_n 3, 1) := by decide +kernel
theorem dX4_isAhead_17 : decode cX4_isAhead 17 = .ok (.invokevirtual 177, 3) := by decide +kernel
theorem dX4_isAhead_20 : decode cX4_isAhead 20 = .ok (.istore 6, 2) := by decide +kernel
theorem dX4_isAhead_22 : decode cX4_isAhead 22 = .ok (.iload 6, 2) := by decide +kernel
theorem dX4_isAhead_24 : decode cX4_isAhead 24 = .ok (.aload 5, 2) := by decide +kernel
theorem dX4_isAhead_26 : decode cX4_isAhead 26 = .ok (.iload_n 3, 1) := by decide +kernel
theorem dX4_isAhead_27 : decode cX4_isAhead 27 = .ok (.invokevirtual 177, 3) := by decide +kernel
theorem dX4_isAhead_30 : decode cX4_isAhead 30 = .ok (.if_icmp .eq 14, 3) := by decide +kernel
theorem dX4_isAhead_33 : decode cX4_isAhead 33 = .ok (.iload 6, 2) := by decide +kernel
theorem dX4_isAhead_35 : decode cX4_isAhead 35 = .ok (.ifCond .ne 7, 3) := by decide +kernel
theorem dX4_isAhead_38 : decode cX4_isAhead 38 = .ok (.iconst 1, 1) := by decide +kernel
theorem dX4_isAhead_39 : decode cX4_isAhead 39 = .ok (.goto 4, 3) := by decide +kernel
theorem dX4_isAhead_42 : decode cX4_isAhead 42 = .ok (.iconst 0, 1) := by decide +kernel
theorem dX4_isAhead_43 : decode cX4_isAhead 43 = .ok (.ireturn, 1) := by decide +kernel
theorem dX4_isAhead_44 : decode cX4_isAhead 44 = .ok (.aload 4, 2) := by decide +kernel
theorem dX4_isAhead_46 : decode cX4_isAhead 46 = .ok (.getfield 180, 3) := by decide +kernel
theorem dX4_isAhead_49 : decode cX4_isAhead 49 = .ok (.aload 5, 2) := by decide +kernel
theorem dX4_isAhead_51 : decode cX4_isAhead 51 = .ok (.getfield 180, 3) := by decide +kernel
theorem dX4_isAhead_54 : decode cX4_isAhead 54 = .ok (.if_icmp .eq 22, 3) := by decide +kernel
theorem dX4_isAhead_57 : decode cX4_isAhead 57 = .ok (.aload 4, 2) := by decide +kernel
theorem dX4_isAhead_59 : decode cX4_isAhead 59 = .ok (.getfield 180, 3) := by decide +kernel
theorem dX4_isAhead_62 : decode cX4_isAhead 62 = .ok (.aload 5, 2) := by decide +kernel
theorem dX4_isAhead_64 : decode cX4_isAhead 64 = .ok (.getfield 180, 3) := by decide +kernel
theorem dX4_isAhead_67 : decode cX4_isAhead 67 = .ok (.if_icmp .ge 7, 3) := by decide +kernel
theorem dX4_isAhead_70 : decode cX4_isAhead 70 = .ok (.iconst 1, 1) := by decide +kernel
theorem dX4_isAhead_71 : decode cX4_isAhead 71 = .ok (.goto 4, 3) := by decide +kernel
theorem dX4_isAhead_74 : decode cX4_isAhead 74 = .ok (.iconst 0, 1) := by decide +kernel
theorem dX4_isAhead_75 : decode cX4_isAhead 75 = .ok (.ireturn, 1) := by decide +kernel
theorem dX4_isAhead_76 : decode cX4_isAhead 76 = .ok (.aload 4, 2) := by decide +kernel
theorem dX4_isAhead_78 : decode cX4_isAhead 78 = .ok (.getfield 183, 3) := by decide +kernel
theorem dX4_isAhead_81 : decode cX4_isAhead 81 = .ok (.aload 5, 2) := by decide +kernel
theorem dX4_isAhead_83 : decode cX4_isAhead 83 = .ok (.getfield 183, 3) := by decide +kernel
theorem dX4_isAhead_86 : decode cX4_isAhead 86 = .ok (.if_icmp .eq 22, 3) := by decide +kernel
theorem dX4_isAhead_89 : decode cX4_isAhead 89 = .ok (.aload 4, 2) := by decide +kernel
theorem dX4_isAhead_91 : decode cX4_isAhead 91 = .ok (.getfield 183, 3) := by decide +kernel
theorem dX4_isAhead_94 : decode cX4_isAhead 94 = .ok (.aload 5, 2) := by decide +kernel
theorem dX4_isAhead_96 : decode cX4_isAhead 96 = .ok (.getfield 183, 3) := by decide +kernel
theorem dX4_isAhead_99 : decode cX4_isAhead 99 = .ok (.if_icmp .ge 7, 3) := by decide +kernel
theorem dX4_isAhead_102 : decode cX4_isAhead 102 = .ok (.iconst 1, 1) := by decide +kernel
theorem dX4_isAhead_103 : decode cX4_isAhead 103 = .ok (.goto 4, 3) := by decide +kernel
theorem dX4_isAhead_106 : decode cX4_isAhead 106 = .ok (.iconst 0, 1) := by decide +kernel
theorem dX4_isAhead_107 : decode cX4_isAhead 107 = .ok (.ireturn, 1) := by decide +kernel
theorem dX4_isAhead_108 : decode cX4_isAhead 108 = .ok (.iload_n 1, 1) := by decide +kernel
theorem dX4_isAhead_109 : decode cX4_isAhead 109 = .ok (.iload_n 2, 1) := by decide +kernel
theorem dX4_isAhead_110 : decode cX4_isAhead 110 = .ok (.if_icmp .ge 7, 3) := by decide +kernel
theorem dX4_isAhead_113 : decode cX4_isAhead 113 = .ok (.iconst 1, 1) := by decide +kernel
theorem dX4_isAhead_114 : decode cX4_isAhead 114 = .ok (.goto 4, 3) := by decide +kernel
theorem dX4_isAhead_117 : decode cX4_isAhead 117 = .ok (.iconst 0, 1) := by decide +kernel
theorem dX4_isAhead_118 : decode cX4_isAhead 118 = .ok (.ireturn, 1) := by decide +kernel
set_option maxRecDepth 20000 in
theorem ggX4_yearsSoFar_X4_yearsBetween : GoodIn wsX4_yearsSoFar wsX4_yearsBetween := goodIn_r _ [6] (by decide +kernel) (by decide +kernel)
set_option maxRecDepth 20000 in
theorem gX4_yearsSoFar_X4_yearsBetween : GoodIn wsX4_yearsSoFar (va_wsS RX4 88 yX4_yearsBetween wsX4_yearsBetween) := goodIn_app (goodIn_of _ (by decide +kernel)) ggX4_yearsSoFar_X4_yearsBetween
theorem dX4_yearsSoFar_0 : decode cX4_yearsSoFar 0 = .ok (.aload_n 1, 1) := by decide +kernel
theorem dX4_yearsSoFar_1 : decode cX4_yearsSoFar 1 = .ok (.getfield 56, 3) := by decide +kernel
theorem dX4_yearsSoFar_4 : decode cX4_yearsSoFar 4 = .ok (.aload_n 0, 1) := by decide +kernel
theorem dX4_yearsSoFar_5 : decode cX4_yearsSoFar 5 = .ok (.getfield 31, 3) := by decide +kernel
theorem dX4_yearsSoFar_8 : decode cX4_yearsSoFar 8 = .ok (.sipush 360, 3) := by decide +kernel
theorem dX4_yearsSoFar_11 : decode cX4_yearsSoFar 11 = .ok (.idiv, 1) := by decide +kernel
theorem dX4_yearsSoFar_12 : decode cX4_yearsSoFar 12 = .ok (.invokestatic 88, 3) := by decide +kernel
theorem dX4_yearsSoFar_15 : decode cX4_yearsSoFar 15 = .ok (.lreturn, 1) := by decide +kernel
set_option maxRecDepth 20000 in
theorem ggX4_yearsCoveredButBy_X4_existingPack : GoodIn wsX4_yearsCoveredButBy wsX4_existingPack := goodIn_ca (goodIn_r _ [7, 8, 9, 1, 10, 61, 62, 63, 64, 65, 66] (by decide +kernel) (by decide +kernel)) (goodIn_sub (fun _ h => List.mem_cons_of_mem _ (List.mem_append_left _ (List.mem_append_right _ h))) (by decide +kernel))
set_option maxRecDepth 20000 in
theorem gX4_yearsCoveredButBy_X4_existingPack : GoodIn wsX4_yearsCoveredButBy (wsV RX4 64 RX4 yX4_existingPack wsX4_existingPack) := goodIn_app (goodIn_of _ (by decide +kernel)) ggX4_yearsCoveredButBy_X4_existingPack
set_option maxRecDepth 20000 in
theorem ggX4_yearsCoveredButBy_X2_letsIn : GoodIn wsX4_yearsCoveredButBy wsX2_letsIn := goodIn_r _ [15, 16, 67, 68, 69, 70, 71, 72] (by decide +kernel) (by decide +kernel)
set_option maxRecDepth 20000 in
theorem gX4_yearsCoveredButBy_X2_letsIn : GoodIn wsX4_yearsCoveredButBy (wsV RX4 142 RX2 yX2_letsIn wsX2_letsIn) := goodIn_app (goodIn_of _ (by decide +kernel)) ggX4_yearsCoveredButBy_X2_letsIn
set_option maxRecDepth 20000 in
theorem ggX4_yearsCoveredButBy_X2_yearsCovered : GoodIn wsX4_yearsCoveredButBy wsX2_yearsCovered := goodIn_ca (goodIn_r _ [20, 21, 22, 23, 14, 24, 25, 26, 27, 28, 29, 30, 9, 31, 32, 33, 34, 35, 36, 37, 38, 39, 40, 41, 42, 43, 44, 45, 46, 6, 47, 48, 49, 50, 51, 52, 53, 54, 55, 56, 57, 58, 59, 60, 67, 68, 69, 70, 71, 72, 73, 74, 75, 76, 77, 78] (by decide +kernel) (by decide +kernel)) (goodIn_sub (fun _ h => List.mem_cons_of_mem _ (List.mem_append_right _ h)) (by decide +kernel))
set_option maxRecDepth 20000 in
theorem gX4_yearsCoveredButBy_X2_yearsCovered : GoodIn wsX4_yearsCoveredButBy (wsV RX4 145 RX2 yX2_yearsCovered wsX2_yearsCovered) := goodIn_app (goodIn_of _ (by decide +kernel)) ggX4_yearsCoveredButBy_X2_yearsCovered
theorem dX4_yearsCoveredButBy_0 : decode cX4_yearsCoveredButBy 0 = .ok (.lconst 0, 1) := by decide +kernel
theorem dX4_yearsCoveredButBy_1 : decode cX4_yearsCoveredButBy 1 = .ok (.lstore 4, 2) := by decide +kernel
theorem dX4_yearsCoveredButBy_3 : decode cX4_yearsCoveredButBy 3 = .ok (.iconst 0, 1) := by decide +kernel
theorem dX4_yearsCoveredButBy_4 : decode cX4_yearsCoveredButBy 4 = .ok (.istore 6, 2) := by decide +kernel
theorem dX4_yearsCoveredButBy_6 : decode cX4_yearsCoveredButBy 6 = .ok (.iload 6, 2) := by decide +kernel
theorem dX4_yearsCoveredButBy_8 : decode cX4_yearsCoveredButBy 8 = .ok (.aload_n 0, 1) := by decide +kernel
theorem dX4_yearsCoveredButBy_9 : decode cX4_yearsCoveredButBy 9 = .ok (.getfield 25, 3) := by decide +kernel
theorem dX4_yearsCoveredButBy_12 : decode cX4_yearsCoveredButBy 12 = .ok (.if_icmp .ge 47, 3) := by decide +kernel
theorem dX4_yearsCoveredButBy_15 : decode cX4_yearsCoveredButBy 15 = .ok (.aload_n 0, 1) := by decide +kernel
theorem dX4_yearsCoveredButBy_16 : decode cX4_yearsCoveredButBy 16 = .ok (.iload 6, 2) := by decide +kernel
theorem dX4_yearsCoveredButBy_18 : decode cX4_yearsCoveredButBy 18 = .ok (.invokevirtual 64, 3) := by decide +kernel
theorem dX4_yearsCoveredButBy_21 : decode cX4_yearsCoveredButBy 21 = .ok (.astore 7, 2) := by decide +kernel
theorem dX4_yearsCoveredButBy_23 : decode cX4_yearsCoveredButBy 23 = .ok (.iload 6, 2) := by decide +kernel
theorem dX4_yearsCoveredButBy_25 : decode cX4_yearsCoveredButBy 25 = .ok (.iload_n 1, 1) := by decide +kernel
theorem dX4_yearsCoveredButBy_26 : decode cX4_yearsCoveredButBy 26 = .ok (.if_icmp .eq 27, 3) := by decide +kernel
theorem dX4_yearsCoveredButBy_29 : decode cX4_yearsCoveredButBy 29 = .ok (.aload 7, 2) := by decide +kernel
theorem dX4_yearsCoveredButBy_31 : decode cX4_yearsCoveredButBy 31 = .ok (.iload_n 3, 1) := by decide +kernel
theorem dX4_yearsCoveredButBy_32 : decode cX4_yearsCoveredButBy 32 = .ok (.invokevirtual 142, 3) := by decide +kernel
theorem dX4_yearsCoveredButBy_35 : decode cX4_yearsCoveredButBy 35 = .ok (.ifCond .eq 18, 3) := by decide +kernel
theorem dX4_yearsCoveredButBy_38 : decode cX4_yearsCoveredButBy 38 = .ok (.lload 4, 2) := by decide +kernel
theorem dX4_yearsCoveredButBy_40 : decode cX4_yearsCoveredButBy 40 = .ok (.aload 7, 2) := by decide +kernel
theorem dX4_yearsCoveredButBy_42 : decode cX4_yearsCoveredButBy 42 = .ok (.iload_n 2, 1) := by decide +kernel
theorem dX4_yearsCoveredButBy_43 : decode cX4_yearsCoveredButBy 43 = .ok (.aload_n 0, 1) := by decide +kernel
theorem dX4_yearsCoveredButBy_44 : decode cX4_yearsCoveredButBy 44 = .ok (.getfield 31, 3) := by decide +kernel
theorem dX4_yearsCoveredButBy_47 : decode cX4_yearsCoveredButBy 47 = .ok (.invokevirtual 145, 3) := by decide +kernel
theorem dX4_yearsCoveredButBy_50 : decode cX4_yearsCoveredButBy 50 = .ok (.lor, 1) := by decide +kernel
theorem dX4_yearsCoveredButBy_51 : decode cX4_yearsCoveredButBy 51 = .ok (.lstore 4, 2) := by decide +kernel
theorem dX4_yearsCoveredButBy_53 : decode cX4_yearsCoveredButBy 53 = .ok (.iinc 6 1, 3) := by decide +kernel
theorem dX4_yearsCoveredButBy_56 : decode cX4_yearsCoveredButBy 56 = .ok (.goto (-50), 3) := by decide +kernel
theorem dX4_yearsCoveredButBy_59 : decode cX4_yearsCoveredButBy 59 = .ok (.lload 4, 2) := by decide +kernel
theorem dX4_yearsCoveredButBy_61 : decode cX4_yearsCoveredButBy 61 = .ok (.lreturn, 1) := by decide +kernel
set_option maxRecDepth 20000 in
theorem ggX4_isLostWithout_X4_existingPack : GoodIn wsX4_isLostWithout wsX4_existingPack := goodIn_ca (goodIn_r _ [7, 8, 9, 10, 11, 80, 81, 82, 83, 84, 85] (by decide +kernel) (by decide +kernel)) (goodIn_sub (fun _ h => List.mem_cons_of_mem _ (List.mem_append_left _ (List.mem_append_right _ h))) (by decide +kernel))
set_option maxRecDepth 20000 in
theorem gX4_isLostWithout_X4_existingPack : GoodIn wsX4_isLostWithout (wsV RX4 64 RX4 yX4_existingPack wsX4_existingPack) := goodIn_app (goodIn_of _ (by decide +kernel)) ggX4_isLostWithout_X4_existingPack
set_option maxRecDepth 20000 in
theorem ggX4_isLostWithout_X2_yearsOpen : GoodIn wsX4_isLostWithout wsX2_yearsOpen := goodIn_ca (goodIn_r _ [16, 17, 18, 19, 20, 15, 21, 22, 9, 23, 24, 25, 26, 27, 28, 29, 30, 31, 32, 33, 34, 35, 36, 37, 38, 6, 39, 86, 87, 88, 89, 90, 91, 92, 93, 94, 95, 96, 97] (by decide +kernel) (by decide +kernel)) (goodIn_sub (fun _ h => List.mem_cons_of_mem _ (List.mem_append_right _ h)) (by decide +kernel))
set_option maxRecDepth 20000 in
theorem gX4_isLostWithout_X2_yearsOpen : GoodIn wsX4_isLostWithout (wsV RX4 186 RX2 yX2_yearsOpen wsX2_yearsOpen) := goodIn_app (goodIn_of _ (by decide +kernel)) ggX4_isLostWithout_X2_yearsOpen
set_option maxRecDepth 20000 in
theorem ggX4_isLostWithout_X2_yearsKept : GoodIn wsX4_isLostWithout wsX2_yearsKept := goodIn_ca (goodIn_r _ [43, 44, 17, 18, 19, 20, 15, 21, 22, 9, 23, 45, 46, 47, 27, 48, 35, 36, 30, 29, 49, 50, 51, 52, 37, 38, 6, 39, 86, 87, 88, 89, 90, 91, 96, 97, 92, 93, 94, 95] (by decide +kernel) (by decide +kernel)) (goodIn_sub (fun _ h => List.mem_cons_of_mem _ (List.mem_append_right _ h)) (by decide +kernel))
set_option maxRecDepth 20000 in
theorem gX4_isLostWithout_X2_yearsKept : GoodIn wsX4_isLostWithout (wsV RX4 189 RX2 yX2_yearsKept wsX2_yearsKept) := goodIn_app (goodIn_of _ (by decide +kernel)) ggX4_isLostWithout_X2_yearsKept
set_option maxRecDepth 20000 in
theorem ggX4_isLostWithout_X4_existingTitle : GoodIn wsX4_isLostWithout wsX4_existingTitle := goodIn_ca (goodIn_r _ [56, 8, 9, 57, 58, 80, 81, 82, 83, 84, 85] (by decide +kernel) (by decide +kernel)) (goodIn_sub (fun _ h => List.mem_cons_of_mem _ (List.mem_append_left _ (List.mem_append_right _ h))) (by decide +kernel))
set_option maxRecDepth 20000 in
theorem gX4_isLostWithout_X4_existingTitle : GoodIn wsX4_isLostWithout (wsV RX4 48 RX4 yX4_existingTitle wsX4_existingTitle) := goodIn_app (goodIn_of _ (by decide +kernel)) ggX4_isLostWithout_X4_existingTitle
set_option maxRecDepth 20000 in
theorem ggX4_isLostWithout_X4_yearsSoFar : GoodIn wsX4_isLostWithout wsX4_yearsSoFar := goodIn_r _ [62, 63, 1, 64, 38, 6, 39, 98, 99, 80, 81, 82, 83, 84, 85] (by decide +kernel) (by decide +kernel)
set_option maxRecDepth 20000 in
theorem gX4_isLostWithout_X4_yearsSoFar : GoodIn wsX4_isLostWithout (wsV RX4 128 RX4 yX4_yearsSoFar wsX4_yearsSoFar) := goodIn_app (goodIn_of _ (by decide +kernel)) ggX4_isLostWithout_X4_yearsSoFar
set_option maxRecDepth 20000 in
theorem ggX4_isLostWithout_X2_letsIn : GoodIn wsX4_isLostWithout wsX2_letsIn := goodIn_r _ [68, 69, 86, 87, 88, 89, 90, 91] (by decide +kernel) (by decide +kernel)
set_option maxRecDepth 20000 in
theorem gX4_isLostWithout_X2_letsIn : GoodIn wsX4_isLostWithout (wsV RX4 142 RX2 yX2_letsIn wsX2_letsIn) := goodIn_app (goodIn_of _ (by decide +kernel)) ggX4_isLostWithout_X2_letsIn
set_option maxRecDepth 20000 in
theorem ggX4_isLostWithout_X4_yearsCoveredButBy : GoodIn wsX4_isLostWithout wsX4_yearsCoveredButBy := goodIn_ca (goodIn_ca (goodIn_r _ [73, 10, 1, 3, 4, 5, 6, 7, 8, 9, 11, 65, 66, 67, 15, 68, 69, 74, 75, 76, 77, 78, 13, 14, 16, 17, 18, 19, 20, 21, 22, 23, 24, 25, 26, 27, 28, 29, 30, 31, 32, 33, 34, 35, 36, 37, 38, 39, 79, 41, 42, 43, 44, 45, 46, 47, 48, 49, 50, 51, 52, 80, 81, 82, 83, 84, 85, 86, 87, 88, 89, 90, 91, 92, 93, 94, 95, 96, 97] (by decide +kernel) (by decide +kernel)) (goodIn_sub (fun _ h => List.mem_cons_of_mem _ (List.mem_append_left _ (List.mem_append_right _ h))) (by decide +kernel))) (goodIn_sub (fun _ h => List.mem_cons_of_mem _ (List.mem_append_right _ h)) (by decide +kernel))
set_option maxRecDepth 20000 in
theorem gX4_isLostWithout_X4_yearsCoveredButBy : GoodIn wsX4_isLostWithout (wsV RX4 132 RX4 yX4_yearsCoveredButBy wsX4_yearsCoveredButBy) := goodIn_app (goodIn_of _ (by decide +kernel)) ggX4_isLostWithout_X4_yearsCoveredButBy
theorem dX4_isLostWithout_0 : decode cX4_isLostWithout 0 = .ok (.aload_n 0, 1) := by decide +kernel
theorem dX4_isLostWithout_1 : decode cX4_isLostWithout 1 = .ok (.iload_n 1, 1) := by decide +kernel
theorem dX4_isLostWithout_2 : decode cX4_isLostWithout 2 = .ok (.invokevirtual 64, 3) := by decide +kernel
theorem dX4_isLostWithout_5 : decode cX4_isLostWithout 5 = .ok (.astore_n 3, 1) := by decide +kernel
theorem dX4_isLostWithout_6 : decode cX4_isLostWithout 6 = .ok (.aload_n 3, 1) := by decide +kernel
theorem dX4_isLostWithout_7 : decode cX4_isLostWithout 7 = .ok (.iload_n 2, 1) := by decide +kernel
theorem dX4_isLostWithout_8 : decode cX4_isLostWithout 8 = .ok (.aload_n 0, 1) := by decide +kernel
theorem dX4_isLostWithout_9 : decode cX4_isLostWithout 9 = .ok (.getfield 31, 3) := by decide +kernel
theorem dX4_isLostWithout_12 : decode cX4_isLostWithout 12 = .ok (.invokevirtual 186, 3) := by decide +kernel
theorem dX4_isLostWithout_15 : decode cX4_isLostWithout 15 = .ok (.aload_n 3, 1) := by decide +kernel
theorem dX4_isLostWithout_16 : decode cX4_isLostWithout 16 = .ok (.iload_n 2, 1) := by decide +kernel
theorem dX4_isLostWithout_17 : decode cX4_isLostWithout 17 = .ok (.aload_n 0, 1) := by decide +kernel
theorem dX4_isLostWithout_18 : decode cX4_isLostWithout 18 = .ok (.getfield 31, 3) := by decide +kernel
theorem dX4_isLostWithout_21 : decode cX4_isLostWithout 21 = .ok (.invokevirtual 189, 3) := by decide +kernel
theorem dX4_isLostWithout_24 : decode cX4_isLostWithout 24 = .ok (.ldc2_w 136, 3) := by decide +kernel
theorem dX4_isLostWithout_27 : decode cX4_isLostWithout 27 = .ok (.lxor, 1) := by decide +kernel
theorem dX4_isLostWithout_28 : decode cX4_isLostWithout 28 = .ok (.land, 1) := by decide +kernel
theorem dX4_isLostWithout_29 : decode cX4_isLostWithout 29 = .ok (.aload_n 0, 1) := by decide +kernel
theorem dX4_isLostWithout_30 : decode cX4_isLostWithout 30 = .ok (.aload_n 0, 1) := by decide +kernel
theorem dX4_isLostWithout_31 : decode cX4_isLostWithout 31 = .ok (.iload_n 2, 1) := by decide +kernel
theorem dX4_isLostWithout_32 : decode cX4_isLostWithout 32 = .ok (.invokevirtual 48, 3) := by decide +kernel
theorem dX4_isLostWithout_35 : decode cX4_isLostWithout 35 = .ok (.invokevirtual 128, 3) := by decide +kernel
theorem dX4_isLostWithout_38 : decode cX4_isLostWithout 38 = .ok (.land, 1) := by decide +kernel
theorem dX4_isLostWithout_39 : decode cX4_isLostWithout 39 = .ok (.lstore 4, 2) := by decide +kernel
theorem dX4_isLostWithout_41 : decode cX4_isLostWithout 41 = .ok (.lload 4, 2) := by decide +kernel
theorem dX4_isLostWithout_43 : decode cX4_isLostWithout 43 = .ok (.lconst 0, 1) := by decide +kernel
theorem dX4_isLostWithout_44 : decode cX4_isLostWithout 44 = .ok (.lcmp, 1) := by decide +kernel
theorem dX4_isLostWithout_45 : decode cX4_isLostWithout 45 = .ok (.ifCond .ne 5, 3) := by decide +kernel
theorem dX4_isLostWithout_48 : decode cX4_isLostWithout 48 = .ok (.iconst 0, 1) := by decide +kernel
theorem dX4_isLostWithout_49 : decode cX4_isLostWithout 49 = .ok (.ireturn, 1) := by decide +kernel
theorem dX4_isLostWithout_50 : decode cX4_isLostWithout 50 = .ok (.iconst 0, 1) := by decide +kernel
theorem dX4_isLostWithout_51 : decode cX4_isLostWithout 51 = .ok (.istore 6, 2) := by decide +kernel
theorem dX4_isLostWithout_53 : decode cX4_isLostWithout 53 = .ok (.iload 6, 2) := by decide +kernel
theorem dX4_isLostWithout_55 : decode cX4_isLostWithout 55 = .ok (.iconst 3, 1) := by decide +kernel
theorem dX4_isLostWithout_56 : decode cX4_isLostWithout 56 = .ok (.if_icmp .gt 40, 3) := by decide +kernel
theorem dX4_isLostWithout_59 : decode cX4_isLostWithout 59 = .ok (.aload_n 3, 1) := by decide +kernel
theorem dX4_isLostWithout_60 : decode cX4_isLostWithout 60 = .ok (.iload 6, 2) := by decide +kernel
theorem dX4_isLostWithout_62 : decode cX4_isLostWithout 62 = .ok (.invokevirtual 142, 3) := by decide +kernel
theorem dX4_isLostWithout_65 : decode cX4_isLostWithout 65 = .ok (.ifCond .eq 25, 3) := by decide +kernel
theorem dX4_isLostWithout_68 : decode cX4_isLostWithout 68 = .ok (.lload 4, 2) := by decide +kernel
theorem dX4_isLostWithout_70 : decode cX4_isLostWithout 70 = .ok (.aload_n 0, 1) := by decide +kernel
theorem dX4_isLostWithout_71 : decode cX4_isLostWithout 71 = .ok (.iload_n 1, 1) := by decide +kernel
theorem dX4_isLostWithout_72 : decode cX4_isLostWithout 72 = .ok (.iload_n 2, 1) := by decide +kernel
theorem dX4_isLostWithout_73 : decode cX4_isLostWithout 73 = .ok (.iload 6, 2) := by decide +kernel
theorem dX4_isLostWithout_75 : decode cX4_isLostWithout 75 = .ok (.invokevirtual 132, 3) := by decide +kernel
theorem dX4_isLostWithout_78 : decode cX4_isLostWithout 78 = .ok (.ldc2_w 136, 3) := by decide +kernel
theorem dX4_isLostWithout_81 : decode cX4_isLostWithout 81 = .ok (.lxor, 1) := by decide +kernel
theorem dX4_isLostWithout_82 : decode cX4_isLostWithout 82 = .ok (.land, 1) := by decide +kernel
theorem dX4_isLostWithout_83 : decode cX4_isLostWithout 83 = .ok (.lconst 0, 1) := by decide +kernel
theorem dX4_isLostWithout_84 : decode cX4_isLostWithout 84 = .ok (.lcmp, 1) := by decide +kernel
theorem dX4_isLostWithout_85 : decode cX4_isLostWithout 85 = .ok (.ifCond .eq 5, 3) := by decide +kernel
theorem dX4_isLostWithout_88 : decode cX4_isLostWithout 88 = .ok (.iconst 1, 1) := by decide +kernel
theorem dX4_isLostWithout_89 : decode cX4_isLostWithout 89 = .ok (.ireturn, 1) := by decide +kernel
theorem dX4_isLostWithout_90 : decode cX4_isLostWithout 90 = .ok (.iinc 6 1, 3) := by decide +kernel
theorem dX4_isLostWithout_93 : decode cX4_isLostWithout 93 = .ok (.goto (-40), 3) := by decide +kernel
theorem dX4_isLostWithout_96 : decode cX4_isLostWithout 96 = .ok (.iconst 0, 1) := by decide +kernel
theorem dX4_isLostWithout_97 : decode cX4_isLostWithout 97 = .ok (.ireturn, 1) := by decide +kernel
theorem dX4_yearsBetween_0 : decode cX4_yearsBetween 0 = .ok (.iload_n 0, 1) := by decide +kernel
theorem dX4_yearsBetween_1 : decode cX4_yearsBetween 1 = .ok (.iload_n 1, 1) := by decide +kernel
theorem dX4_yearsBetween_2 : decode cX4_yearsBetween 2 = .ok (.if_icmp .le 7, 3) := by decide +kernel
theorem dX4_yearsBetween_5 : decode cX4_yearsBetween 5 = .ok (.lconst 0, 1) := by decide +kernel
theorem dX4_yearsBetween_6 : decode cX4_yearsBetween 6 = .ok (.goto 14, 3) := by decide +kernel
theorem dX4_yearsBetween_9 : decode cX4_yearsBetween 9 = .ok (.lconst 1, 1) := by decide +kernel
theorem dX4_yearsBetween_10 : decode cX4_yearsBetween 10 = .ok (.iload_n 1, 1) := by decide +kernel
theorem dX4_yearsBetween_11 : decode cX4_yearsBetween 11 = .ok (.iload_n 0, 1) := by decide +kernel
theorem dX4_yearsBetween_12 : decode cX4_yearsBetween 12 = .ok (.isub, 1) := by decide +kernel
theorem dX4_yearsBetween_13 : decode cX4_yearsBetween 13 = .ok (.iconst 1, 1) := by decide +kernel
theorem dX4_yearsBetween_14 : decode cX4_yearsBetween 14 = .ok (.iadd, 1) := by decide +kernel
theorem dX4_yearsBetween_15 : decode cX4_yearsBetween 15 = .ok (.lshl, 1) := by decide +kernel
theorem dX4_yearsBetween_16 : decode cX4_yearsBetween 16 = .ok (.lconst 1, 1) := by decide +kernel
theorem dX4_yearsBetween_17 : decode cX4_yearsBetween 17 = .ok (.lsub, 1) := by decide +kernel
theorem dX4_yearsBetween_18 : decode cX4_yearsBetween 18 = .ok (.iload_n 0, 1) := by decide +kernel
theorem dX4_yearsBetween_19 : decode cX4_yearsBetween 19 = .ok (.lshl, 1) := by decide +kernel
theorem dX4_yearsBetween_20 : decode cX4_yearsBetween 20 = .ok (.lreturn, 1) := by decide +kernel
theorem dX4_hasYear_0 : decode cX4_hasYear 0 = .ok (.lload_n 0, 1) := by decide +kernel
theorem dX4_hasYear_1 : decode cX4_hasYear 1 = .ok (.iload_n 2, 1) := by decide +kernel
theorem dX4_hasYear_2 : decode cX4_hasYear 2 = .ok (.lshr, 1) := by decide +kernel
theorem dX4_hasYear_3 : decode cX4_hasYear 3 = .ok (.lconst 1, 1) := by decide +kernel
theorem dX4_hasYear_4 : decode cX4_hasYear 4 = .ok (.land, 1) := by decide +kernel
theorem dX4_hasYear_5 : decode cX4_hasYear 5 = .ok (.lconst 1, 1) := by decide +kernel
theorem dX4_hasYear_6 : decode cX4_hasYear 6 = .ok (.lcmp, 1) := by decide +kernel
theorem dX4_hasYear_7 : decode cX4_hasYear 7 = .ok (.ifCond .ne 7, 3) := by decide +kernel
theorem dX4_hasYear_10 : decode cX4_hasYear 10 = .ok (.iconst 1, 1) := by decide +kernel
theorem dX4_hasYear_11 : decode cX4_hasYear 11 = .ok (.goto 4, 3) := by decide +kernel
theorem dX4_hasYear_14 : decode cX4_hasYear 14 = .ok (.iconst 0, 1) := by decide +kernel
theorem dX4_hasYear_15 : decode cX4_hasYear 15 = .ok (.ireturn, 1) := by decide +kernel
theorem dJ6_bitCount_0f7a4_0 : decode cJ6_bitCount_0f7a4 0 = .ok (.iload_n 0, 1) := by decide +kernel
theorem dJ6_bitCount_0f7a4_1 : decode cJ6_bitCount_0f7a4 1 = .ok (.iload_n 0, 1) := by decide +kernel
theorem dJ6_bitCount_0f7a4_2 : decode cJ6_bitCount_0f7a4 2 = .ok (.iconst 1, 1) := by decide +kernel
theorem dJ6_bitCount_0f7a4_3 : decode cJ6_bitCount_0f7a4 3 = .ok (.iushr, 1) := by decide +kernel
theorem dJ6_bitCount_0f7a4_4 : decode cJ6_bitCount_0f7a4 4 = .ok (.ldc_w 265, 3) := by decide +kernel
theorem dJ6_bitCount_0f7a4_7 : decode cJ6_bitCount_0f7a4 7 = .ok (.iand, 1) := by decide +kernel
theorem dJ6_bitCount_0f7a4_8 : decode cJ6_bitCount_0f7a4 8 = .ok (.isub, 1) := by decide +kernel
theorem dJ6_bitCount_0f7a4_9 : decode cJ6_bitCount_0f7a4 9 = .ok (.istore_n 0, 1) := by decide +kernel
theorem dJ6_bitCount_0f7a4_10 : decode cJ6_bitCount_0f7a4 10 = .ok (.iload_n 0, 1) := by decide +kernel
theorem dJ6_bitCount_0f7a4_11 : decode cJ6_bitCount_0f7a4 11 = .ok (.ldc_w 266, 3) := by decide +kernel
theorem dJ6_bitCount_0f7a4_14 : decode cJ6_bitCount_0f7a4 14 = .ok (.iand, 1) := by decide +kernel
theorem dJ6_bitCount_0f7a4_15 : decode cJ6_bitCount_0f7a4 15 = .ok (.iload_n 0, 1) := by decide +kernel
theorem dJ6_bitCount_0f7a4_16 : decode cJ6_bitCount_0f7a4 16 = .ok (.iconst 2, 1) := by decide +kernel
theorem dJ6_bitCount_0f7a4_17 : decode cJ6_bitCount_0f7a4 17 = .ok (.iushr, 1) := by decide +kernel
theorem dJ6_bitCount_0f7a4_18 : decode cJ6_bitCount_0f7a4 18 = .ok (.ldc_w 266, 3) := by decide +kernel
theorem dJ6_bitCount_0f7a4_21 : decode cJ6_bitCount_0f7a4 21 = .ok (.iand, 1) := by decide +kernel
theorem dJ6_bitCount_0f7a4_22 : decode cJ6_bitCount_0f7a4 22 = .ok (.iadd, 1) := by decide +kernel
theorem dJ6_bitCount_0f7a4_23 : decode cJ6_bitCount_0f7a4 23 = .ok (.istore_n 0, 1) := by decide +kernel
theorem dJ6_bitCount_0f7a4_24 : decode cJ6_bitCount_0f7a4 24 = .ok (.iload_n 0, 1) := by decide +kernel
theorem dJ6_bitCount_0f7a4_25 : decode cJ6_bitCount_0f7a4 25 = .ok (.iload_n 0, 1) := by decide +kernel
theorem dJ6_bitCount_0f7a4_26 : decode cJ6_bitCount_0f7a4 26 = .ok (.iconst 4, 1) := by decide +kernel
theorem dJ6_bitCount_0f7a4_27 : decode cJ6_bitCount_0f7a4 27 = .ok (.iushr, 1) := by decide +kernel
theorem dJ6_bitCount_0f7a4_28 : decode cJ6_bitCount_0f7a4 28 = .ok (.iadd, 1) := by decide +kernel
theorem dJ6_bitCount_0f7a4_29 : decode cJ6_bitCount_0f7a4 29 = .ok (.ldc_w 267, 3) := by decide +kernel
theorem dJ6_bitCount_0f7a4_32 : decode cJ6_bitCount_0f7a4 32 = .ok (.iand, 1) := by decide +kernel
theorem dJ6_bitCount_0f7a4_33 : decode cJ6_bitCount_0f7a4 33 = .ok (.istore_n 0, 1) := by decide +kernel
theorem dJ6_bitCount_0f7a4_34 : decode cJ6_bitCount_0f7a4 34 = .ok (.iload_n 0, 1) := by decide +kernel
theorem dJ6_bitCount_0f7a4_35 : decode cJ6_bitCount_0f7a4 35 = .ok (.iload_n 0, 1) := by decide +kernel
theorem dJ6_bitCount_0f7a4_36 : decode cJ6_bitCount_0f7a4 36 = .ok (.bipush 8, 2) := by decide +kernel
theorem dJ6_bitCount_0f7a4_38 : decode cJ6_bitCount_0f7a4 38 = .ok (.iushr, 1) := by decide +kernel
theorem dJ6_bitCount_0f7a4_39 : decode cJ6_bitCount_0f7a4 39 = .ok (.iadd, 1) := by decide +kernel
theorem dJ6_bitCount_0f7a4_40 : decode cJ6_bitCount_0f7a4 40 = .ok (.istore_n 0, 1) := by decide +kernel
theorem dJ6_bitCount_0f7a4_41 : decode cJ6_bitCount_0f7a4 41 = .ok (.iload_n 0, 1) := by decide +kernel
theorem dJ6_bitCount_0f7a4_42 : decode cJ6_bitCount_0f7a4 42 = .ok (.iload_n 0, 1) := by decide +kernel
theorem dJ6_bitCount_0f7a4_43 : decode cJ6_bitCount_0f7a4 43 = .ok (.bipush 16, 2) := by decide +kernel
theorem dJ6_bitCount_0f7a4_45 : decode cJ6_bitCount_0f7a4 45 = .ok (.iushr, 1) := by decide +kernel
theorem dJ6_bitCount_0f7a4_46 : decode cJ6_bitCount_0f7a4 46 = .ok (.iadd, 1) := by decide +kernel
theorem dJ6_bitCount_0f7a4_47 : decode cJ6_bitCount_0f7a4 47 = .ok (.istore_n 0, 1) := by decide +kernel
theorem dJ6_bitCount_0f7a4_48 : decode cJ6_bitCount_0f7a4 48 = .ok (.iload_n 0, 1) := by decide +kernel
theorem dJ6_bitCount_0f7a4_49 : decode cJ6_bitCount_0f7a4 49 = .ok (.bipush 63, 2) := by decide +kernel
theorem dJ6_bitCount_0f7a4_51 : decode cJ6_bitCount_0f7a4 51 = .ok (.iand, 1) := by decide +kernel
theorem dJ6_bitCount_0f7a4_52 : decode cJ6_bitCount_0f7a4 52 = .ok (.ireturn, 1) := by decide +kernel
theorem dJ13_bitCount_95d88_0 : decode cJ13_bitCount_95d88 0 = .ok (.lload_n 0, 1) := by decide +kernel
theorem dJ13_bitCount_95d88_1 : decode cJ13_bitCount_95d88 1 = .ok (.lload_n 0, 1) := by decide +kernel
theorem dJ13_bitCount_95d88_2 : decode cJ13_bitCount_95d88 2 = .ok (.iconst 1, 1) := by decide +kernel
theorem dJ13_bitCount_95d88_3 : decode cJ13_bitCount_95d88 3 = .ok (.lushr, 1) := by decide +kernel
theorem dJ13_bitCount_95d88_4 : decode cJ13_bitCount_95d88 4 = .ok (.ldc2_w 314, 3) := by decide +kernel
theorem dJ13_bitCount_95d88_7 : decode cJ13_bitCount_95d88 7 = .ok (.land, 1) := by decide +kernel
theorem dJ13_bitCount_95d88_8 : decode cJ13_bitCount_95d88 8 = .ok (.lsub, 1) := by decide +kernel
theorem dJ13_bitCount_95d88_9 : decode cJ13_bitCount_95d88 9 = .ok (.lstore_n 0, 1) := by decide +kernel
theorem dJ13_bitCount_95d88_10 : decode cJ13_bitCount_95d88 10 = .ok (.lload_n 0, 1) := by decide +kernel
theorem dJ13_bitCount_95d88_11 : decode cJ13_bitCount_95d88 11 = .ok (.ldc2_w 316, 3) := by decide +kernel
theorem dJ13_bitCount_95d88_14 : decode cJ13_bitCount_95d88 14 = .ok (.land, 1) := by decide +kernel
theorem dJ13_bitCount_95d88_15 : decode cJ13_bitCount_95d88 15 = .ok (.lload_n 0, 1) := by decide +kernel
theorem dJ13_bitCount_95d88_16 : decode cJ13_bitCount_95d88 16 = .ok (.iconst 2, 1) := by decide +kernel
theorem dJ13_bitCount_95d88_17 : decode cJ13_bitCount_95d88 17 = .ok (.lushr, 1) := by decide +kernel
theorem dJ13_bitCount_95d88_18 : decode cJ13_bitCount_95d88 18 = .ok (.ldc2_w 316, 3) := by decide +kernel
theorem dJ13_bitCount_95d88_21 : decode cJ13_bitCount_95d88 21 = .ok (.land, 1) := by decide +kernel
theorem dJ13_bitCount_95d88_22 : decode cJ13_bitCount_95d88 22 = .ok (.ladd, 1) := by decide +kernel
theorem dJ13_bitCount_95d88_23 : decode cJ13_bitCount_95d88 23 = .ok (.lstore_n 0, 1) := by decide +kernel
theorem dJ13_bitCount_95d88_24 : decode cJ13_bitCount_95d88 24 = .ok (.lload_n 0, 1) := by decide +kernel
theorem dJ13_bitCount_95d88_25 : decode cJ13_bitCount_95d88 25 = .ok (.lload_n 0, 1) := by decide +kernel
theorem dJ13_bitCount_95d88_26 : decode cJ13_bitCount_95d88 26 = .ok (.iconst 4, 1) := by decide +kernel
theorem dJ13_bitCount_95d88_27 : decode cJ13_bitCount_95d88 27 = .ok (.lushr, 1) := by decide +kernel
theorem dJ13_bitCount_95d88_28 : decode cJ13_bitCount_95d88 28 = .ok (.ladd, 1) := by decide +kernel
theorem dJ13_bitCount_95d88_29 : decode cJ13_bitCount_95d88 29 = .ok (.ldc2_w 318, 3) := by decide +kernel
theorem dJ13_bitCount_95d88_32 : decode cJ13_bitCount_95d88 32 = .ok (.land, 1) := by decide +kernel
theorem dJ13_bitCount_95d88_33 : decode cJ13_bitCount_95d88 33 = .ok (.lstore_n 0, 1) := by decide +kernel
theorem dJ13_bitCount_95d88_34 : decode cJ13_bitCount_95d88 34 = .ok (.lload_n 0, 1) := by decide +kernel
theorem dJ13_bitCount_95d88_35 : decode cJ13_bitCount_95d88 35 = .ok (.lload_n 0, 1) := by decide +kernel
theorem dJ13_bitCount_95d88_36 : decode cJ13_bitCount_95d88 36 = .ok (.bipush 8, 2) := by decide +kernel
theorem dJ13_bitCount_95d88_38 : decode cJ13_bitCount_95d88 38 = .ok (.lushr, 1) := by decide +kernel
theorem dJ13_bitCount_95d88_39 : decode cJ13_bitCount_95d88 39 = .ok (.ladd, 1) := by decide +kernel
theorem dJ13_bitCount_95d88_40 : decode cJ13_bitCount_95d88 40 = .ok (.lstore_n 0, 1) := by decide +kernel
theorem dJ13_bitCount_95d88_41 : decode cJ13_bitCount_95d88 41 = .ok (.lload_n 0, 1) := by decide +kernel
theorem dJ13_bitCount_95d88_42 : decode cJ13_bitCount_95d88 42 = .ok (.lload_n 0, 1) := by decide +kernel
theorem dJ13_bitCount_95d88_43 : decode cJ13_bitCount_95d88 43 = .ok (.bipush 16, 2) := by decide +kernel
theorem dJ13_bitCount_95d88_45 : decode cJ13_bitCount_95d88 45 = .ok (.lushr, 1) := by decide +kernel
theorem dJ13_bitCount_95d88_46 : decode cJ13_bitCount_95d88 46 = .ok (.ladd, 1) := by decide +kernel
theorem dJ13_bitCount_95d88_47 : decode cJ13_bitCount_95d88 47 = .ok (.lstore_n 0, 1) := by decide +kernel
theorem dJ13_bitCount_95d88_48 : decode cJ13_bitCount_95d88 48 = .ok (.lload_n 0, 1) := by decide +kernel
theorem dJ13_bitCount_95d88_49 : decode cJ13_bitCount_95d88 49 = .ok (.lload_n 0, 1) := by decide +kernel
theorem dJ13_bitCount_95d88_50 : decode cJ13_bitCount_95d88 50 = .ok (.bipush 32, 2) := by decide +kernel
theorem dJ13_bitCount_95d88_52 : decode cJ13_bitCount_95d88 52 = .ok (.lushr, 1) := by decide +kernel
theorem dJ13_bitCount_95d88_53 : decode cJ13_bitCount_95d88 53 = .ok (.ladd, 1) := by decide +kernel
theorem dJ13_bitCount_95d88_54 : decode cJ13_bitCount_95d88 54 = .ok (.lstore_n 0, 1) := by decide +kernel
theorem dJ13_bitCount_95d88_55 : decode cJ13_bitCount_95d88 55 = .ok (.lload_n 0, 1) := by decide +kernel
theorem dJ13_bitCount_95d88_56 : decode cJ13_bitCount_95d88 56 = .ok (.l2i, 1) := by decide +kernel
theorem dJ13_bitCount_95d88_57 : decode cJ13_bitCount_95d88 57 = .ok (.bipush 127, 2) := by decide +kernel
theorem dJ13_bitCount_95d88_59 : decode cJ13_bitCount_95d88 59 = .ok (.iand, 1) := by decide +kernel
theorem dJ13_bitCount_95d88_60 : decode cJ13_bitCount_95d88 60 = .ok (.ireturn, 1) := by decide +kernel
theorem dJ9_min_7cf53_0 : decode cJ9_min_7cf53 0 = .ok (.iload_n 0, 1) := by decide +kernel
theorem dJ9_min_7cf53_1 : decode cJ9_min_7cf53 1 = .ok (.iload_n 1, 1) := by decide +kernel
theorem dJ9_min_7cf53_2 : decode cJ9_min_7cf53 2 = .ok (.if_icmp .gt 7, 3) := by decide +kernel
theorem dJ9_min_7cf53_5 : decode cJ9_min_7cf53 5 = .ok (.iload_n 0, 1) := by decide +kernel
theorem dJ9_min_7cf53_6 : decode cJ9_min_7cf53 6 = .ok (.goto 4, 3) := by decide +kernel
theorem dJ9_min_7cf53_9 : decode cJ9_min_7cf53 9 = .ok (.iload_n 1, 1) := by decide +kernel
theorem dJ9_min_7cf53_10 : decode cJ9_min_7cf53 10 = .ok (.ireturn, 1) := by decide +kernel
theorem dL_draw_0 : decode cL_draw 0 = .ok (.iload_n 1, 1) := by decide +kernel
theorem dL_draw_1 : decode cL_draw 1 = .ok (.aload_n 0, 1) := by decide +kernel
theorem dL_draw_2 : decode cL_draw 2 = .ok (.arraylength, 1) := by decide +kernel
theorem dL_draw_3 : decode cL_draw 3 = .ok (.if_icmp .ge 12, 3) := by decide +kernel
theorem dL_draw_6 : decode cL_draw 6 = .ok (.aload_n 0, 1) := by decide +kernel
theorem dL_draw_7 : decode cL_draw 7 = .ok (.iload_n 1, 1) := by decide +kernel
theorem dL_draw_8 : decode cL_draw 8 = .ok (.iaload, 1) := by decide +kernel
theorem dL_draw_9 : decode cL_draw 9 = .ok (.ldc 7, 2) := by decide +kernel
theorem dL_draw_11 : decode cL_draw 11 = .ok (.iand, 1) := by decide +kernel
theorem dL_draw_12 : decode cL_draw 12 = .ok (.goto 12, 3) := by decide +kernel
theorem dL_draw_15 : decode cL_draw 15 = .ok (.ldc 8, 2) := by decide +kernel
theorem dL_draw_17 : decode cL_draw 17 = .ok (.iload_n 1, 1) := by decide +kernel
theorem dL_draw_18 : decode cL_draw 18 = .ok (.iconst 2, 1) := by decide +kernel
theorem dL_draw_19 : decode cL_draw 19 = .ok (.iadd, 1) := by decide +kernel
theorem dL_draw_20 : decode cL_draw 20 = .ok (.imul, 1) := by decide +kernel
theorem dL_draw_21 : decode cL_draw 21 = .ok (.ldc 9, 2) := by decide +kernel
theorem dL_draw_23 : decode cL_draw 23 = .ok (.irem, 1) := by decide +kernel
theorem dL_draw_24 : decode cL_draw 24 = .ok (.ireturn, 1) := by decide +kernel
set_option maxRecDepth 20000 in
theorem ggL_step_X4_addPackage : GoodIn wsL_step wsX4_addPackage := goodIn_ca (goodIn_ca (goodIn_r _ [5, 6, 7, 8, 9, 10, 11, 12, 13, 14, 4, 15, 16, 17, 18, 19, 20, 21, 22, 23, 24, 25, 26, 27, 28, 29, 30, 31, 32, 33, 34, 35, 36, 37, 38, 164, 165, 166, 167, 168, 169, 170, 171, 172, 173, 174, 175, 176, 177] (by decide +kernel) (by decide +kernel)) (goodIn_sub (fun _ h => List.mem_cons_of_mem _ (List.mem_append_left _ (List.mem_append_left _ (List.mem_append_left _ (List.mem_append_right _ h))))) (by decide +kernel))) (goodIn_sub (fun _ h => List.mem_cons_of_mem _ (List.mem_append_left _ (List.mem_append_left _ (List.mem_append_right _ h)))) (by decide +kernel))
set_option maxRecDepth 20000 in
theorem gL_step_X4_addPackage : GoodIn wsL_step (wsV RL 10 RX4 yX4_addPackage wsX4_addPackage) := goodIn_app (goodIn_of _ (by decide +kernel)) ggL_step_X4_addPackage
set_option maxRecDepth 20000 in
theorem ggL_step_X4_isSubscribed : GoodIn wsL_step wsX4_isSubscribed := goodIn_ca (goodIn_ca (goodIn_r _ [42, 43, 44, 45, 46, 47, 4, 48, 49, 50, 8, 9, 13, 14, 15, 16, 17, 51, 52, 53, 30, 54, 55, 56, 57, 58, 59, 37, 60, 61, 170, 171, 172, 173, 174, 175, 164, 165, 166, 167, 168, 169, 178, 179, 180, 181, 176, 177] (by decide +kernel) (by decide +kernel)) (goodIn_sub (fun _ h => List.mem_cons_of_mem _ (List.mem_append_left _ (List.mem_append_right _ h))) (by decide +kernel))) (goodIn_sub (fun _ h => List.mem_cons_of_mem _ (List.mem_append_left _ (List.mem_append_left _ (List.mem_append_right _ h)))) (by decide +kernel))
set_option maxRecDepth 20000 in
theorem gL_step_X4_isSubscribed : GoodIn wsL_step (wsV RL 16 RX4 yX4_isSubscribed wsX4_isSubscribed) := goodIn_app (goodIn_of _ (by decide +kernel)) ggL_step_X4_isSubscribed
set_option maxRecDepth 20000 in
theorem ggL_step_X4_addTitle : GoodIn wsL_step wsX4_addTitle := goodIn_ca (goodIn_ca (goodIn_r _ [65, 6, 7, 66, 67, 68, 69, 70, 13, 14, 4, 15, 16, 17, 71, 72, 73, 74, 22, 23, 75, 76, 164, 165, 166, 167, 168, 169, 182, 183] (by decide +kernel) (by decide +kernel)) (goodIn_sub (fun _ h => List.mem_cons_of_mem _ (List.mem_append_left _ (List.mem_append_left _ (List.mem_append_left _ (List.mem_append_right _ h))))) (by decide +kernel))) (goodIn_sub (fun _ h => List.mem_cons_of_mem _ (List.mem_append_left _ (List.mem_append_left _ (List.mem_append_right _ h)))) (by decide +kernel))
set_option maxRecDepth 20000 in
theorem gL_step_X4_addTitle : GoodIn wsL_step (wsV RL 20 RX4 yX4_addTitle wsX4_addTitle) := goodIn_app (goodIn_of _ (by decide +kernel)) ggL_step_X4_addTitle
set_option maxRecDepth 20000 in
theorem ggL_step_X4_volumeOf : GoodIn wsL_step wsX4_volumeOf := goodIn_ca (goodIn_ca (goodIn_r _ [80, 81, 82, 83, 84, 4, 85, 49, 50, 66, 67, 13, 14, 15, 16, 17, 86, 87, 88, 70, 89, 75, 76, 182, 183, 164, 165, 166, 167, 168, 169] (by decide +kernel) (by decide +kernel)) (goodIn_sub (fun _ h => List.mem_cons_of_mem _ (List.mem_append_left _ (List.mem_append_right _ h))) (by decide +kernel))) (goodIn_sub (fun _ h => List.mem_cons_of_mem _ (List.mem_append_left _ (List.mem_append_left _ (List.mem_append_right _ h)))) (by decide +kernel))
set_option maxRecDepth 20000 in
theorem gL_step_X4_volumeOf : GoodIn wsL_step (wsV RL 24 RX4 yX4_volumeOf wsX4_volumeOf) := goodIn_app (goodIn_of _ (by decide +kernel)) ggL_step_X4_volumeOf
set_option maxRecDepth 20000 in
theorem ggL_step_X4_yearOf : GoodIn wsL_step wsX4_yearOf := goodIn_ca (goodIn_ca (goodIn_r _ [93, 81, 82, 83, 84, 4, 85, 49, 50, 66, 67, 86, 87, 88, 70, 89, 75, 76, 13, 14, 15, 16, 17, 182, 183, 164, 165, 166, 167, 168, 169] (by decide +kernel) (by decide +kernel)) (goodIn_sub (fun _ h => List.mem_cons_of_mem _ (List.mem_append_left _ (List.mem_append_right _ h))) (by decide +kernel))) (goodIn_sub (fun _ h => List.mem_cons_of_mem _ (List.mem_append_left _ (List.mem_append_left _ (List.mem_append_right _ h)))) (by decide +kernel))
set_option maxRecDepth 20000 in
theorem gL_step_X4_yearOf : GoodIn wsL_step (wsV RL 27 RX4 yX4_yearOf wsX4_yearOf) := goodIn_app (goodIn_of _ (by decide +kernel)) ggL_step_X4_yearOf
set_option maxRecDepth 20000 in
theorem ggL_step_X4_isIn : GoodIn wsL_step wsX4_isIn := goodIn_ca (goodIn_ca (goodIn_ca (goodIn_r _ [97, 44, 98, 99, 100, 4, 101, 45, 46, 47, 48, 49, 50, 8, 9, 82, 83, 84, 85, 66, 67, 102, 103, 104, 12, 105, 106, 32, 13, 14, 15, 16, 17, 51, 52, 53, 30, 54, 55, 56, 57, 58, 59, 37, 60, 61, 164, 165, 166, 167, 168, 169, 170, 171, 172, 173, 174, 175, 178, 179, 180, 181, 176, 177] (by decide +kernel) (by decide +kernel)) (goodIn_sub (fun _ h => List.mem_cons_of_mem _ (List.mem_append_left _ (List.mem_append_right _ h))) (by decide +kernel))) (goodIn_sub (fun _ h => List.mem_cons_of_mem _ (List.mem_append_right _ h)) (by decide +kernel))) (goodIn_sub (fun _ h => List.mem_cons_of_mem _ (List.mem_append_left _ (List.mem_append_left _ (List.mem_append_right _ h)))) (by decide +kernel))
set_option maxRecDepth 20000 in
theorem gL_step_X4_isIn : GoodIn wsL_step (wsV RL 30 RX4 yX4_isIn wsX4_isIn) := goodIn_app (goodIn_of _ (by decide +kernel)) ggL_step_X4_isIn
set_option maxRecDepth 20000 in
theorem ggL_step_X4_subscribe : GoodIn wsL_step wsX4_subscribe := goodIn_ca (goodIn_r _ [110, 43, 44, 111, 45, 46, 47, 4, 48, 49, 50, 8, 9, 51, 52, 53, 30, 54, 55, 56, 57, 58, 59, 37, 60, 61, 112, 113, 114, 115, 116, 117, 118, 119, 120, 121, 122, 123, 124, 125, 126, 127, 22, 23, 128, 129, 130, 131, 170, 171, 172, 173, 174, 175, 164, 165, 166, 167, 168, 169, 178, 179, 180, 181, 176, 177] (by decide +kernel) (by decide +kernel)) (goodIn_sub (fun _ h => List.mem_cons_of_mem _ (List.mem_append_left _ (List.mem_append_right _ h))) (by decide +kernel))
set_option maxRecDepth 20000 in
theorem gL_step_X4_subscribe : GoodIn wsL_step (wsV RL 34 RX4 yX4_subscribe wsX4_subscribe) := goodIn_app (goodIn_of _ (by decide +kernel)) ggL_step_X4_subscribe
set_option maxRecDepth 20000 in
theorem ggL_step_X4_come : GoodIn wsL_step wsX4_come := goodIn_ca (goodIn_ca (goodIn_ca (goodIn_r _ [135, 44, 98, 99, 100, 4, 101, 45, 46, 47, 48, 49, 50, 8, 9, 82, 83, 84, 85, 66, 67, 102, 103, 104, 12, 105, 106, 32, 13, 14, 15, 16, 17, 51, 52, 53, 30, 54, 55, 56, 57, 58, 59, 37, 60, 61, 136, 137, 138, 112, 113, 114, 115, 116, 117, 118, 119, 120, 121, 122, 123, 124, 125, 126, 127, 22, 23, 128, 129, 130, 131, 164, 165, 166, 167, 168, 169, 170, 171, 172, 173, 174, 175, 178, 179, 180, 181, 176, 177] (by decide +kernel) (by decide +kernel)) (goodIn_sub (fun _ h => List.mem_cons_of_mem _ (List.mem_append_left _ (List.mem_append_right _ h))) (by decide +kernel))) (goodIn_sub (fun _ h => List.mem_cons_of_mem _ (List.mem_append_right _ h)) (by decide +kernel))) (goodIn_sub (fun _ h => List.mem_cons_of_mem _ (List.mem_append_left _ (List.mem_append_left _ (List.mem_append_right _ h)))) (by decide +kernel))
set_option maxRecDepth 20000 in
theorem gL_step_X4_come : GoodIn wsL_step (wsV RL 38 RX4 yX4_come wsX4_come) := goodIn_app (goodIn_of _ (by decide +kernel)) ggL_step_X4_come
set_option maxRecDepth 20000 in
theorem ggL_step_X4_go : GoodIn wsL_step wsX4_go := goodIn_ca (goodIn_ca (goodIn_ca (goodIn_r _ [142, 6, 7, 44, 98, 99, 100, 4, 101, 45, 46, 47, 48, 49, 50, 8, 9, 82, 83, 84, 85, 66, 67, 102, 103, 104, 12, 105, 106, 32, 51, 52, 53, 30, 54, 55, 56, 57, 58, 59, 37, 60, 61, 112, 113, 114, 115, 116, 117, 118, 119, 120, 121, 122, 123, 124, 125, 126, 127, 22, 23, 128, 129, 130, 131, 164, 165, 166, 167, 168, 169, 170, 171, 172, 173, 174, 175, 178, 179, 180, 181, 176, 177] (by decide +kernel) (by decide +kernel)) (goodIn_sub (fun _ h => List.mem_cons_of_mem _ (List.mem_append_left _ (List.mem_append_left _ (List.mem_append_left _ (List.mem_append_right _ h))))) (by decide +kernel))) (goodIn_sub (fun _ h => List.mem_cons_of_mem _ (List.mem_append_left _ (List.mem_append_right _ h))) (by decide +kernel))) (goodIn_sub (fun _ h => List.mem_cons_of_mem _ (List.mem_append_right _ h)) (by decide +kernel))
set_option maxRecDepth 20000 in
theorem gL_step_X4_go : GoodIn wsL_step (wsV RL 42 RX4 yX4_go wsX4_go) := goodIn_app (goodIn_of _ (by decide +kernel)) ggL_step_X4_go
set_option maxRecDepth 20000 in
theorem ggL_step_X4_today : GoodIn wsL_step wsX4_today := goodIn_r _ [146, 44, 164, 165, 166, 167, 168, 169] (by decide +kernel) (by decide +kernel)
set_option maxRecDepth 20000 in
theorem gL_step_X4_today : GoodIn wsL_step (wsV RL 46 RX4 yX4_today wsX4_today) := goodIn_app (goodIn_of _ (by decide +kernel)) ggL_step_X4_today
set_option maxRecDepth 20000 in
theorem ggL_step_X4_pass : GoodIn wsL_step wsX4_pass := goodIn_ca (goodIn_ca (goodIn_r _ [150, 6, 7, 44, 13, 14, 4, 15, 16, 17, 164, 165, 166, 167, 168, 169] (by decide +kernel) (by decide +kernel)) (goodIn_sub (fun _ h => List.mem_cons_of_mem _ (List.mem_append_left _ (List.mem_append_left _ (List.mem_append_left _ (List.mem_append_right _ h))))) (by decide +kernel))) (goodIn_sub (fun _ h => List.mem_cons_of_mem _ (List.mem_append_left _ (List.mem_append_left _ (List.mem_append_right _ h)))) (by decide +kernel))
set_option maxRecDepth 20000 in
theorem gL_step_X4_pass : GoodIn wsL_step (wsV RL 50 RX4 yX4_pass wsX4_pass) := goodIn_app (goodIn_of _ (by decide +kernel)) ggL_step_X4_pass
set_option maxRecDepth 20000 in
theorem ggL_step_X4_report : GoodIn wsL_step wsX4_report := goodIn_ca (goodIn_ca (goodIn_r _ [154, 155, 98, 99, 100, 4, 101, 45, 46, 47, 48, 49, 50, 8, 9, 82, 83, 84, 85, 66, 67, 102, 103, 104, 12, 105, 106, 32, 176, 177, 164, 165, 166, 167, 168, 169, 170, 171, 172, 173, 174, 175] (by decide +kernel) (by decide +kernel)) (goodIn_sub (fun _ h => List.mem_cons_of_mem _ (List.mem_append_left _ (List.mem_append_right _ h))) (by decide +kernel))) (goodIn_sub (fun _ h => List.mem_cons_of_mem _ (List.mem_append_right _ h)) (by decide +kernel))
set_option maxRecDepth 20000 in
theorem gL_step_X4_report : GoodIn wsL_step (wsV RL 54 RX4 yX4_report wsX4_report) := goodIn_app (goodIn_of _ (by decide +kernel)) ggL_step_X4_report
set_option maxRecDepth 20000 in
theorem ggL_step_X4_mend : GoodIn wsL_step wsX4_mend := goodIn_ca (goodIn_ca (goodIn_r _ [159, 155, 98, 99, 100, 4, 101, 45, 46, 47, 48, 49, 50, 8, 9, 82, 83, 84, 85, 66, 67, 102, 103, 104, 12, 105, 106, 32, 176, 177, 164, 165, 166, 167, 168, 169, 170, 171, 172, 173, 174, 175] (by decide +kernel) (by decide +kernel)) (goodIn_sub (fun _ h => List.mem_cons_of_mem _ (List.mem_append_left _ (List.mem_append_right _ h))) (by decide +kernel))) (goodIn_sub (fun _ h => List.mem_cons_of_mem _ (List.mem_append_right _ h)) (by decide +kernel))
set_option maxRecDepth 20000 in
theorem gL_step_X4_mend : GoodIn wsL_step (wsV RL 57 RX4 yX4_mend wsX4_mend) := goodIn_app (goodIn_of _ (by decide +kernel)) ggL_step_X4_mend
set_option maxRecDepth 20000 in
theorem ggL_step_L_volumes : GoodIn wsL_step wsL_volumes := goodIn_ca (goodIn_ca (goodIn_r _ [163, 90, 91, 92, 4, 93, 81, 82, 83, 84, 85, 49, 50, 66, 67, 86, 87, 88, 70, 89, 75, 76, 13, 14, 15, 16, 17, 77, 78, 79, 80, 182, 183, 164, 165, 166, 167, 168, 169] (by decide +kernel) (by decide +kernel)) (goodIn_sub (fun _ h => List.mem_cons_of_mem _ (List.mem_append_left _ (List.mem_append_right _ h))) (by decide +kernel))) (goodIn_sub (fun _ h => List.mem_cons_of_mem _ (List.mem_append_left _ (List.mem_append_left _ (List.mem_append_right _ h)))) (by decide +kernel))
set_option maxRecDepth 20000 in
theorem gL_step_L_volumes : GoodIn wsL_step (va_wsS RL 60 yL_volumes wsL_volumes) := goodIn_app (goodIn_of _ (by decide +kernel)) ggL_step_L_volumes
theorem dL_step_0 : decode cL_step 0 = .ok (.aload_n 1, 1) := by decide +kernel
theorem dL_step_1 : decode cL_step 1 = .ok (.bipush 38, 2) := by decide +kernel
theorem dL_step_3 : decode cL_step 3 = .ok (.iaload, 1) := by decide +kernel
theorem dL_step_4 : decode cL_step 4 = .ok (.istore 7, 2) := by decide +kernel
theorem dL_step_6 : decode cL_step 6 = .ok (.aload_n 1, 1) := by decide +kernel
theorem dL_step_7 : decode cL_step 7 = .ok (.bipush 39, 2) := by decide +kernel
theorem dL_step_9 : decode cL_step 9 = .ok (.iaload, 1) := by decide +kernel
theorem dL_step_10 : decode cL_step 10 = .ok (.istore 8, 2) := by decide +kernel
theorem dL_step_12 : decode cL_step 12 = .ok (.iload 7, 2) := by decide +kernel
theorem dL_step_14 : decode cL_step 14 = .ok (.ifCond .eq 18, 3) := by decide +kernel
theorem dL_step_17 : decode cL_step 17 = .ok (.iload 4, 2) := by decide +kernel
theorem dL_step_19 : decode cL_step 19 = .ok (.bipush 12, 2) := by decide +kernel
theorem dL_step_21 : decode cL_step 21 = .ok (.irem, 1) := by decide +kernel
theorem dL_step_22 : decode cL_step 22 = .ok (.ifCond .ne 128, 3) := by decide +kernel
theorem dL_step_25 : decode cL_step 25 = .ok (.iload 7, 2) := by decide +kernel
theorem dL_step_27 : decode cL_step 27 = .ok (.bipush 6, 2) := by decide +kernel
theorem dL_step_29 : decode cL_step 29 = .ok (.if_icmp .ge 121, 3) := by decide +kernel
theorem dL_step_32 : decode cL_step 32 = .ok (.aload_n 1, 1) := by decide +kernel
theorem dL_step_33 : decode cL_step 33 = .ok (.iload 7, 2) := by decide +kernel
theorem dL_step_35 : decode cL_step 35 = .ok (.iload 5, 2) := by decide +kernel
theorem dL_step_37 : decode cL_step 37 = .ok (.iload 6, 2) := by decide +kernel
theorem dL_step_39 : decode cL_step 39 = .ok (.iconst 2, 1) := by decide +kernel
theorem dL_step_40 : decode cL_step 40 = .ok (.irem, 1) := by decide +kernel
theorem dL_step_41 : decode cL_step 41 = .ok (.ifCond .ne 9, 3) := by decide +kernel
theorem dL_step_44 : decode cL_step 44 = .ok (.sipush 1001, 3) := by decide +kernel
theorem dL_step_47 : decode cL_step 47 = .ok (.goto 4, 3) := by decide +kernel
theorem dL_step_50 : decode cL_step 50 = .ok (.iconst 3, 1) := by decide +kernel
theorem dL_step_51 : decode cL_step 51 = .ok (.irem, 1) := by decide +kernel
theorem dL_step_52 : decode cL_step 52 = .ok (.iastore, 1) := by decide +kernel
theorem dL_step_53 : decode cL_step 53 = .ok (.aload_n 1, 1) := by decide +kernel
theorem dL_step_54 : decode cL_step 54 = .ok (.bipush 6, 2) := by decide +kernel
theorem dL_step_56 : decode cL_step 56 = .ok (.iload 7, 2) := by decide +kernel
theorem dL_step_58 : decode cL_step 58 = .ok (.iadd, 1) := by decide +kernel
theorem dL_step_59 : decode cL_step 59 = .ok (.iload 6, 2) := by decide +kernel
theorem dL_step_61 : decode cL_step 61 = .ok (.iconst 3, 1) := by decide +kernel
theorem dL_step_62 : decode cL_step 62 = .ok (.irem, 1) := by decide +kernel
theorem dL_step_63 : decode cL_step 63 = .ok (.iastore, 1) := by decide +kernel
theorem dL_step_64 : decode cL_step 64 = .ok (.aload_n 1, 1) := by decide +kernel
theorem dL_step_65 : decode cL_step 65 = .ok (.bipush 12, 2) := by decide +kernel
theorem dL_step_67 : decode cL_step 67 = .ok (.iload 7, 2) := by decide +kernel
theorem dL_step_69 : decode cL_step 69 = .ok (.iadd, 1) := by decide +kernel
theorem dL_step_70 : decode cL_step 70 = .ok (.iload 6, 2) := by decide +kernel
theorem dL_step_72 : decode cL_step 72 = .ok (.iconst 3, 1) := by decide +kernel
theorem dL_step_73 : decode cL_step 73 = .ok (.idiv, 1) := by decide +kernel
theorem dL_step_74 : decode cL_step 74 = .ok (.bipush 16, 2) := by decide +kernel
theorem dL_step_76 : decode cL_step 76 = .ok (.irem, 1) := by decide +kernel
theorem dL_step_77 : decode cL_step 77 = .ok (.iastore, 1) := by decide +kernel
theorem dL_step_78 : decode cL_step 78 = .ok (.aload_n 1, 1) := by decide +kernel
theorem dL_step_79 : decode cL_step 79 = .ok (.bipush 18, 2) := by decide +kernel
theorem dL_step_81 : decode cL_step 81 = .ok (.iload 7, 2) := by decide +kernel
theorem dL_step_83 : decode cL_step 83 = .ok (.iadd, 1) := by decide +kernel
theorem dL_step_84 : decode cL_step 84 = .ok (.iload 6, 2) := by decide +kernel
theorem dL_step_86 : decode cL_step 86 = .ok (.bipush 48, 2) := by decide +kernel
theorem dL_step_88 : decode cL_step 88 = .ok (.idiv, 1) := by decide +kernel
theorem dL_step_89 : decode cL_step 89 = .ok (.iconst 2, 1) := by decide +kernel
theorem dL_step_90 : decode cL_step 90 = .ok (.irem, 1) := by decide +kernel
theorem dL_step_91 : decode cL_step 91 = .ok (.iastore, 1) := by decide +kernel
theorem dL_step_92 : decode cL_step 92 = .ok (.aload_n 1, 1) := by decide +kernel
theorem dL_step_93 : decode cL_step 93 = .ok (.bipush 38, 2) := by decide +kernel
theorem dL_step_95 : decode cL_step 95 = .ok (.dup2, 1) := by decide +kernel
theorem dL_step_96 : decode cL_step 96 = .ok (.iaload, 1) := by decide +kernel
theorem dL_step_97 : decode cL_step 97 = .ok (.iconst 1, 1) := by decide +kernel
theorem dL_step_98 : decode cL_step 98 = .ok (.iadd, 1) := by decide +kernel
theorem dL_step_99 : decode cL_step 99 = .ok (.iastore, 1) := by decide +kernel
theorem dL_step_100 : decode cL_step 100 = .ok (.aload_n 0, 1) := by decide +kernel
theorem dL_step_101 : decode cL_step 101 = .ok (.aload_n 1, 1) := by decide +kernel
theorem dL_step_102 : decode cL_step 102 = .ok (.iload 7, 2) := by decide +kernel
theorem dL_step_104 : decode cL_step 104 = .ok (.iaload, 1) := by decide +kernel
theorem dL_step_105 : decode cL_step 105 = .ok (.iload 6, 2) := by decide +kernel
theorem dL_step_107 : decode cL_step 107 = .ok (.iconst 3, 1) := by decide +kernel
theorem dL_step_108 : decode cL_step 108 = .ok (.irem, 1) := by decide +kernel
theorem dL_step_109 : decode cL_step 109 = .ok (.iload 6, 2) := by decide +kernel
theorem dL_step_111 : decode cL_step 111 = .ok (.iconst 3, 1) := by decide +kernel
theorem dL_step_112 : decode cL_step 112 = .ok (.idiv, 1) := by decide +kernel
theorem dL_step_113 : decode cL_step 113 = .ok (.bipush 16, 2) := by decide +kernel
theorem dL_step_115 : decode cL_step 115 = .ok (.irem, 1) := by decide +kernel
theorem dL_step_116 : decode cL_step 116 = .ok (.iload 6, 2) := by decide +kernel
theorem dL_step_118 : decode cL_step 118 = .ok (.bipush 48, 2) := by decide +kernel
theorem dL_step_120 : decode cL_step 120 = .ok (.idiv, 1) := by decide +kernel
theorem dL_step_121 : decode cL_step 121 = .ok (.iconst 2, 1) := by decide +kernel
theorem dL_step_122 : decode cL_step 122 = .ok (.irem, 1) := by decide +kernel
theorem dL_step_123 : decode cL_step 123 = .ok (.invokevirtual 10, 3) := by decide +kernel
theorem dL_step_126 : decode cL_step 126 = .ok (.iload 7, 2) := by decide +kernel
theorem dL_step_128 : decode cL_step 128 = .ok (.if_icmp .ne 20, 3) := by decide +kernel
theorem dL_step_131 : decode cL_step 131 = .ok (.aload_n 0, 1) := by decide +kernel
theorem dL_step_132 : decode cL_step 132 = .ok (.iload 7, 2) := by decide +kernel
theorem dL_step_134 : decode cL_step 134 = .ok (.aload_n 1, 1) := by decide +kernel
theorem dL_step_135 : decode cL_step 135 = .ok (.bipush 40, 2) := by decide +kernel
theorem dL_step_137 : decode cL_step 137 = .ok (.iaload, 1) := by decide +kernel
theorem dL_step_138 : decode cL_step 138 = .ok (.invokevirtual 16, 3) := by decide +kernel
theorem dL_step_141 : decode cL_step 141 = .ok (.ifCond .ne 7, 3) := by decide +kernel
theorem dL_step_144 : decode cL_step 144 = .ok (.iconst 1, 1) := by decide +kernel
theorem dL_step_145 : decode cL_step 145 = .ok (.goto 4, 3) := by decide +kernel
theorem dL_step_148 : decode cL_step 148 = .ok (.iconst 0, 1) := by decide +kernel
theorem dL_step_149 : decode cL_step 149 = .ok (.ireturn, 1) := by decide +kernel
theorem dL_step_150 : decode cL_step 150 = .ok (.iload 8, 2) := by decide +kernel
theorem dL_step_152 : decode cL_step 152 = .ok (.ifCond .eq 18, 3) := by decide +kernel
theorem dL_step_155 : decode cL_step 155 = .ok (.iload 4, 2) := by decide +kernel
theorem dL_step_157 : decode cL_step 157 = .ok (.bipush 12, 2) := by decide +kernel
theorem dL_step_159 : decode cL_step 159 = .ok (.irem, 1) := by decide +kernel
theorem dL_step_160 : decode cL_step 160 = .ok (.iconst 1, 1) := by decide +kernel
theorem dL_step_161 : decode cL_step 161 = .ok (.if_icmp .ne 130, 3) := by decide +kernel
theorem dL_step_164 : decode cL_step 164 = .ok (.iload 8, 2) := by decide +kernel
theorem dL_step_166 : decode cL_step 166 = .ok (.iconst 4, 1) := by decide +kernel
theorem dL_step_167 : decode cL_step 167 = .ok (.if_icmp .ge 124, 3) := by decide +kernel
theorem dL_step_170 : decode cL_step 170 = .ok (.aload_n 1, 1) := by decide +kernel
theorem dL_step_171 : decode cL_step 171 = .ok (.bipush 30, 2) := by decide +kernel
theorem dL_step_173 : decode cL_step 173 = .ok (.iload 8, 2) := by decide +kernel
theorem dL_step_175 : decode cL_step 175 = .ok (.iadd, 1) := by decide +kernel
theorem dL_step_176 : decode cL_step 176 = .ok (.iload 5, 2) := by decide +kernel
theorem dL_step_178 : decode cL_step 178 = .ok (.iload 6, 2) := by decide +kernel
theorem dL_step_180 : decode cL_step 180 = .ok (.iconst 4, 1) := by decide +kernel
theorem dL_step_181 : decode cL_step 181 = .ok (.irem, 1) := by decide +kernel
theorem dL_step_182 : decode cL_step 182 = .ok (.ifCond .ne 8, 3) := by decide +kernel
theorem dL_step_185 : decode cL_step 185 = .ok (.bipush 56, 2) := by decide +kernel
theorem dL_step_187 : decode cL_step 187 = .ok (.goto 5, 3) := by decide +kernel
theorem dL_step_190 : decode cL_step 190 = .ok (.bipush 6, 2) := by decide +kernel
theorem dL_step_192 : decode cL_step 192 = .ok (.irem, 1) := by decide +kernel
theorem dL_step_193 : decode cL_step 193 = .ok (.iastore, 1) := by decide +kernel
theorem dL_step_194 : decode cL_step 194 = .ok (.aload_n 1, 1) := by decide +kernel
theorem dL_step_195 : decode cL_step 195 = .ok (.bipush 34, 2) := by decide +kernel
theorem dL_step_197 : decode cL_step 197 = .ok (.iload 8, 2) := by decide +kernel
theorem dL_step_199 : decode cL_step 199 = .ok (.iadd, 1) := by decide +kernel
theorem dL_step_200 : decode cL_step 200 = .ok (.iconst 1, 1) := by decide +kernel
theorem dL_step_201 : decode cL_step 201 = .ok (.iload 6, 2) := by decide +kernel
theorem dL_step_203 : decode cL_step 203 = .ok (.iconst 4, 1) := by decide +kernel
theorem dL_step_204 : decode cL_step 204 = .ok (.irem, 1) := by decide +kernel
theorem dL_step_205 : decode cL_step 205 = .ok (.iadd, 1) := by decide +kernel
theorem dL_step_206 : decode cL_step 206 = .ok (.iastore, 1) := by decide +kernel
theorem dL_step_207 : decode cL_step 207 = .ok (.aload_n 1, 1) := by decide +kernel
theorem dL_step_208 : decode cL_step 208 = .ok (.bipush 39, 2) := by decide +kernel
theorem dL_step_210 : decode cL_step 210 = .ok (.dup2, 1) := by decide +kernel
theorem dL_step_211 : decode cL_step 211 = .ok (.iaload, 1) := by decide +kernel
theorem dL_step_212 : decode cL_step 212 = .ok (.iconst 1, 1) := by decide +kernel
theorem dL_step_213 : decode cL_step 213 = .ok (.iadd, 1) := by decide +kernel
theorem dL_step_214 : decode cL_step 214 = .ok (.iastore, 1) := by decide +kernel
theorem dL_step_215 : decode cL_step 215 = .ok (.aload_n 0, 1) := by decide +kernel
theorem dL_step_216 : decode cL_step 216 = .ok (.aload_n 1, 1) := by decide +kernel
theorem dL_step_217 : decode cL_step 217 = .ok (.bipush 30, 2) := by decide +kernel
theorem dL_step_219 : decode cL_step 219 = .ok (.iload 8, 2) := by decide +kernel
theorem dL_step_221 : decode cL_step 221 = .ok (.iadd, 1) := by decide +kernel
theorem dL_step_222 : decode cL_step 222 = .ok (.iaload, 1) := by decide +kernel
theorem dL_step_223 : decode cL_step 223 = .ok (.iconst 1, 1) := by decide +kernel
theorem dL_step_224 : decode cL_step 224 = .ok (.iload 6, 2) := by decide +kernel
theorem dL_step_226 : decode cL_step 226 = .ok (.iconst 4, 1) := by decide +kernel
theorem dL_step_227 : decode cL_step 227 = .ok (.irem, 1) := by decide +kernel
theorem dL_step_228 : decode cL_step 228 = .ok (.iadd, 1) := by decide +kernel
theorem dL_step_229 : decode cL_step 229 = .ok (.invokevirtual 20, 3) := by decide +kernel
theorem dL_step_232 : decode cL_step 232 = .ok (.iload 8, 2) := by decide +kernel
theorem dL_step_234 : decode cL_step 234 = .ok (.if_icmp .ne 55, 3) := by decide +kernel
theorem dL_step_237 : decode cL_step 237 = .ok (.aload_n 0, 1) := by decide +kernel
theorem dL_step_238 : decode cL_step 238 = .ok (.iload 8, 2) := by decide +kernel
theorem dL_step_240 : decode cL_step 240 = .ok (.aload_n 1, 1) := by decide +kernel
theorem dL_step_241 : decode cL_step 241 = .ok (.bipush 30, 2) := by decide +kernel
theorem dL_step_243 : decode cL_step 243 = .ok (.iload 8, 2) := by decide +kernel
theorem dL_step_245 : decode cL_step 245 = .ok (.iadd, 1) := by decide +kernel
theorem dL_step_246 : decode cL_step 246 = .ok (.iaload, 1) := by decide +kernel
theorem dL_step_247 : decode cL_step 247 = .ok (.invokevirtual 24, 3) := by decide +kernel
theorem dL_step_250 : decode cL_step 250 = .ok (.iconst 1, 1) := by decide +kernel
theorem dL_step_251 : decode cL_step 251 = .ok (.if_icmp .ne 38, 3) := by decide +kernel
theorem dL_step_254 : decode cL_step 254 = .ok (.aload_n 0, 1) := by decide +kernel
theorem dL_step_255 : decode cL_step 255 = .ok (.iload 8, 2) := by decide +kernel
theorem dL_step_257 : decode cL_step 257 = .ok (.iconst 1, 1) := by decide +kernel
theorem dL_step_258 : decode cL_step 258 = .ok (.invokevirtual 27, 3) := by decide +kernel
theorem dL_step_261 : decode cL_step 261 = .ok (.aload_n 1, 1) := by decide +kernel
theorem dL_step_262 : decode cL_step 262 = .ok (.bipush 30, 2) := by decide +kernel
theorem dL_step_264 : decode cL_step 264 = .ok (.iload 8, 2) := by decide +kernel
theorem dL_step_266 : decode cL_step 266 = .ok (.iadd, 1) := by decide +kernel
theorem dL_step_267 : decode cL_step 267 = .ok (.iaload, 1) := by decide +kernel
theorem dL_step_268 : decode cL_step 268 = .ok (.if_icmp .ne 21, 3) := by decide +kernel
theorem dL_step_271 : decode cL_step 271 = .ok (.aload_n 0, 1) := by decide +kernel
theorem dL_step_272 : decode cL_step 272 = .ok (.iconst 0, 1) := by decide +kernel
theorem dL_step_273 : decode cL_step 273 = .ok (.iload 8, 2) := by decide +kernel
theorem dL_step_275 : decode cL_step 275 = .ok (.aload_n 1, 1) := by decide +kernel
theorem dL_step_276 : decode cL_step 276 = .ok (.bipush 40, 2) := by decide +kernel
theorem dL_step_278 : decode cL_step 278 = .ok (.iaload, 1) := by decide +kernel
theorem dL_step_279 : decode cL_step 279 = .ok (.invokevirtual 30, 3) := by decide +kernel
theorem dL_step_282 : decode cL_step 282 = .ok (.ifCond .ne 7, 3) := by decide +kernel
theorem dL_step_285 : decode cL_step 285 = .ok (.iconst 1, 1) := by decide +kernel
theorem dL_step_286 : decode cL_step 286 = .ok (.goto 4, 3) := by decide +kernel
theorem dL_step_289 : decode cL_step 289 = .ok (.iconst 0, 1) := by decide +kernel
theorem dL_step_290 : decode cL_step 290 = .ok (.ireturn, 1) := by decide +kernel
theorem dL_step_291 : decode cL_step 291 = .ok (.iload 5, 2) := by decide +kernel
theorem dL_step_293 : decode cL_step 293 = .ok (.iload 7, 2) := by decide +kernel
theorem dL_step_295 : decode cL_step 295 = .ok (.irem, 1) := by decide +kernel
theorem dL_step_296 : decode cL_step 296 = .ok (.istore 9, 2) := by decide +kernel
theorem dL_step_298 : decode cL_step 298 = .ok (.iload 6, 2) := by decide +kernel
theorem dL_step_300 : decode cL_step 300 = .ok (.iload 8, 2) := by decide +kernel
theorem dL_step_302 : decode cL_step 302 = .ok (.irem, 1) := by decide +kernel
theorem dL_step_303 : decode cL_step 303 = .ok (.istore 10, 2) := by decide +kernel
theorem dL_step_305 : decode cL_step 305 = .ok (.iconst 4, 1) := by decide +kernel
theorem dL_step_306 : decode cL_step 306 = .ok (.iload 9, 2) := by decide +kernel
theorem dL_step_308 : decode cL_step 308 = .ok (.imul, 1) := by decide +kernel
theorem dL_step_309 : decode cL_step 309 = .ok (.iload 10, 2) := by decide +kernel
theorem dL_step_311 : decode cL_step 311 = .ok (.iadd, 1) := by decide +kernel
theorem dL_step_312 : decode cL_step 312 = .ok (.istore 11, 2) := by decide +kernel
theorem dL_step_314 : decode cL_step 314 = .ok (.iload 4, 2) := by decide +kernel
theorem dL_step_316 : decode cL_step 316 = .ok (.bipush 12, 2) := by decide +kernel
theorem dL_step_318 : decode cL_step 318 = .ok (.irem, 1) := by decide +kernel
theorem dL_step_319 : decode cL_step 319 = .ok (.tableswitch 529 2 10 #[49, 49, 140, 140, 140, 275, 342, 342, 500], 49) := by decide +kernel
theorem dL_step_368 : decode cL_step 368 = .ok (.aload_n 1, 1) := by decide +kernel
theorem dL_step_369 : decode cL_step 369 = .ok (.bipush 24, 2) := by decide +kernel
theorem dL_step_371 : decode cL_step 371 = .ok (.iload 9, 2) := by decide +kernel
theorem dL_step_373 : decode cL_step 373 = .ok (.iadd, 1) := by decide +kernel
theorem dL_step_374 : decode cL_step 374 = .ok (.iaload, 1) := by decide +kernel
theorem dL_step_375 : decode cL_step 375 = .ok (.iconst 1, 1) := by decide +kernel
theorem dL_step_376 : decode cL_step 376 = .ok (.if_icmp .ne 7, 3) := by decide +kernel
theorem dL_step_379 : decode cL_step 379 = .ok (.iconst 1, 1) := by decide +kernel
theorem dL_step_380 : decode cL_step 380 = .ok (.goto 4, 3) := by decide +kernel
theorem dL_step_383 : decode cL_step 383 = .ok (.iconst 0, 1) := by decide +kernel
theorem dL_step_384 : decode cL_step 384 = .ok (.istore 12, 2) := by decide +kernel
theorem dL_step_386 : decode cL_step 386 = .ok (.aload_n 1, 1) := by decide +kernel
theorem dL_step_387 : decode cL_step 387 = .ok (.bipush 24, 2) := by decide +kernel
theorem dL_step_389 : decode cL_step 389 = .ok (.iload 9, 2) := by decide +kernel
theorem dL_step_391 : decode cL_step 391 = .ok (.iadd, 1) := by decide +kernel
theorem dL_step_392 : decode cL_step 392 = .ok (.iload 6, 2) := by decide +kernel
theorem dL_step_394 : decode cL_step 394 = .ok (.iconst 3, 1) := by decide +kernel
theorem dL_step_395 : decode cL_step 395 = .ok (.irem, 1) := by decide +kernel
theorem dL_step_396 : decode cL_step 396 = .ok (.ifCond .le 7, 3) := by decide +kernel
theorem dL_step_399 : decode cL_step 399 = .ok (.iconst 1, 1) := by decide +kernel
theorem dL_step_400 : decode cL_step 400 = .ok (.goto 4, 3) := by decide +kernel
theorem dL_step_403 : decode cL_step 403 = .ok (.iconst 0, 1) := by decide +kernel
theorem dL_step_404 : decode cL_step 404 = .ok (.iastore, 1) := by decide +kernel
theorem dL_step_405 : decode cL_step 405 = .ok (.aload_n 0, 1) := by decide +kernel
theorem dL_step_406 : decode cL_step 406 = .ok (.iload 9, 2) := by decide +kernel
theorem dL_step_408 : decode cL_step 408 = .ok (.iload 6, 2) := by decide +kernel
theorem dL_step_410 : decode cL_step 410 = .ok (.iconst 3, 1) := by decide +kernel
theorem dL_step_411 : decode cL_step 411 = .ok (.irem, 1) := by decide +kernel
theorem dL_step_412 : decode cL_step 412 = .ok (.ifCond .le 7, 3) := by decide +kernel
theorem dL_step_415 : decode cL_step 415 = .ok (.iconst 1, 1) := by decide +kernel
theorem dL_step_416 : decode cL_step 416 = .ok (.goto 4, 3) := by decide +kernel
theorem dL_step_419 : decode cL_step 419 = .ok (.iconst 0, 1) := by decide +kernel
theorem dL_step_420 : decode cL_step 420 = .ok (.invokevirtual 34, 3) := by decide +kernel
theorem dL_step_423 : decode cL_step 423 = .ok (.iload 12, 2) := by decide +kernel
theorem dL_step_425 : decode cL_step 425 = .ok (.if_icmp .ne 32, 3) := by decide +kernel
theorem dL_step_428 : decode cL_step 428 = .ok (.aload_n 0, 1) := by decide +kernel
theorem dL_step_429 : decode cL_step 429 = .ok (.iload 9, 2) := by decide +kernel
theorem dL_step_431 : decode cL_step 431 = .ok (.aload_n 1, 1) := by decide +kernel
theorem dL_step_432 : decode cL_step 432 = .ok (.bipush 40, 2) := by decide +kernel
theorem dL_step_434 : decode cL_step 434 = .ok (.iaload, 1) := by decide +kernel
theorem dL_step_435 : decode cL_step 435 = .ok (.invokevirtual 16, 3) := by decide +kernel
theorem dL_step_438 : decode cL_step 438 = .ok (.iload 6, 2) := by decide +kernel
theorem dL_step_440 : decode cL_step 440 = .ok (.iconst 3, 1) := by decide +kernel
theorem dL_step_441 : decode cL_step 441 = .ok (.irem, 1) := by decide +kernel
theorem dL_step_442 : decode cL_step 442 = .ok (.ifCond .le 7, 3) := by decide +kernel
theorem dL_step_445 : decode cL_step 445 = .ok (.iconst 1, 1) := by decide +kernel
theorem dL_step_446 : decode cL_step 446 = .ok (.goto 4, 3) := by decide +kernel
theorem dL_step_449 : decode cL_step 449 = .ok (.iconst 0, 1) := by decide +kernel
theorem dL_step_450 : decode cL_step 450 = .ok (.if_icmp .ne 7, 3) := by decide +kernel
theorem dL_step_453 : decode cL_step 453 = .ok (.iconst 1, 1) := by decide +kernel
theorem dL_step_454 : decode cL_step 454 = .ok (.goto 4, 3) := by decide +kernel
theorem dL_step_457 : decode cL_step 457 = .ok (.iconst 0, 1) := by decide +kernel
theorem dL_step_458 : decode cL_step 458 = .ok (.ireturn, 1) := by decide +kernel
theorem dL_step_459 : decode cL_step 459 = .ok (.aload_n 2, 1) := by decide +kernel
theorem dL_step_460 : decode cL_step 460 = .ok (.iload 11, 2) := by decide +kernel
theorem dL_step_462 : decode cL_step 462 = .ok (.iaload, 1) := by decide +kernel
theorem dL_step_463 : decode cL_step 463 = .ok (.iconst 2, 1) := by decide +kernel
theorem dL_step_464 : decode cL_step 464 = .ok (.irem, 1) := by decide +kernel
theorem dL_step_465 : decode cL_step 465 = .ok (.iconst 1, 1) := by decide +kernel
theorem dL_step_466 : decode cL_step 466 = .ok (.if_icmp .ne 7, 3) := by decide +kernel
theorem dL_step_469 : decode cL_step 469 = .ok (.iconst 1, 1) := by decide +kernel
theorem dL_step_470 : decode cL_step 470 = .ok (.goto 4, 3) := by decide +kernel
theorem dL_step_473 : decode cL_step 473 = .ok (.iconst 0, 1) := by decide +kernel
theorem dL_step_474 : decode cL_step 474 = .ok (.istore 13, 2) := by decide +kernel
theorem dL_step_476 : decode cL_step 476 = .ok (.iload 6, 2) := by decide +kernel
theorem dL_step_478 : decode cL_step 478 = .ok (.iconst 4, 1) := by decide +kernel
theorem dL_step_479 : decode cL_step 479 = .ok (.idiv, 1) := by decide +kernel
theorem dL_step_480 : decode cL_step 480 = .ok (.bipush 8, 2) := by decide +kernel
theorem dL_step_482 : decode cL_step 482 = .ok (.irem, 1) := by decide +kernel
theorem dL_step_483 : decode cL_step 483 = .ok (.istore 14, 2) := by decide +kernel
theorem dL_step_485 : decode cL_step 485 = .ok (.iload 14, 2) := by decide +kernel
theorem dL_step_487 : decode cL_step 487 = .ok (.iload 6, 2) := by decide +kernel
theorem dL_step_489 : decode cL_step 489 = .ok (.bipush 32, 2) := by decide +kernel
theorem dL_step_491 : decode cL_step 491 = .ok (.idiv, 1) := by decide +kernel
theorem dL_step_492 : decode cL_step 492 = .ok (.iload 6, 2) := by decide +kernel
theorem dL_step_494 : decode cL_step 494 = .ok (.iconst 2, 1) := by decide +kernel
theorem dL_step_495 : decode cL_step 495 = .ok (.irem, 1) := by decide +kernel
theorem dL_step_496 : decode cL_step 496 = .ok (.ifCond .ne 8, 3) := by decide +kernel
theorem dL_step_499 : decode cL_step 499 = .ok (.bipush 48, 2) := by decide +kernel
theorem dL_step_501 : decode cL_step 501 = .ok (.goto 4, 3) := by decide +kernel
theorem dL_step_504 : decode cL_step 504 = .ok (.iconst 5, 1) := by decide +kernel
theorem dL_step_505 : decode cL_step 505 = .ok (.irem, 1) := by decide +kernel
theorem dL_step_506 : decode cL_step 506 = .ok (.iadd, 1) := by decide +kernel
theorem dL_step_507 : decode cL_step 507 = .ok (.istore 15, 2) := by decide +kernel
theorem dL_step_509 : decode cL_step 509 = .ok (.iload 6, 2) := by decide +kernel
theorem dL_step_511 : decode cL_step 511 = .ok (.bipush 64, 2) := by decide +kernel
theorem dL_step_513 : decode cL_step 513 = .ok (.idiv, 1) := by decide +kernel
theorem dL_step_514 : decode cL_step 514 = .ok (.iload 5, 2) := by decide +kernel
theorem dL_step_516 : decode cL_step 516 = .ok (.iconst 2, 1) := by decide +kernel
theorem dL_step_517 : decode cL_step 517 = .ok (.irem, 1) := by decide +kernel
theorem dL_step_518 : decode cL_step 518 = .ok (.ifCond .ne 7, 3) := by decide +kernel
theorem dL_step_521 : decode cL_step 521 = .ok (.iconst 3, 1) := by decide +kernel
theorem dL_step_522 : decode cL_step 522 = .ok (.goto 5, 3) := by decide +kernel
theorem dL_step_525 : decode cL_step 525 = .ok (.bipush 21, 2) := by decide +kernel
theorem dL_step_527 : decode cL_step 527 = .ok (.irem, 1) := by decide +kernel
theorem dL_step_528 : decode cL_step 528 = .ok (.istore 16, 2) := by decide +kernel
theorem dL_step_530 : decode cL_step 530 = .ok (.aload_n 2, 1) := by decide +kernel
theorem dL_step_531 : decode cL_step 531 = .ok (.iload 11, 2) := by decide +kernel
theorem dL_step_533 : decode cL_step 533 = .ok (.iconst 1, 1) := by decide +kernel
theorem dL_step_534 : decode cL_step 534 = .ok (.iconst 2, 1) := by decide +kernel
theorem dL_step_535 : decode cL_step 535 = .ok (.iload 14, 2) := by decide +kernel
theorem dL_step_537 : decode cL_step 537 = .ok (.imul, 1) := by decide +kernel
theorem dL_step_538 : decode cL_step 538 = .ok (.iadd, 1) := by decide +kernel
theorem dL_step_539 : decode cL_step 539 = .ok (.sipush 128, 3) := by decide +kernel
theorem dL_step_542 : decode cL_step 542 = .ok (.iload 15, 2) := by decide +kernel
theorem dL_step_544 : decode cL_step 544 = .ok (.imul, 1) := by decide +kernel
theorem dL_step_545 : decode cL_step 545 = .ok (.iadd, 1) := by decide +kernel
theorem dL_step_546 : decode cL_step 546 = .ok (.sipush 8192, 3) := by decide +kernel
theorem dL_step_549 : decode cL_step 549 = .ok (.iload 16, 2) := by decide +kernel
theorem dL_step_551 : decode cL_step 551 = .ok (.imul, 1) := by decide +kernel
theorem dL_step_552 : decode cL_step 552 = .ok (.iadd, 1) := by decide +kernel
theorem dL_step_553 : decode cL_step 553 = .ok (.iastore, 1) := by decide +kernel
theorem dL_step_554 : decode cL_step 554 = .ok (.aload_n 0, 1) := by decide +kernel
theorem dL_step_555 : decode cL_step 555 = .ok (.iload 9, 2) := by decide +kernel
theorem dL_step_557 : decode cL_step 557 = .ok (.iload 10, 2) := by decide +kernel
theorem dL_step_559 : decode cL_step 559 = .ok (.iload 14, 2) := by decide +kernel
theorem dL_step_561 : decode cL_step 561 = .ok (.iload 15, 2) := by decide +kernel
theorem dL_step_563 : decode cL_step 563 = .ok (.iload 16, 2) := by decide +kernel
theorem dL_step_565 : decode cL_step 565 = .ok (.invokevirtual 38, 3) := by decide +kernel
theorem dL_step_568 : decode cL_step 568 = .ok (.iload 13, 2) := by decide +kernel
theorem dL_step_570 : decode cL_step 570 = .ok (.if_icmp .ne 22, 3) := by decide +kernel
theorem dL_step_573 : decode cL_step 573 = .ok (.aload_n 0, 1) := by decide +kernel
theorem dL_step_574 : decode cL_step 574 = .ok (.iload 9, 2) := by decide +kernel
theorem dL_step_576 : decode cL_step 576 = .ok (.iload 10, 2) := by decide +kernel
theorem dL_step_578 : decode cL_step 578 = .ok (.aload_n 1, 1) := by decide +kernel
theorem dL_step_579 : decode cL_step 579 = .ok (.bipush 40, 2) := by decide +kernel
theorem dL_step_581 : decode cL_step 581 = .ok (.iaload, 1) := by decide +kernel
theorem dL_step_582 : decode cL_step 582 = .ok (.invokevirtual 30, 3) := by decide +kernel
theorem dL_step_585 : decode cL_step 585 = .ok (.ifCond .eq 7, 3) := by decide +kernel
theorem dL_step_588 : decode cL_step 588 = .ok (.iconst 1, 1) := by decide +kernel
theorem dL_step_589 : decode cL_step 589 = .ok (.goto 4, 3) := by decide +kernel
theorem dL_step_592 : decode cL_step 592 = .ok (.iconst 0, 1) := by decide +kernel
theorem dL_step_593 : decode cL_step 593 = .ok (.ireturn, 1) := by decide +kernel
theorem dL_step_594 : decode cL_step 594 = .ok (.aload_n 2, 1) := by decide +kernel
theorem dL_step_595 : decode cL_step 595 = .ok (.iload 11, 2) := by decide +kernel
theorem dL_step_597 : decode cL_step 597 = .ok (.iaload, 1) := by decide +kernel
theorem dL_step_598 : decode cL_step 598 = .ok (.iconst 2, 1) := by decide +kernel
theorem dL_step_599 : decode cL_step 599 = .ok (.irem, 1) := by decide +kernel
theorem dL_step_600 : decode cL_step 600 = .ok (.ifCond .ne 24, 3) := by decide +kernel
theorem dL_step_603 : decode cL_step 603 = .ok (.aload_n 0, 1) := by decide +kernel
theorem dL_step_604 : decode cL_step 604 = .ok (.iload 9, 2) := by decide +kernel
theorem dL_step_606 : decode cL_step 606 = .ok (.iload 10, 2) := by decide +kernel
theorem dL_step_608 : decode cL_step 608 = .ok (.aload_n 1, 1) := by decide +kernel
theorem dL_step_609 : decode cL_step 609 = .ok (.bipush 40, 2) := by decide +kernel
theorem dL_step_611 : decode cL_step 611 = .ok (.iaload, 1) := by decide +kernel
theorem dL_step_612 : decode cL_step 612 = .ok (.invokevirtual 30, 3) := by decide +kernel
theorem dL_step_615 : decode cL_step 615 = .ok (.ifCond .ne 7, 3) := by decide +kernel
theorem dL_step_618 : decode cL_step 618 = .ok (.iconst 1, 1) := by decide +kernel
theorem dL_step_619 : decode cL_step 619 = .ok (.goto 4, 3) := by decide +kernel
theorem dL_step_622 : decode cL_step 622 = .ok (.iconst 0, 1) := by decide +kernel
theorem dL_step_623 : decode cL_step 623 = .ok (.ireturn, 1) := by decide +kernel
theorem dL_step_624 : decode cL_step 624 = .ok (.aload_n 2, 1) := by decide +kernel
theorem dL_step_625 : decode cL_step 625 = .ok (.iload 11, 2) := by decide +kernel
theorem dL_step_627 : decode cL_step 627 = .ok (.dup2, 1) := by decide +kernel
theorem dL_step_628 : decode cL_step 628 = .ok (.iaload, 1) := by decide +kernel
theorem dL_step_629 : decode cL_step 629 = .ok (.iconst 1, 1) := by decide +kernel
theorem dL_step_630 : decode cL_step 630 = .ok (.isub, 1) := by decide +kernel
theorem dL_step_631 : decode cL_step 631 = .ok (.iastore, 1) := by decide +kernel
theorem dL_step_632 : decode cL_step 632 = .ok (.aload_n 0, 1) := by decide +kernel
theorem dL_step_633 : decode cL_step 633 = .ok (.iload 9, 2) := by decide +kernel
theorem dL_step_635 : decode cL_step 635 = .ok (.iload 10, 2) := by decide +kernel
theorem dL_step_637 : decode cL_step 637 = .ok (.invokevirtual 42, 3) := by decide +kernel
theorem dL_step_640 : decode cL_step 640 = .ok (.aload_n 0, 1) := by decide +kernel
theorem dL_step_641 : decode cL_step 641 = .ok (.iload 9, 2) := by decide +kernel
theorem dL_step_643 : decode cL_step 643 = .ok (.iload 10, 2) := by decide +kernel
theorem dL_step_645 : decode cL_step 645 = .ok (.aload_n 1, 1) := by decide +kernel
theorem dL_step_646 : decode cL_step 646 = .ok (.bipush 40, 2) := by decide +kernel
theorem dL_step_648 : decode cL_step 648 = .ok (.iaload, 1) := by decide +kernel
theorem dL_step_649 : decode cL_step 649 = .ok (.invokevirtual 30, 3) := by decide +kernel
theorem dL_step_652 : decode cL_step 652 = .ok (.ifCond .ne 7, 3) := by decide +kernel
theorem dL_step_655 : decode cL_step 655 = .ok (.iconst 1, 1) := by decide +kernel
theorem dL_step_656 : decode cL_step 656 = .ok (.goto 4, 3) := by decide +kernel
theorem dL_step_659 : decode cL_step 659 = .ok (.iconst 0, 1) := by decide +kernel
theorem dL_step_660 : decode cL_step 660 = .ok (.ireturn, 1) := by decide +kernel
theorem dL_step_661 : decode cL_step 661 = .ok (.iconst 1, 1) := by decide +kernel
theorem dL_step_662 : decode cL_step 662 = .ok (.iload 6, 2) := by decide +kernel
theorem dL_step_664 : decode cL_step 664 = .ok (.iload 5, 2) := by decide +kernel
theorem dL_step_666 : decode cL_step 666 = .ok (.iconst 3, 1) := by decide +kernel
theorem dL_step_667 : decode cL_step 667 = .ok (.irem, 1) := by decide +kernel
theorem dL_step_668 : decode cL_step 668 = .ok (.ifCond .ne 9, 3) := by decide +kernel
theorem dL_step_671 : decode cL_step 671 = .ok (.sipush 1000, 3) := by decide +kernel
theorem dL_step_674 : decode cL_step 674 = .ok (.goto 6, 3) := by decide +kernel
theorem dL_step_677 : decode cL_step 677 = .ok (.sipush 200, 3) := by decide +kernel
theorem dL_step_680 : decode cL_step 680 = .ok (.irem, 1) := by decide +kernel
theorem dL_step_681 : decode cL_step 681 = .ok (.iadd, 1) := by decide +kernel
theorem dL_step_682 : decode cL_step 682 = .ok (.istore 17, 2) := by decide +kernel
theorem dL_step_684 : decode cL_step 684 = .ok (.aload_n 1, 1) := by decide +kernel
theorem dL_step_685 : decode cL_step 685 = .ok (.bipush 40, 2) := by decide +kernel
theorem dL_step_687 : decode cL_step 687 = .ok (.iaload, 1) := by decide +kernel
theorem dL_step_688 : decode cL_step 688 = .ok (.iload 17, 2) := by decide +kernel
theorem dL_step_690 : decode cL_step 690 = .ok (.iadd, 1) := by decide +kernel
theorem dL_step_691 : decode cL_step 691 = .ok (.sipush 20000, 3) := by decide +kernel
theorem dL_step_694 : decode cL_step 694 = .ok (.if_icmp .le 20, 3) := by decide +kernel
theorem dL_step_697 : decode cL_step 697 = .ok (.aload_n 0, 1) := by decide +kernel
theorem dL_step_698 : decode cL_step 698 = .ok (.invokevirtual 46, 3) := by decide +kernel
theorem dL_step_701 : decode cL_step 701 = .ok (.aload_n 1, 1) := by decide +kernel
theorem dL_step_702 : decode cL_step 702 = .ok (.bipush 40, 2) := by decide +kernel
theorem dL_step_704 : decode cL_step 704 = .ok (.iaload, 1) := by decide +kernel
theorem dL_step_705 : decode cL_step 705 = .ok (.if_icmp .ne 7, 3) := by decide +kernel
theorem dL_step_708 : decode cL_step 708 = .ok (.iconst 1, 1) := by decide +kernel
theorem dL_step_709 : decode cL_step 709 = .ok (.goto 4, 3) := by decide +kernel
theorem dL_step_712 : decode cL_step 712 = .ok (.iconst 0, 1) := by decide +kernel
theorem dL_step_713 : decode cL_step 713 = .ok (.ireturn, 1) := by decide +kernel
theorem dL_step_714 : decode cL_step 714 = .ok (.aload_n 0, 1) := by decide +kernel
theorem dL_step_715 : decode cL_step 715 = .ok (.iload 9, 2) := by decide +kernel
theorem dL_step_717 : decode cL_step 717 = .ok (.aload_n 1, 1) := by decide +kernel
theorem dL_step_718 : decode cL_step 718 = .ok (.bipush 40, 2) := by decide +kernel
theorem dL_step_720 : decode cL_step 720 = .ok (.iaload, 1) := by decide +kernel
theorem dL_step_721 : decode cL_step 721 = .ok (.invokevirtual 16, 3) := by decide +kernel
theorem dL_step_724 : decode cL_step 724 = .ok (.istore 18, 2) := by decide +kernel
theorem dL_step_726 : decode cL_step 726 = .ok (.aload_n 0, 1) := by decide +kernel
theorem dL_step_727 : decode cL_step 727 = .ok (.iload 9, 2) := by decide +kernel
theorem dL_step_729 : decode cL_step 729 = .ok (.iload 10, 2) := by decide +kernel
theorem dL_step_731 : decode cL_step 731 = .ok (.aload_n 1, 1) := by decide +kernel
theorem dL_step_732 : decode cL_step 732 = .ok (.bipush 40, 2) := by decide +kernel
theorem dL_step_734 : decode cL_step 734 = .ok (.iaload, 1) := by decide +kernel
theorem dL_step_735 : decode cL_step 735 = .ok (.invokevirtual 30, 3) := by decide +kernel
theorem dL_step_738 : decode cL_step 738 = .ok (.istore 19, 2) := by decide +kernel
theorem dL_step_740 : decode cL_step 740 = .ok (.aload_n 1, 1) := by decide +kernel
theorem dL_step_741 : decode cL_step 741 = .ok (.bipush 40, 2) := by decide +kernel
theorem dL_step_743 : decode cL_step 743 = .ok (.iaload, 1) := by decide +kernel
theorem dL_step_744 : decode cL_step 744 = .ok (.istore 20, 2) := by decide +kernel
theorem dL_step_746 : decode cL_step 746 = .ok (.aload_n 1, 1) := by decide +kernel
theorem dL_step_747 : decode cL_step 747 = .ok (.bipush 40, 2) := by decide +kernel
theorem dL_step_749 : decode cL_step 749 = .ok (.dup2, 1) := by decide +kernel
theorem dL_step_750 : decode cL_step 750 = .ok (.iaload, 1) := by decide +kernel
theorem dL_step_751 : decode cL_step 751 = .ok (.iload 17, 2) := by decide +kernel
theorem dL_step_753 : decode cL_step 753 = .ok (.iadd, 1) := by decide +kernel
theorem dL_step_754 : decode cL_step 754 = .ok (.iastore, 1) := by decide +kernel
theorem dL_step_755 : decode cL_step 755 = .ok (.aload_n 0, 1) := by decide +kernel
theorem dL_step_756 : decode cL_step 756 = .ok (.iload 17, 2) := by decide +kernel
theorem dL_step_758 : decode cL_step 758 = .ok (.invokevirtual 50, 3) := by decide +kernel
theorem dL_step_761 : decode cL_step 761 = .ok (.aload_n 1, 1) := by decide +kernel
theorem dL_step_762 : decode cL_step 762 = .ok (.bipush 40, 2) := by decide +kernel
theorem dL_step_764 : decode cL_step 764 = .ok (.iaload, 1) := by decide +kernel
theorem dL_step_765 : decode cL_step 765 = .ok (.if_icmp .ne 52, 3) := by decide +kernel
theorem dL_step_768 : decode cL_step 768 = .ok (.aload_n 0, 1) := by decide +kernel
theorem dL_step_769 : decode cL_step 769 = .ok (.iload 9, 2) := by decide +kernel
theorem dL_step_771 : decode cL_step 771 = .ok (.iload 20, 2) := by decide +kernel
theorem dL_step_773 : decode cL_step 773 = .ok (.invokevirtual 16, 3) := by decide +kernel
theorem dL_step_776 : decode cL_step 776 = .ok (.iload 18, 2) := by decide +kernel
theorem dL_step_778 : decode cL_step 778 = .ok (.if_icmp .ne 39, 3) := by decide +kernel
theorem dL_step_781 : decode cL_step 781 = .ok (.aload_n 0, 1) := by decide +kernel
theorem dL_step_782 : decode cL_step 782 = .ok (.iload 9, 2) := by decide +kernel
theorem dL_step_784 : decode cL_step 784 = .ok (.aload_n 1, 1) := by decide +kernel
theorem dL_step_785 : decode cL_step 785 = .ok (.bipush 40, 2) := by decide +kernel
theorem dL_step_787 : decode cL_step 787 = .ok (.iaload, 1) := by decide +kernel
theorem dL_step_788 : decode cL_step 788 = .ok (.invokevirtual 16, 3) := by decide +kernel
theorem dL_step_791 : decode cL_step 791 = .ok (.iload 18, 2) := by decide +kernel
theorem dL_step_793 : decode cL_step 793 = .ok (.if_icmp .ne 24, 3) := by decide +kernel
theorem dL_step_796 : decode cL_step 796 = .ok (.aload_n 0, 1) := by decide +kernel
theorem dL_step_797 : decode cL_step 797 = .ok (.iload 9, 2) := by decide +kernel
theorem dL_step_799 : decode cL_step 799 = .ok (.iload 10, 2) := by decide +kernel
theorem dL_step_801 : decode cL_step 801 = .ok (.aload_n 1, 1) := by decide +kernel
theorem dL_step_802 : decode cL_step 802 = .ok (.bipush 40, 2) := by decide +kernel
theorem dL_step_804 : decode cL_step 804 = .ok (.iaload, 1) := by decide +kernel
theorem dL_step_805 : decode cL_step 805 = .ok (.invokevirtual 30, 3) := by decide +kernel
theorem dL_step_808 : decode cL_step 808 = .ok (.iload 19, 2) := by decide +kernel
theorem dL_step_810 : decode cL_step 810 = .ok (.if_icmp .ne 7, 3) := by decide +kernel
theorem dL_step_813 : decode cL_step 813 = .ok (.iconst 1, 1) := by decide +kernel
theorem dL_step_814 : decode cL_step 814 = .ok (.goto 4, 3) := by decide +kernel
theorem dL_step_817 : decode cL_step 817 = .ok (.iconst 0, 1) := by decide +kernel
theorem dL_step_818 : decode cL_step 818 = .ok (.ireturn, 1) := by decide +kernel
theorem dL_step_819 : decode cL_step 819 = .ok (.aload_n 3, 1) := by decide +kernel
theorem dL_step_820 : decode cL_step 820 = .ok (.iload 11, 2) := by decide +kernel
theorem dL_step_822 : decode cL_step 822 = .ok (.dup2, 1) := by decide +kernel
theorem dL_step_823 : decode cL_step 823 = .ok (.iaload, 1) := by decide +kernel
theorem dL_step_824 : decode cL_step 824 = .ok (.iconst 1, 1) := by decide +kernel
theorem dL_step_825 : decode cL_step 825 = .ok (.iadd, 1) := by decide +kernel
theorem dL_step_826 : decode cL_step 826 = .ok (.iastore, 1) := by decide +kernel
theorem dL_step_827 : decode cL_step 827 = .ok (.aload_n 0, 1) := by decide +kernel
theorem dL_step_828 : decode cL_step 828 = .ok (.iload 9, 2) := by decide +kernel
theorem dL_step_830 : decode cL_step 830 = .ok (.iload 10, 2) := by decide +kernel
theorem dL_step_832 : decode cL_step 832 = .ok (.invokevirtual 54, 3) := by decide +kernel
theorem dL_step_835 : decode cL_step 835 = .ok (.aload_n 3, 1) := by decide +kernel
theorem dL_step_836 : decode cL_step 836 = .ok (.iload 11, 2) := by decide +kernel
theorem dL_step_838 : decode cL_step 838 = .ok (.iaload, 1) := by decide +kernel
theorem dL_step_839 : decode cL_step 839 = .ok (.if_icmp .ne 7, 3) := by decide +kernel
theorem dL_step_842 : decode cL_step 842 = .ok (.iconst 1, 1) := by decide +kernel
theorem dL_step_843 : decode cL_step 843 = .ok (.goto 4, 3) := by decide +kernel
theorem dL_step_846 : decode cL_step 846 = .ok (.iconst 0, 1) := by decide +kernel
theorem dL_step_847 : decode cL_step 847 = .ok (.ireturn, 1) := by decide +kernel
theorem dL_step_848 : decode cL_step 848 = .ok (.aload_n 3, 1) := by decide +kernel
theorem dL_step_849 : decode cL_step 849 = .ok (.iload 11, 2) := by decide +kernel
theorem dL_step_851 : decode cL_step 851 = .ok (.iaload, 1) := by decide +kernel
theorem dL_step_852 : decode cL_step 852 = .ok (.istore 21, 2) := by decide +kernel
theorem dL_step_854 : decode cL_step 854 = .ok (.aload_n 3, 1) := by decide +kernel
theorem dL_step_855 : decode cL_step 855 = .ok (.iload 11, 2) := by decide +kernel
theorem dL_step_857 : decode cL_step 857 = .ok (.iconst 0, 1) := by decide +kernel
theorem dL_step_858 : decode cL_step 858 = .ok (.iastore, 1) := by decide +kernel
theorem dL_step_859 : decode cL_step 859 = .ok (.aload_n 0, 1) := by decide +kernel
theorem dL_step_860 : decode cL_step 860 = .ok (.iload 9, 2) := by decide +kernel
theorem dL_step_862 : decode cL_step 862 = .ok (.iload 10, 2) := by decide +kernel
theorem dL_step_864 : decode cL_step 864 = .ok (.invokevirtual 57, 3) := by decide +kernel
theorem dL_step_867 : decode cL_step 867 = .ok (.iload 21, 2) := by decide +kernel
theorem dL_step_869 : decode cL_step 869 = .ok (.if_icmp .ne 24, 3) := by decide +kernel
theorem dL_step_872 : decode cL_step 872 = .ok (.aload_n 0, 1) := by decide +kernel
theorem dL_step_873 : decode cL_step 873 = .ok (.aload_n 1, 1) := by decide +kernel
theorem dL_step_874 : decode cL_step 874 = .ok (.iload 10, 2) := by decide +kernel
theorem dL_step_876 : decode cL_step 876 = .ok (.iconst 1, 1) := by decide +kernel
theorem dL_step_877 : decode cL_step 877 = .ok (.iload 6, 2) := by decide +kernel
theorem dL_step_879 : decode cL_step 879 = .ok (.bipush 60, 2) := by decide +kernel
theorem dL_step_881 : decode cL_step 881 = .ok (.irem, 1) := by decide +kernel
theorem dL_step_882 : decode cL_step 882 = .ok (.iadd, 1) := by decide +kernel
theorem dL_step_883 : decode cL_step 883 = .ok (.invokestatic 60, 3) := by decide +kernel
theorem dL_step_886 : decode cL_step 886 = .ok (.ifCond .eq 7, 3) := by decide +kernel
theorem dL_step_889 : decode cL_step 889 = .ok (.iconst 1, 1) := by decide +kernel
theorem dL_step_890 : decode cL_step 890 = .ok (.goto 4, 3) := by decide +kernel
theorem dL_step_893 : decode cL_step 893 = .ok (.iconst 0, 1) := by decide +kernel
theorem dL_step_894 : decode cL_step 894 = .ok (.ireturn, 1) := by decide +kernel
set_option maxRecDepth 20000 in
theorem ggL_volumes_X4_yearOf : GoodIn wsL_volumes wsX4_yearOf := goodIn_ca (goodIn_ca (goodIn_r _ [5, 6, 7, 8, 9, 4, 10, 11, 12, 13, 14, 15, 16, 17, 18, 19, 20, 21, 22, 23, 24, 25, 26, 31, 32, 33, 34, 35, 36, 37, 38] (by decide +kernel) (by decide +kernel)) (goodIn_sub (fun _ h => List.mem_cons_of_mem _ (List.mem_append_left _ (List.mem_append_right _ h))) (by decide +kernel))) (goodIn_sub (fun _ h => List.mem_cons_of_mem _ (List.mem_append_right _ h)) (by decide +kernel))
set_option maxRecDepth 20000 in
theorem gL_volumes_X4_yearOf : GoodIn wsL_volumes (wsV RL 27 RX4 yX4_yearOf wsX4_yearOf) := goodIn_app (goodIn_of _ (by decide +kernel)) ggL_volumes_X4_yearOf
set_option maxRecDepth 20000 in
theorem ggL_volumes_X4_volumeOf : GoodIn wsL_volumes wsX4_volumeOf := goodIn_ca (goodIn_ca (goodIn_r _ [30, 6, 7, 8, 9, 4, 10, 11, 12, 13, 14, 22, 23, 24, 25, 26, 15, 16, 17, 18, 19, 20, 21, 31, 32, 33, 34, 35, 36, 37, 38] (by decide +kernel) (by decide +kernel)) (goodIn_sub (fun _ h => List.mem_cons_of_mem _ (List.mem_append_left _ (List.mem_append_right _ h))) (by decide +kernel))) (goodIn_sub (fun _ h => List.mem_cons_of_mem _ (List.mem_append_right _ h)) (by decide +kernel))
set_option maxRecDepth 20000 in
theorem gL_volumes_X4_volumeOf : GoodIn wsL_volumes (wsV RL 24 RX4 yX4_volumeOf wsX4_volumeOf) := goodIn_app (goodIn_of _ (by decide +kernel)) ggL_volumes_X4_volumeOf
theorem dL_volumes_0 : decode cL_volumes 0 = .ok (.aload_n 1, 1) := by decide +kernel
theorem dL_volumes_1 : decode cL_volumes 1 = .ok (.bipush 30, 2) := by decide +kernel
theorem dL_volumes_3 : decode cL_volumes 3 = .ok (.iload_n 2, 1) := by decide +kernel
theorem dL_volumes_4 : decode cL_volumes 4 = .ok (.iadd, 1) := by decide +kernel
theorem dL_volumes_5 : decode cL_volumes 5 = .ok (.iaload, 1) := by decide +kernel
theorem dL_volumes_6 : decode cL_volumes 6 = .ok (.iload_n 3, 1) := by decide +kernel
theorem dL_volumes_7 : decode cL_volumes 7 = .ok (.iconst 1, 1) := by decide +kernel
theorem dL_volumes_8 : decode cL_volumes 8 = .ok (.isub, 1) := by decide +kernel
theorem dL_volumes_9 : decode cL_volumes 9 = .ok (.aload_n 1, 1) := by decide +kernel
theorem dL_volumes_10 : decode cL_volumes 10 = .ok (.bipush 34, 2) := by decide +kernel
theorem dL_volumes_12 : decode cL_volumes 12 = .ok (.iload_n 2, 1) := by decide +kernel
theorem dL_volumes_13 : decode cL_volumes 13 = .ok (.iadd, 1) := by decide +kernel
theorem dL_volumes_14 : decode cL_volumes 14 = .ok (.iaload, 1) := by decide +kernel
theorem dL_volumes_15 : decode cL_volumes 15 = .ok (.idiv, 1) := by decide +kernel
theorem dL_volumes_16 : decode cL_volumes 16 = .ok (.iadd, 1) := by decide +kernel
theorem dL_volumes_17 : decode cL_volumes 17 = .ok (.istore 4, 2) := by decide +kernel
theorem dL_volumes_19 : decode cL_volumes 19 = .ok (.iload 4, 2) := by decide +kernel
theorem dL_volumes_21 : decode cL_volumes 21 = .ok (.bipush 55, 2) := by decide +kernel
theorem dL_volumes_23 : decode cL_volumes 23 = .ok (.if_icmp .gt 43, 3) := by decide +kernel
theorem dL_volumes_26 : decode cL_volumes 26 = .ok (.aload_n 0, 1) := by decide +kernel
theorem dL_volumes_27 : decode cL_volumes 27 = .ok (.iload_n 2, 1) := by decide +kernel
theorem dL_volumes_28 : decode cL_volumes 28 = .ok (.iload_n 3, 1) := by decide +kernel
theorem dL_volumes_29 : decode cL_volumes 29 = .ok (.invokevirtual 27, 3) := by decide +kernel
theorem dL_volumes_32 : decode cL_volumes 32 = .ok (.iload 4, 2) := by decide +kernel
theorem dL_volumes_34 : decode cL_volumes 34 = .ok (.if_icmp .ne 36, 3) := by decide +kernel
theorem dL_volumes_37 : decode cL_volumes 37 = .ok (.aload_n 0, 1) := by decide +kernel
theorem dL_volumes_38 : decode cL_volumes 38 = .ok (.iload_n 2, 1) := by decide +kernel
theorem dL_volumes_39 : decode cL_volumes 39 = .ok (.iload 4, 2) := by decide +kernel
theorem dL_volumes_41 : decode cL_volumes 41 = .ok (.invokevirtual 24, 3) := by decide +kernel
theorem dL_volumes_44 : decode cL_volumes 44 = .ok (.iload_n 3, 1) := by decide +kernel
theorem dL_volumes_45 : decode cL_volumes 45 = .ok (.if_icmp .gt 25, 3) := by decide +kernel
theorem dL_volumes_48 : decode cL_volumes 48 = .ok (.iload_n 3, 1) := by decide +kernel
theorem dL_volumes_49 : decode cL_volumes 49 = .ok (.aload_n 0, 1) := by decide +kernel
theorem dL_volumes_50 : decode cL_volumes 50 = .ok (.iload_n 2, 1) := by decide +kernel
theorem dL_volumes_51 : decode cL_volumes 51 = .ok (.iload 4, 2) := by decide +kernel
theorem dL_volumes_53 : decode cL_volumes 53 = .ok (.invokevirtual 24, 3) := by decide +kernel
theorem dL_volumes_56 : decode cL_volumes 56 = .ok (.aload_n 1, 1) := by decide +kernel
theorem dL_volumes_57 : decode cL_volumes 57 = .ok (.bipush 34, 2) := by decide +kernel
theorem dL_volumes_59 : decode cL_volumes 59 = .ok (.iload_n 2, 1) := by decide +kernel
theorem dL_volumes_60 : decode cL_volumes 60 = .ok (.iadd, 1) := by decide +kernel
theorem dL_volumes_61 : decode cL_volumes 61 = .ok (.iaload, 1) := by decide +kernel
theorem dL_volumes_62 : decode cL_volumes 62 = .ok (.iadd, 1) := by decide +kernel
theorem dL_volumes_63 : decode cL_volumes 63 = .ok (.if_icmp .ge 7, 3) := by decide +kernel
theorem dL_volumes_66 : decode cL_volumes 66 = .ok (.iconst 1, 1) := by decide +kernel
theorem dL_volumes_67 : decode cL_volumes 67 = .ok (.goto 4, 3) := by decide +kernel
theorem dL_volumes_70 : decode cL_volumes 70 = .ok (.iconst 0, 1) := by decide +kernel
theorem dL_volumes_71 : decode cL_volumes 71 = .ok (.ireturn, 1) := by decide +kernel
set_option maxRecDepth 20000 in
theorem ggL_covers_X4_covers : GoodIn wsL_covers wsX4_covers := goodIn_ca (goodIn_ca (goodIn_ca (goodIn_r _ [5, 6, 7, 8, 4, 9, 10, 11, 12, 13, 14, 15, 16, 17, 18, 19, 20, 21, 22, 23, 24, 25, 26, 27, 28, 29, 30, 31, 32, 33, 34, 35, 36, 37, 38, 39, 40, 41, 42, 43, 44, 45, 46, 47, 48, 49, 50, 51, 52, 53, 54, 55, 56, 57, 58, 59, 60, 61, 62, 63, 64, 65, 66, 67, 68, 69, 70, 71, 72, 73, 74, 75, 76, 77, 78, 79, 80, 81, 82, 83, 84, 85, 104, 105, 106, 107, 108, 109, 110, 111, 112, 113, 114, 115, 116, 117, 118, 119, 120, 121] (by decide +kernel) (by decide +kernel)) (goodIn_sub (fun _ h => List.mem_cons_of_mem _ (List.mem_append_left _ (List.mem_append_left _ (List.mem_append_right _ h)))) (by decide +kernel))) (goodIn_sub (fun _ h => List.mem_cons_of_mem _ (List.mem_append_left _ (List.mem_append_right _ h))) (by decide +kernel))) (goodIn_sub (fun _ h => List.mem_cons_of_mem _ (List.mem_append_right _ h)) (by decide +kernel))
set_option maxRecDepth 20000 in
theorem gL_covers_X4_covers : GoodIn wsL_covers (wsV RL 66 RX4 yX4_covers wsX4_covers) := goodIn_app (goodIn_of _ (by decide +kernel)) ggL_covers_X4_covers
set_option maxRecDepth 20000 in
theorem ggL_covers_X4_isSubscribed : GoodIn wsL_covers wsX4_isSubscribed := goodIn_ca (goodIn_ca (goodIn_r _ [89, 90, 24, 6, 7, 8, 4, 9, 10, 11, 12, 13, 25, 26, 27, 28, 29, 91, 92, 93, 57, 94, 59, 61, 62, 63, 64, 65, 66, 67, 110, 111, 112, 113, 114, 115, 104, 105, 106, 107, 108, 109, 116, 117, 118, 119, 120, 121] (by decide +kernel) (by decide +kernel)) (goodIn_sub (fun _ h => List.mem_cons_of_mem _ (List.mem_append_left _ (List.mem_append_left _ (List.mem_append_right _ h)))) (by decide +kernel))) (goodIn_sub (fun _ h => List.mem_cons_of_mem _ (List.mem_append_left _ (List.mem_append_right _ h))) (by decide +kernel))
