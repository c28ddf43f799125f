set_option maxRecDepth 20000 in
theorem zin_app {a b big : List Cond} (ha : ∀ w ∈ a, w ∈ big) (hb : ∀ w ∈ b, w ∈ big) : ∀ w ∈ a ++ b, w ∈ big := fun w h => (List.mem_append.mp h).elim (ha w) (hb w)
set_option maxRecDepth 20000 in
theorem zin_r1 : ∀ w ∈ wsL_law0_r1, w ∈ lw_tbl := fun w h => (goodIn_r (big := lw_tbl) _ [27, 28, 13, 477, 29, 30, 31, 32, 33, 34, 35, 39, 37, 40, 41, 42, 43, 44, 58, 59, 60, 61, 62, 63] (by decide +kernel) (by decide +kernel) w h).1
set_option maxRecDepth 20000 in
theorem zin_r2a : ∀ w ∈ [Cond.initialized RL, Cond.code yL_draw cL_draw 2 (some .int), Cond.constant RL 7 (2147483647), Cond.constant RL 8 (104729), Cond.constant RL 9 (65521), Cond.methodLink RL 99 yL_step, Cond.static yL_step], w ∈ lw_tbl := (fun w h => (goodIn_r (big := lw_tbl) _ [12, 64, 65, 66, 67, 68, 69] (by decide +kernel) (by decide +kernel) w h).1)
set_option maxRecDepth 20000 in
theorem zin_r2b : Cond.code yL_step cL_step 22 (some .boolean) ∈ lw_tbl := List.mem_of_getElem? (i := 70) rfl
set_option maxRecDepth 20000 in
theorem zin_r2c : ∀ w ∈ [Cond.methodLink RL 10 yX4_addPackage, Cond.instanceMethod yX4_addPackage, Cond.selects RX4 yX4_addPackage yX4_addPackage, Cond.code yX4_addPackage cX4_addPackage 6 (some .int), Cond.classLink RX4 38 "java/lang/IllegalStateException", Cond.initialized "java/lang/IllegalStateException", Cond.instantiable RX2 6, Cond.initialized RX2, Cond.methodLink RX4 34 yX4_checkRange, Cond.static yX4_checkRange, Cond.code yX4_checkRange cX4_checkRange 3 none, Cond.classLink RX4 156 "java/lang/IllegalArgumentException", Cond.initialized "java/lang/IllegalArgumentException", Cond.methodLink RX4 61 yX2_init, Cond.instanceMethod yX2_init, Cond.code yX2_init cX2_init 6 none], w ∈ lw_tbl := (fun w h => (goodIn_r (big := lw_tbl) _ [71, 72, 73, 74, 146, 18, 162, 19, 75, 76, 77, 78, 17, 163, 164, 165] (by decide +kernel) (by decide +kernel) w h).1)
set_option maxRecDepth 20000 in
theorem zin_r2 : ∀ w ∈ wsL_law0_r2, w ∈ lw_tbl := zin_app zin_r2a (List.forall_mem_cons.mpr ⟨zin_r2b, zin_r2c⟩)
set_option maxRecDepth 20000 in
theorem zin_r3 : ∀ w ∈ wsL_law0_r3, w ∈ lw_tbl := fun w h => (goodIn_r (big := lw_tbl) _ [166, 183, 185, 187, 188, 167, 168, 20, 189, 191, 169, 170, 171, 172, 173, 174, 205, 206, 207, 208, 190, 209, 211, 1] (by decide +kernel) (by decide +kernel) w h).1
set_option maxRecDepth 20000 in
theorem zin_r4 : ∀ w ∈ wsL_law0_r4, w ∈ lw_tbl := fun w h => (goodIn_r (big := lw_tbl) _ [212, 213, 21, 229, 230, 231, 232, 309, 233, 234, 235, 236, 307, 313, 237, 238, 239, 240, 242, 22, 243, 244, 245, 246] (by decide +kernel) (by decide +kernel) w h).1
set_option maxRecDepth 20000 in
theorem zin_r5 : ∀ w ∈ wsL_law0_r5, w ∈ lw_tbl := fun w h => (goodIn_r (big := lw_tbl) _ [247, 249, 255, 256, 257, 258, 248, 259, 261, 2, 262, 264, 265, 266, 267, 268, 269, 270, 271, 272, 273, 274, 275, 276] (by decide +kernel) (by decide +kernel) w h).1
set_option maxRecDepth 20000 in
theorem zin_r6 : ∀ w ∈ wsL_law0_r6, w ∈ lw_tbl := fun w h => (goodIn_r (big := lw_tbl) _ [278, 3, 279, 280, 281, 282, 283, 284, 287, 288, 289, 290, 291, 292, 294, 4, 295, 296, 297, 298, 299, 300, 301, 23] (by decide +kernel) (by decide +kernel) w h).1
set_option maxRecDepth 20000 in
theorem zin_r7 : ∀ w ∈ wsL_law0_r7, w ∈ lw_tbl := fun w h => (goodIn_r (big := lw_tbl) _ [302, 303, 304, 305, 306, 308, 310, 312, 323, 324, 325, 326, 327, 328, 329, 330, 331, 332, 333, 335, 336, 337, 338, 340] (by decide +kernel) (by decide +kernel) w h).1
set_option maxRecDepth 20000 in
theorem zin_r8 : ∀ w ∈ wsL_law0_r8, w ∈ lw_tbl := fun w h => (goodIn_r (big := lw_tbl) _ [341, 342, 343, 176, 344, 345, 346, 347, 348, 349, 350, 351, 352, 353, 354, 355, 356, 357, 358, 360, 5, 361, 362, 363] (by decide +kernel) (by decide +kernel) w h).1
set_option maxRecDepth 20000 in
theorem zin_r9 : ∀ w ∈ wsL_law0_r9, w ∈ lw_tbl := fun w h => (goodIn_r (big := lw_tbl) _ [364, 365, 366, 367, 368, 369, 370, 371, 372, 373, 374, 375, 376, 377, 378, 379, 380, 381, 311, 383, 384, 385, 386, 387] (by decide +kernel) (by decide +kernel) w h).1
set_option maxRecDepth 20000 in
theorem zin_r10 : ∀ w ∈ wsL_law0_r10, w ∈ lw_tbl := fun w h => (goodIn_r (big := lw_tbl) _ [388, 389, 390, 391, 392, 24, 393, 394, 395, 396, 397, 398, 399, 400, 401, 402, 403, 404, 406, 6, 407, 408, 409, 25] (by decide +kernel) (by decide +kernel) w h).1
set_option maxRecDepth 20000 in
theorem zin_r11 : ∀ w ∈ wsL_law0_r11, w ∈ lw_tbl := fun w h => (goodIn_r (big := lw_tbl) _ [410, 411, 412, 413, 414, 415, 416, 417, 418, 419, 420, 421, 423, 7, 424, 425, 427, 8, 428, 184, 186, 429, 430, 431] (by decide +kernel) (by decide +kernel) w h).1
set_option maxRecDepth 20000 in
theorem zin_r12 : ∀ w ∈ wsL_law0_r12, w ∈ lw_tbl := fun w h => (goodIn_r (big := lw_tbl) _ [432, 175, 434, 435, 436, 437, 438, 439, 440, 441, 442, 443, 444, 453, 445, 447, 9, 448, 449, 451, 10, 452, 454, 455] (by decide +kernel) (by decide +kernel) w h).1
set_option maxRecDepth 20000 in
theorem zin_r13 : ∀ w ∈ wsL_law0_r13, w ∈ lw_tbl := fun w h => (goodIn_r (big := lw_tbl) _ [456, 457, 458, 459, 26, 460, 461, 462, 463, 464, 465, 466, 467, 468, 469, 470, 471, 473, 11, 474, 475, 476] (by decide +kernel) (by decide +kernel) w h).1
set_option maxRecDepth 20000 in
theorem zin_wX0 : ∀ w ∈ wsX00, w ∈ lw_tbl := fun w h => (goodIn_r (big := lw_tbl) _ [314, 316, 318, 320] (by decide +kernel) (by decide +kernel) w h).1
set_option maxRecDepth 20000 in
theorem zin_wX1 : ∀ w ∈ wsX10, w ∈ lw_tbl := fun w h => (goodIn_r (big := lw_tbl) _ [177, 179] (by decide +kernel) (by decide +kernel) w h).1
set_option maxRecDepth 20000 in
theorem zin_wX2 : ∀ w ∈ wsX20, w ∈ lw_tbl := fun w h => (goodIn_r (big := lw_tbl) _ [192, 194, 196, 198, 200, 202] (by decide +kernel) (by decide +kernel) w h).1
set_option maxRecDepth 20000 in
theorem zin_wX3 : ∀ w ∈ wsX30, w ∈ lw_tbl := fun w h => (goodIn_r (big := lw_tbl) _ [250, 252] (by decide +kernel) (by decide +kernel) w h).1
set_option maxRecDepth 20000 in
theorem zin_wX4 : ∀ w ∈ wsX40, w ∈ lw_tbl := fun w h => (goodIn_r (big := lw_tbl) _ [45, 47, 49, 51, 53, 55] (by decide +kernel) (by decide +kernel) w h).1
set_option maxRecDepth 20000 in
theorem wsL_law_in0 : ∀ w ∈ wsL_law0, w ∈ lw_tbl := (zin_app (zin_app (zin_app (zin_app (zin_app (zin_app (zin_app zin_r1 (zin_app zin_r2 (zin_app zin_r3 (zin_app zin_r4 (zin_app zin_r5 (zin_app zin_r6 (zin_app zin_r7 (zin_app zin_r8 (zin_app zin_r9 (zin_app zin_r10 (zin_app zin_r11 (zin_app zin_r12 zin_r13)))))))))))) zin_wX4) zin_wX2) zin_wX1) zin_wX0) zin_wX3) (fun _ h => absurd h List.not_mem_nil))
set_option maxRecDepth 20000 in
theorem goodIn_c7 {big a : List Cond} {c : Cond} (hm : c ∈ big) (hg : goodWord c = true) (ha : GoodIn big a) : GoodIn big (c :: a) := fun w h => (List.mem_cons.mp h).elim (fun e => by rw [e]; exact ⟨hm, good_of_word hg⟩) (ha w)
theorem wsL_law_x0 : ∀ w ∈ (vx_atS RX4 42 "java/lang/IllegalStateException" ["java/lang/RuntimeException", "java/lang/Exception"]).filter goodWord, w ∈ lw_tbl := by decide +kernel
theorem wsL_law_x1 : ∀ w ∈ (vx_atS RX4 160 "java/lang/IllegalArgumentException" ["java/lang/RuntimeException", "java/lang/Exception"]).filter goodWord, w ∈ lw_tbl := by decide +kernel
theorem wsL_law_x2 : ∀ w ∈ (vx_atS RX4 127 "java/lang/IndexOutOfBoundsException" ["java/lang/RuntimeException", "java/lang/Exception"]).filter goodWord, w ∈ lw_tbl := by decide +kernel
theorem wsL_law_x3 : ∀ w ∈ (vx_atS RX2 40 "java/lang/IndexOutOfBoundsException" ["java/lang/RuntimeException", "java/lang/Exception"]).filter goodWord, w ∈ lw_tbl := by decide +kernel
theorem wsL_law_in : ∀ w ∈ wsL_law, w ∈ lw_tbl := fun w h => (List.mem_append.mp h).elim (fun h => (List.mem_append.mp h).elim (fun h => (List.mem_append.mp h).elim (fun h => (List.mem_append.mp h).elim (fun h => wsL_law_in0 w h) (fun h => wsL_law_x0 w h)) (fun h => wsL_law_x1 w h)) (fun h => wsL_law_x2 w h)) (fun h => wsL_law_x3 w h)
theorem inlX0 : ∀ w ∈ wsX00, w ∈ wsL_law := fun _ h => List.mem_append_left _ (List.mem_append_left _ (List.mem_append_left _ (List.mem_append_left _ (List.mem_append_left _ (List.mem_append_left _ (List.mem_append_right _ h))))))
theorem inX0 : ∀ w ∈ wsX00, w ∈ lw_tbl := fun w h => wsL_law_in w (inlX0 w h)
theorem inlX1 : ∀ w ∈ wsX10, w ∈ wsL_law := fun _ h => List.mem_append_left _ (List.mem_append_left _ (List.mem_append_left _ (List.mem_append_left _ (List.mem_append_left _ (List.mem_append_left _ (List.mem_append_left _ (List.mem_append_right _ h)))))))
theorem inX1 : ∀ w ∈ wsX10, w ∈ lw_tbl := fun w h => wsL_law_in w (inlX1 w h)
theorem inlX2 : ∀ w ∈ wsX20, w ∈ wsL_law := fun _ h => List.mem_append_left _ (List.mem_append_left _ (List.mem_append_left _ (List.mem_append_left _ (List.mem_append_left _ (List.mem_append_left _ (List.mem_append_left _ (List.mem_append_left _ (List.mem_append_right _ h))))))))
theorem inX2 : ∀ w ∈ wsX20, w ∈ lw_tbl := fun w h => wsL_law_in w (inlX2 w h)
theorem inlX3 : ∀ w ∈ wsX30, w ∈ wsL_law := fun _ h => List.mem_append_left _ (List.mem_append_left _ (List.mem_append_left _ (List.mem_append_left _ (List.mem_append_left _ (List.mem_append_right _ h)))))
theorem inX3 : ∀ w ∈ wsX30, w ∈ lw_tbl := fun w h => wsL_law_in w (inlX3 w h)
theorem inlX4 : ∀ w ∈ wsX40, w ∈ wsL_law := fun _ h => List.mem_append_left _ (List.mem_append_left _ (List.mem_append_left _ (List.mem_append_left _ (List.mem_append_left _ (List.mem_append_left _ (List.mem_append_left _ (List.mem_append_left _ (List.mem_append_left _ (List.mem_append_right _ h)))))))))
theorem inX4 : ∀ w ∈ wsX40, w ∈ lw_tbl := fun w h => wsL_law_in w (inlX4 w h)
theorem inX5 : ∀ w ∈ wsX50, w ∈ lw_tbl := by decide +kernel
theorem inJ6 : ∀ w ∈ wsJ60, w ∈ lw_tbl := by decide +kernel
theorem inJ13 : ∀ w ∈ wsJ130, w ∈ lw_tbl := by decide +kernel
theorem inJ9 : ∀ w ∈ wsJ90, w ∈ lw_tbl := by decide +kernel
theorem inJ0 : ∀ w ∈ wsJ00, w ∈ lw_tbl := by decide +kernel
theorem dX0_init_0 : decode cX0_init 0 = .ok (.aload_n 0, 1) := by decide +kernel
theorem dX0_init_1 : decode cX0_init 1 = .ok (.invokespecial 1, 3) := by decide +kernel
theorem dX0_init_4 : decode cX0_init 4 = .ok (.aload_n 0, 1) := by decide +kernel
theorem dX0_init_5 : decode cX0_init 5 = .ok (.iload_n 1, 1) := by decide +kernel
theorem dX0_init_6 : decode cX0_init 6 = .ok (.putfield 7, 3) := by decide +kernel
theorem dX0_init_9 : decode cX0_init 9 = .ok (.aload_n 0, 1) := by decide +kernel
theorem dX0_init_10 : decode cX0_init 10 = .ok (.lload_n 2, 1) := by decide +kernel
theorem dX0_init_11 : decode cX0_init 11 = .ok (.putfield 13, 3) := by decide +kernel
theorem dX0_init_14 : decode cX0_init 14 = .ok (.aload_n 0, 1) := by decide +kernel
theorem dX0_init_15 : decode cX0_init 15 = .ok (.iload 4, 2) := by decide +kernel
theorem dX0_init_17 : decode cX0_init 17 = .ok (.putfield 17, 3) := by decide +kernel
theorem dX0_init_20 : decode cX0_init 20 = .ok (.aload_n 0, 1) := by decide +kernel
theorem dX0_init_21 : decode cX0_init 21 = .ok (.aload 5, 2) := by decide +kernel
theorem dX0_init_23 : decode cX0_init 23 = .ok (.putfield 20, 3) := by decide +kernel
theorem dX0_init_26 : decode cX0_init 26 = .ok (.return_, 1) := by decide +kernel
theorem dX1_init_0 : decode cX1_init 0 = .ok (.aload_n 0, 1) := by decide +kernel
theorem dX1_init_1 : decode cX1_init 1 = .ok (.invokespecial 3, 3) := by decide +kernel
theorem dX1_init_4 : decode cX1_init 4 = .ok (.aload_n 0, 1) := by decide +kernel
theorem dX1_init_5 : decode cX1_init 5 = .ok (.aconst_null, 1) := by decide +kernel
theorem dX1_init_6 : decode cX1_init 6 = .ok (.putfield 9, 3) := by decide +kernel
theorem dX1_init_9 : decode cX1_init 9 = .ok (.aload_n 0, 1) := by decide +kernel
theorem dX1_init_10 : decode cX1_init 10 = .ok (.iconst 0, 1) := by decide +kernel
theorem dX1_init_11 : decode cX1_init 11 = .ok (.putfield 15, 3) := by decide +kernel
theorem dX1_init_14 : decode cX1_init 14 = .ok (.return_, 1) := by decide +kernel
set_option maxRecDepth 20000 in
theorem ggX1_add_X0_init : GoodIn wsX1_add wsX0_init := goodIn_r _ [7, 8, 9, 10, 11, 12, 13, 14, 15, 16, 17, 18] (by decide +kernel) (by decide +kernel)
set_option maxRecDepth 20000 in
theorem gX1_add_X0_init : GoodIn wsX1_add (wsX0_init) := ggX1_add_X0_init
theorem dX1_add_0 : decode cX1_add 0 = .ok (.aload_n 0, 1) := by decide +kernel
theorem dX1_add_1 : decode cX1_add 1 = .ok (.new 19, 3) := by decide +kernel
theorem dX1_add_4 : decode cX1_add 4 = .ok (.dup, 1) := by decide +kernel
theorem dX1_add_5 : decode cX1_add 5 = .ok (.iload_n 1, 1) := by decide +kernel
theorem dX1_add_6 : decode cX1_add 6 = .ok (.lload_n 2, 1) := by decide +kernel
theorem dX1_add_7 : decode cX1_add 7 = .ok (.iload 4, 2) := by decide +kernel
theorem dX1_add_9 : decode cX1_add 9 = .ok (.aload_n 0, 1) := by decide +kernel
theorem dX1_add_10 : decode cX1_add 10 = .ok (.getfield 9, 3) := by decide +kernel
theorem dX1_add_13 : decode cX1_add 13 = .ok (.invokespecial 21, 3) := by decide +kernel
theorem dX1_add_16 : decode cX1_add 16 = .ok (.putfield 9, 3) := by decide +kernel
theorem dX1_add_19 : decode cX1_add 19 = .ok (.return_, 1) := by decide +kernel
theorem dX1_changeAt_0 : decode cX1_changeAt 0 = .ok (.aload_n 0, 1) := by decide +kernel
theorem dX1_changeAt_1 : decode cX1_changeAt 1 = .ok (.getfield 9, 3) := by decide +kernel
theorem dX1_changeAt_4 : decode cX1_changeAt 4 = .ok (.astore_n 2, 1) := by decide +kernel
theorem dX1_changeAt_5 : decode cX1_changeAt 5 = .ok (.aload_n 2, 1) := by decide +kernel
theorem dX1_changeAt_6 : decode cX1_changeAt 6 = .ok (.ifnull 19, 3) := by decide +kernel
theorem dX1_changeAt_9 : decode cX1_changeAt 9 = .ok (.aload_n 2, 1) := by decide +kernel
theorem dX1_changeAt_10 : decode cX1_changeAt 10 = .ok (.getfield 24, 3) := by decide +kernel
theorem dX1_changeAt_13 : decode cX1_changeAt 13 = .ok (.iload_n 1, 1) := by decide +kernel
theorem dX1_changeAt_14 : decode cX1_changeAt 14 = .ok (.if_icmp .le 11, 3) := by decide +kernel
theorem dX1_changeAt_17 : decode cX1_changeAt 17 = .ok (.aload_n 2, 1) := by decide +kernel
theorem dX1_changeAt_18 : decode cX1_changeAt 18 = .ok (.getfield 27, 3) := by decide +kernel
theorem dX1_changeAt_21 : decode cX1_changeAt 21 = .ok (.astore_n 2, 1) := by decide +kernel
theorem dX1_changeAt_22 : decode cX1_changeAt 22 = .ok (.goto (-17), 3) := by decide +kernel
theorem dX1_changeAt_25 : decode cX1_changeAt 25 = .ok (.aload_n 2, 1) := by decide +kernel
theorem dX1_changeAt_26 : decode cX1_changeAt 26 = .ok (.areturn, 1) := by decide +kernel
set_option maxRecDepth 20000 in
theorem ggX1_isOnAt_X1_changeAt : GoodIn wsX1_isOnAt wsX1_changeAt := goodIn_r _ [6, 7, 8, 9, 14, 15, 10, 11, 12, 13] (by decide +kernel) (by decide +kernel)
set_option maxRecDepth 20000 in
theorem gX1_isOnAt_X1_changeAt : GoodIn wsX1_isOnAt (wsV RX1 30 RX1 yX1_changeAt wsX1_changeAt) := goodIn_app (goodIn_of _ (by decide +kernel)) ggX1_isOnAt_X1_changeAt
theorem dX1_isOnAt_0 : decode cX1_isOnAt 0 = .ok (.aload_n 0, 1) := by decide +kernel
theorem dX1_isOnAt_1 : decode cX1_isOnAt 1 = .ok (.iload_n 1, 1) := by decide +kernel
theorem dX1_isOnAt_2 : decode cX1_isOnAt 2 = .ok (.invokevirtual 30, 3) := by decide +kernel
theorem dX1_isOnAt_5 : decode cX1_isOnAt 5 = .ok (.astore_n 2, 1) := by decide +kernel
theorem dX1_isOnAt_6 : decode cX1_isOnAt 6 = .ok (.aload_n 2, 1) := by decide +kernel
theorem dX1_isOnAt_7 : decode cX1_isOnAt 7 = .ok (.ifnull 16, 3) := by decide +kernel
theorem dX1_isOnAt_10 : decode cX1_isOnAt 10 = .ok (.aload_n 2, 1) := by decide +kernel
theorem dX1_isOnAt_11 : decode cX1_isOnAt 11 = .ok (.getfield 34, 3) := by decide +kernel
theorem dX1_isOnAt_14 : decode cX1_isOnAt 14 = .ok (.lconst 0, 1) := by decide +kernel
theorem dX1_isOnAt_15 : decode cX1_isOnAt 15 = .ok (.lcmp, 1) := by decide +kernel
theorem dX1_isOnAt_16 : decode cX1_isOnAt 16 = .ok (.ifCond .eq 7, 3) := by decide +kernel
theorem dX1_isOnAt_19 : decode cX1_isOnAt 19 = .ok (.iconst 1, 1) := by decide +kernel
theorem dX1_isOnAt_20 : decode cX1_isOnAt 20 = .ok (.goto 4, 3) := by decide +kernel
theorem dX1_isOnAt_23 : decode cX1_isOnAt 23 = .ok (.iconst 0, 1) := by decide +kernel
theorem dX1_isOnAt_24 : decode cX1_isOnAt 24 = .ok (.ireturn, 1) := by decide +kernel
set_option maxRecDepth 20000 in
theorem ggX1_yearsOpen_X1_changeAt : GoodIn wsX1_yearsOpen wsX1_changeAt := goodIn_r _ [7, 8, 9, 10, 18, 19, 14, 15, 16, 17] (by decide +kernel) (by decide +kernel)
set_option maxRecDepth 20000 in
theorem gX1_yearsOpen_X1_changeAt : GoodIn wsX1_yearsOpen (wsV RX1 30 RX1 yX1_changeAt wsX1_changeAt) := goodIn_app (goodIn_of _ (by decide +kernel)) ggX1_yearsOpen_X1_changeAt
set_option maxRecDepth 20000 in
theorem ggX1_yearsOpen_X4_yearsBetween : GoodIn wsX1_yearsOpen wsX4_yearsBetween := goodIn_r _ [13] (by decide +kernel) (by decide +kernel)
set_option maxRecDepth 20000 in
theorem gX1_yearsOpen_X4_yearsBetween_n41 : GoodIn wsX1_yearsOpen (wsX4_yearsBetween) := ggX1_yearsOpen_X4_yearsBetween
theorem dX1_yearsOpen_0 : decode cX1_yearsOpen 0 = .ok (.aload_n 0, 1) := by decide +kernel
theorem dX1_yearsOpen_1 : decode cX1_yearsOpen 1 = .ok (.iload_n 1, 1) := by decide +kernel
theorem dX1_yearsOpen_2 : decode cX1_yearsOpen 2 = .ok (.invokevirtual 30, 3) := by decide +kernel
theorem dX1_yearsOpen_5 : decode cX1_yearsOpen 5 = .ok (.astore_n 2, 1) := by decide +kernel
theorem dX1_yearsOpen_6 : decode cX1_yearsOpen 6 = .ok (.aload_n 2, 1) := by decide +kernel
theorem dX1_yearsOpen_7 : decode cX1_yearsOpen 7 = .ok (.ifnonnull 7, 3) := by decide +kernel
theorem dX1_yearsOpen_10 : decode cX1_yearsOpen 10 = .ok (.lconst 0, 1) := by decide +kernel
theorem dX1_yearsOpen_11 : decode cX1_yearsOpen 11 = .ok (.goto 22, 3) := by decide +kernel
theorem dX1_yearsOpen_14 : decode cX1_yearsOpen 14 = .ok (.aload_n 2, 1) := by decide +kernel
theorem dX1_yearsOpen_15 : decode cX1_yearsOpen 15 = .ok (.getfield 34, 3) := by decide +kernel
theorem dX1_yearsOpen_18 : decode cX1_yearsOpen 18 = .ok (.iconst 0, 1) := by decide +kernel
theorem dX1_yearsOpen_19 : decode cX1_yearsOpen 19 = .ok (.iload_n 1, 1) := by decide +kernel
theorem dX1_yearsOpen_20 : decode cX1_yearsOpen 20 = .ok (.sipush 360, 3) := by decide +kernel
theorem dX1_yearsOpen_23 : decode cX1_yearsOpen 23 = .ok (.idiv, 1) := by decide +kernel
theorem dX1_yearsOpen_24 : decode cX1_yearsOpen 24 = .ok (.aload_n 2, 1) := by decide +kernel
theorem dX1_yearsOpen_25 : decode cX1_yearsOpen 25 = .ok (.getfield 38, 3) := by decide +kernel
theorem dX1_yearsOpen_28 : decode cX1_yearsOpen 28 = .ok (.isub, 1) := by decide +kernel
theorem dX1_yearsOpen_29 : decode cX1_yearsOpen 29 = .ok (.invokestatic 41, 3) := by decide +kernel
theorem dX1_yearsOpen_32 : decode cX1_yearsOpen 32 = .ok (.land, 1) := by decide +kernel
theorem dX1_yearsOpen_33 : decode cX1_yearsOpen 33 = .ok (.lreturn, 1) := by decide +kernel
set_option maxRecDepth 20000 in
theorem ggX1_yearsKept_X4_yearsBetween : GoodIn wsX1_yearsKept wsX4_yearsBetween := goodIn_r _ [12] (by decide +kernel) (by decide +kernel)
set_option maxRecDepth 20000 in
theorem gX1_yearsKept_X4_yearsBetween_n41 : GoodIn wsX1_yearsKept (wsX4_yearsBetween) := ggX1_yearsKept_X4_yearsBetween
theorem dX1_yearsKept_0 : decode cX1_yearsKept 0 = .ok (.iload_n 1, 1) := by decide +kernel
theorem dX1_yearsKept_1 : decode cX1_yearsKept 1 = .ok (.sipush 360, 3) := by decide +kernel
theorem dX1_yearsKept_4 : decode cX1_yearsKept 4 = .ok (.idiv, 1) := by decide +kernel
theorem dX1_yearsKept_5 : decode cX1_yearsKept 5 = .ok (.istore_n 2, 1) := by decide +kernel
theorem dX1_yearsKept_6 : decode cX1_yearsKept 6 = .ok (.iload_n 1, 1) := by decide +kernel
theorem dX1_yearsKept_7 : decode cX1_yearsKept 7 = .ok (.istore_n 3, 1) := by decide +kernel
theorem dX1_yearsKept_8 : decode cX1_yearsKept 8 = .ok (.lconst 0, 1) := by decide +kernel
theorem dX1_yearsKept_9 : decode cX1_yearsKept 9 = .ok (.lstore 4, 2) := by decide +kernel
theorem dX1_yearsKept_11 : decode cX1_yearsKept 11 = .ok (.aload_n 0, 1) := by decide +kernel
theorem dX1_yearsKept_12 : decode cX1_yearsKept 12 = .ok (.getfield 9, 3) := by decide +kernel
theorem dX1_yearsKept_15 : decode cX1_yearsKept 15 = .ok (.astore 6, 2) := by decide +kernel
theorem dX1_yearsKept_17 : decode cX1_yearsKept 17 = .ok (.aload 6, 2) := by decide +kernel
theorem dX1_yearsKept_19 : decode cX1_yearsKept 19 = .ok (.ifnull 75, 3) := by decide +kernel
theorem dX1_yearsKept_22 : decode cX1_yearsKept 22 = .ok (.aload 6, 2) := by decide +kernel
theorem dX1_yearsKept_24 : decode cX1_yearsKept 24 = .ok (.getfield 24, 3) := by decide +kernel
theorem dX1_yearsKept_27 : decode cX1_yearsKept 27 = .ok (.sipush 360, 3) := by decide +kernel
theorem dX1_yearsKept_30 : decode cX1_yearsKept 30 = .ok (.idiv, 1) := by decide +kernel
theorem dX1_yearsKept_31 : decode cX1_yearsKept 31 = .ok (.istore 7, 2) := by decide +kernel
theorem dX1_yearsKept_33 : decode cX1_yearsKept 33 = .ok (.iload_n 3, 1) := by decide +kernel
theorem dX1_yearsKept_34 : decode cX1_yearsKept 34 = .ok (.sipush 360, 3) := by decide +kernel
theorem dX1_yearsKept_37 : decode cX1_yearsKept 37 = .ok (.idiv, 1) := by decide +kernel
theorem dX1_yearsKept_38 : decode cX1_yearsKept 38 = .ok (.iconst 1, 1) := by decide +kernel
theorem dX1_yearsKept_39 : decode cX1_yearsKept 39 = .ok (.isub, 1) := by decide +kernel
theorem dX1_yearsKept_40 : decode cX1_yearsKept 40 = .ok (.istore 8, 2) := by decide +kernel
theorem dX1_yearsKept_42 : decode cX1_yearsKept 42 = .ok (.iload_n 2, 1) := by decide +kernel
theorem dX1_yearsKept_43 : decode cX1_yearsKept 43 = .ok (.aload 6, 2) := by decide +kernel
theorem dX1_yearsKept_45 : decode cX1_yearsKept 45 = .ok (.getfield 38, 3) := by decide +kernel
theorem dX1_yearsKept_48 : decode cX1_yearsKept 48 = .ok (.isub, 1) := by decide +kernel
theorem dX1_yearsKept_49 : decode cX1_yearsKept 49 = .ok (.istore 9, 2) := by decide +kernel
theorem dX1_yearsKept_51 : decode cX1_yearsKept 51 = .ok (.lload 4, 2) := by decide +kernel
theorem dX1_yearsKept_53 : decode cX1_yearsKept 53 = .ok (.aload 6, 2) := by decide +kernel
theorem dX1_yearsKept_55 : decode cX1_yearsKept 55 = .ok (.getfield 34, 3) := by decide +kernel
theorem dX1_yearsKept_58 : decode cX1_yearsKept 58 = .ok (.iload 7, 2) := by decide +kernel
theorem dX1_yearsKept_60 : decode cX1_yearsKept 60 = .ok (.iload 8, 2) := by decide +kernel
theorem dX1_yearsKept_62 : decode cX1_yearsKept 62 = .ok (.iload 9, 2) := by decide +kernel
theorem dX1_yearsKept_64 : decode cX1_yearsKept 64 = .ok (.invokestatic 45, 3) := by decide +kernel
theorem dX1_yearsKept_67 : decode cX1_yearsKept 67 = .ok (.invokestatic 41, 3) := by decide +kernel
theorem dX1_yearsKept_70 : decode cX1_yearsKept 70 = .ok (.land, 1) := by decide +kernel
theorem dX1_yearsKept_71 : decode cX1_yearsKept 71 = .ok (.lor, 1) := by decide +kernel
theorem dX1_yearsKept_72 : decode cX1_yearsKept 72 = .ok (.lstore 4, 2) := by decide +kernel
theorem dX1_yearsKept_74 : decode cX1_yearsKept 74 = .ok (.iload_n 3, 1) := by decide +kernel
theorem dX1_yearsKept_75 : decode cX1_yearsKept 75 = .ok (.aload 6, 2) := by decide +kernel
theorem dX1_yearsKept_77 : decode cX1_yearsKept 77 = .ok (.getfield 24, 3) := by decide +kernel
theorem dX1_yearsKept_80 : decode cX1_yearsKept 80 = .ok (.invokestatic 45, 3) := by decide +kernel
theorem dX1_yearsKept_83 : decode cX1_yearsKept 83 = .ok (.istore_n 3, 1) := by decide +kernel
theorem dX1_yearsKept_84 : decode cX1_yearsKept 84 = .ok (.aload 6, 2) := by decide +kernel
theorem dX1_yearsKept_86 : decode cX1_yearsKept 86 = .ok (.getfield 27, 3) := by decide +kernel
theorem dX1_yearsKept_89 : decode cX1_yearsKept 89 = .ok (.astore 6, 2) := by decide +kernel
theorem dX1_yearsKept_91 : decode cX1_yearsKept 91 = .ok (.goto (-74), 3) := by decide +kernel
theorem dX1_yearsKept_94 : decode cX1_yearsKept 94 = .ok (.lload 4, 2) := by decide +kernel
theorem dX1_yearsKept_96 : decode cX1_yearsKept 96 = .ok (.lreturn, 1) := by decide +kernel
set_option maxRecDepth 20000 in
theorem ggX2_init_X1_init : GoodIn wsX2_init wsX1_init := goodIn_r _ [15, 16, 2, 3, 17, 18, 25, 26] (by decide +kernel) (by decide +kernel)
set_option maxRecDepth 20000 in
theorem gX2_init_X1_init : GoodIn wsX2_init (wsX1_init) := ggX2_init_X1_init
theorem dX2_init_0 : decode cX2_init 0 = .ok (.aload_n 0, 1) := by decide +kernel
theorem dX2_init_1 : decode cX2_init 1 = .ok (.invokespecial 3, 3) := by decide +kernel
theorem dX2_init_4 : decode cX2_init 4 = .ok (.aload_n 0, 1) := by decide +kernel
theorem dX2_init_5 : decode cX2_init 5 = .ok (.iload_n 1, 1) := by decide +kernel
theorem dX2_init_6 : decode cX2_init 6 = .ok (.putfield 9, 3) := by decide +kernel
theorem dX2_init_9 : decode cX2_init 9 = .ok (.aload_n 0, 1) := by decide +kernel
theorem dX2_init_10 : decode cX2_init 10 = .ok (.iload_n 2, 1) := by decide +kernel
theorem dX2_init_11 : decode cX2_init 11 = .ok (.putfield 15, 3) := by decide +kernel
theorem dX2_init_14 : decode cX2_init 14 = .ok (.aload_n 0, 1) := by decide +kernel
theorem dX2_init_15 : decode cX2_init 15 = .ok (.iload_n 3, 1) := by decide +kernel
theorem dX2_init_16 : decode cX2_init 16 = .ok (.putfield 18, 3) := by decide +kernel
theorem dX2_init_19 : decode cX2_init 19 = .ok (.aload_n 0, 1) := by decide +kernel
theorem dX2_init_20 : decode cX2_init 20 = .ok (.iload 4, 2) := by decide +kernel
theorem dX2_init_22 : decode cX2_init 22 = .ok (.putfield 21, 3) := by decide +kernel
theorem dX2_init_25 : decode cX2_init 25 = .ok (.aload_n 0, 1) := by decide +kernel
theorem dX2_init_26 : decode cX2_init 26 = .ok (.new 25, 3) := by decide +kernel
theorem dX2_init_29 : decode cX2_init 29 = .ok (.dup, 1) := by decide +kernel
theorem dX2_init_30 : decode cX2_init 30 = .ok (.invokespecial 27, 3) := by decide +kernel
theorem dX2_init_33 : decode cX2_init 33 = .ok (.putfield 28, 3) := by decide +kernel
theorem dX2_init_36 : decode cX2_init 36 = .ok (.aload_n 0, 1) := by decide +kernel
theorem dX2_init_37 : decode cX2_init 37 = .ok (.bipush 20, 2) := by decide +kernel
theorem dX2_init_39 : decode cX2_init 39 = .ok (.anewarray 25, 3) := by decide +kernel
theorem dX2_init_42 : decode cX2_init 42 = .ok (.putfield 32, 3) := by decide +kernel
theorem dX2_init_45 : decode cX2_init 45 = .ok (.iconst 0, 1) := by decide +kernel
theorem dX2_init_46 : decode cX2_init 46 = .ok (.istore 5, 2) := by decide +kernel
theorem dX2_init_48 : decode cX2_init 48 = .ok (.iload 5, 2) := by decide +kernel
theorem dX2_init_50 : decode cX2_init 50 = .ok (.bipush 20, 2) := by decide +kernel
theorem dX2_init_52 : decode cX2_init 52 = .ok (.if_icmp .ge 23, 3) := by decide +kernel
theorem dX2_init_55 : decode cX2_init 55 = .ok (.aload_n 0, 1) := by decide +kernel
theorem dX2_init_56 : decode cX2_init 56 = .ok (.getfield 32, 3) := by decide +kernel
theorem dX2_init_59 : decode cX2_init 59 = .ok (.iload 5, 2) := by decide +kernel
theorem dX2_init_61 : decode cX2_init 61 = .ok (.new 25, 3) := by decide +kernel
theorem dX2_init_64 : decode cX2_init 64 = .ok (.dup, 1) := by decide +kernel
theorem dX2_init_65 : decode cX2_init 65 = .ok (.invokespecial 27, 3) := by decide +kernel
theorem dX2_init_68 : decode cX2_init 68 = .ok (.aastore, 1) := by decide +kernel
theorem dX2_init_69 : decode cX2_init 69 = .ok (.iinc 5 1, 3) := by decide +kernel
theorem dX2_init_72 : decode cX2_init 72 = .ok (.goto (-24), 3) := by decide +kernel
theorem dX2_init_75 : decode cX2_init 75 = .ok (.return_, 1) := by decide +kernel
theorem dX2_stayOf_0 : decode cX2_stayOf 0 = .ok (.iload_n 1, 1) := by decide +kernel
theorem dX2_stayOf_1 : decode cX2_stayOf 1 = .ok (.ifCond .lt 21, 3) := by decide +kernel
theorem dX2_stayOf_4 : decode cX2_stayOf 4 = .ok (.iload_n 1, 1) := by decide +kernel
theorem dX2_stayOf_5 : decode cX2_stayOf 5 = .ok (.aload_n 0, 1) := by decide +kernel
theorem dX2_stayOf_6 : decode cX2_stayOf 6 = .ok (.getfield 32, 3) := by decide +kernel
theorem dX2_stayOf_9 : decode cX2_stayOf 9 = .ok (.arraylength, 1) := by decide +kernel
theorem dX2_stayOf_10 : decode cX2_stayOf 10 = .ok (.if_icmp .ge 12, 3) := by decide +kernel
theorem dX2_stayOf_13 : decode cX2_stayOf 13 = .ok (.aload_n 0, 1) := by decide +kernel
theorem dX2_stayOf_14 : decode cX2_stayOf 14 = .ok (.getfield 32, 3) := by decide +kernel
theorem dX2_stayOf_17 : decode cX2_stayOf 17 = .ok (.iload_n 1, 1) := by decide +kernel
theorem dX2_stayOf_18 : decode cX2_stayOf 18 = .ok (.aaload, 1) := by decide +kernel
theorem dX2_stayOf_19 : decode cX2_stayOf 19 = .ok (.ifnonnull 13, 3) := by decide +kernel
theorem dX2_stayOf_22 : decode cX2_stayOf 22 = .ok (.new 36, 3) := by decide +kernel
theorem dX2_stayOf_25 : decode cX2_stayOf 25 = .ok (.dup, 1) := by decide +kernel
theorem dX2_stayOf_26 : decode cX2_stayOf 26 = .ok (.ldc 38, 2) := by decide +kernel
theorem dX2_stayOf_28 : decode cX2_stayOf 28 = .ok (.invokespecial 40, 3) := by decide +kernel
theorem dX2_stayOf_31 : decode cX2_stayOf 31 = .ok (.athrow, 1) := by decide +kernel
theorem dX2_stayOf_32 : decode cX2_stayOf 32 = .ok (.aload_n 0, 1) := by decide +kernel
theorem dX2_stayOf_33 : decode cX2_stayOf 33 = .ok (.getfield 32, 3) := by decide +kernel
theorem dX2_stayOf_36 : decode cX2_stayOf 36 = .ok (.iload_n 1, 1) := by decide +kernel
theorem dX2_stayOf_37 : decode cX2_stayOf 37 = .ok (.aaload, 1) := by decide +kernel
theorem dX2_stayOf_38 : decode cX2_stayOf 38 = .ok (.areturn, 1) := by decide +kernel
theorem dX2_letsIn_0 : decode cX2_letsIn 0 = .ok (.aload_n 0, 1) := by decide +kernel
theorem dX2_letsIn_1 : decode cX2_letsIn 1 = .ok (.getfield 18, 3) := by decide +kernel
theorem dX2_letsIn_4 : decode cX2_letsIn 4 = .ok (.iload_n 1, 1) := by decide +kernel
theorem dX2_letsIn_5 : decode cX2_letsIn 5 = .ok (.ishr, 1) := by decide +kernel
theorem dX2_letsIn_6 : decode cX2_letsIn 6 = .ok (.iconst 1, 1) := by decide +kernel
theorem dX2_letsIn_7 : decode cX2_letsIn 7 = .ok (.iand, 1) := by decide +kernel
theorem dX2_letsIn_8 : decode cX2_letsIn 8 = .ok (.iconst 1, 1) := by decide +kernel
theorem dX2_letsIn_9 : decode cX2_letsIn 9 = .ok (.if_icmp .ne 7, 3) := by decide +kernel
theorem dX2_letsIn_12 : decode cX2_letsIn 12 = .ok (.iconst 1, 1) := by decide +kernel
theorem dX2_letsIn_13 : decode cX2_letsIn 13 = .ok (.goto 4, 3) := by decide +kernel
theorem dX2_letsIn_16 : decode cX2_letsIn 16 = .ok (.iconst 0, 1) := by decide +kernel
theorem dX2_letsIn_17 : decode cX2_letsIn 17 = .ok (.ireturn, 1) := by decide +kernel
set_option maxRecDepth 20000 in
theorem ggX2_isBroken_X2_stayOf : GoodIn wsX2_isBroken wsX2_stayOf := goodIn_ca (goodIn_r _ [6, 7, 8, 9, 12, 13, 14, 15, 16, 17] (by decide +kernel) (by decide +kernel)) (goodIn_sub (fun _ h => List.mem_cons_of_mem _ (List.mem_append_right _ h)) (by decide +kernel))
set_option maxRecDepth 20000 in
theorem gX2_isBroken_X2_stayOf : GoodIn wsX2_isBroken (wsV RX2 43 RX2 yX2_stayOf wsX2_stayOf) := goodIn_app (goodIn_of _ (by decide +kernel)) ggX2_isBroken_X2_stayOf
theorem dX2_isBroken_0 : decode cX2_isBroken 0 = .ok (.aload_n 0, 1) := by decide +kernel
theorem dX2_isBroken_1 : decode cX2_isBroken 1 = .ok (.iload_n 1, 1) := by decide +kernel
theorem dX2_isBroken_2 : decode cX2_isBroken 2 = .ok (.invokevirtual 43, 3) := by decide +kernel
theorem dX2_isBroken_5 : decode cX2_isBroken 5 = .ok (.getfield 47, 3) := by decide +kernel
theorem dX2_isBroken_8 : decode cX2_isBroken 8 = .ok (.iconst 2, 1) := by decide +kernel
theorem dX2_isBroken_9 : decode cX2_isBroken 9 = .ok (.if_icmp .lt 7, 3) := by decide +kernel
theorem dX2_isBroken_12 : decode cX2_isBroken 12 = .ok (.iconst 1, 1) := by decide +kernel
theorem dX2_isBroken_13 : decode cX2_isBroken 13 = .ok (.goto 4, 3) := by decide +kernel
theorem dX2_isBroken_16 : decode cX2_isBroken 16 = .ok (.iconst 0, 1) := by decide +kernel
theorem dX2_isBroken_17 : decode cX2_isBroken 17 = .ok (.ireturn, 1) := by decide +kernel
set_option maxRecDepth 20000 in
theorem ggX2_yearsCovered_X2_yearsOpen : GoodIn wsX2_yearsCovered wsX2_yearsOpen := goodIn_ca (goodIn_r _ [5, 6, 7, 8, 9, 4, 10, 11, 12, 13, 14, 15, 16, 17, 18, 19, 20, 21, 22, 23, 24, 25, 26, 27, 28, 29, 30, 44, 45, 46, 47, 48, 49, 50, 51, 52, 53, 54, 55] (by decide +kernel) (by decide +kernel)) (goodIn_sub (fun _ h => List.mem_cons_of_mem _ (List.mem_append_right _ h)) (by decide +kernel))
set_option maxRecDepth 20000 in
theorem gX2_yearsCovered_X2_yearsOpen : GoodIn wsX2_yearsCovered (wsV RX2 50 RX2 yX2_yearsOpen wsX2_yearsOpen) := goodIn_app (goodIn_of _ (by decide +kernel)) ggX2_yearsCovered_X2_yearsOpen
set_option maxRecDepth 20000 in
theorem ggX2_yearsCovered_X2_yearsKept : GoodIn wsX2_yearsCovered wsX2_yearsKept := goodIn_ca (goodIn_r _ [34, 35, 6, 7, 8, 9, 4, 10, 11, 12, 13, 36, 37, 38, 17, 39, 25, 26, 20, 19, 40, 41, 42, 43, 27, 28, 29, 30, 44, 45, 46, 47, 48, 49, 54, 55, 50, 51, 52, 53] (by decide +kernel) (by decide +kernel)) (goodIn_sub (fun _ h => List.mem_cons_of_mem _ (List.mem_append_right _ h)) (by decide +kernel))
set_option maxRecDepth 20000 in
theorem gX2_yearsCovered_X2_yearsKept : GoodIn wsX2_yearsCovered (wsV RX2 54 RX2 yX2_yearsKept wsX2_yearsKept) := goodIn_app (goodIn_of _ (by decide +kernel)) ggX2_yearsCovered_X2_yearsKept
theorem dX2_yearsCovered_0 : decode cX2_yearsCovered 0 = .ok (.aload_n 0, 1) := by decide +kernel
theorem dX2_yearsCovered_1 : decode cX2_yearsCovered 1 = .ok (.iload_n 1, 1) := by decide +kernel
theorem dX2_yearsCovered_2 : decode cX2_yearsCovered 2 = .ok (.iload_n 2, 1) := by decide +kernel
theorem dX2_yearsCovered_3 : decode cX2_yearsCovered 3 = .ok (.invokevirtual 50, 3) := by decide +kernel
theorem dX2_yearsCovered_6 : decode cX2_yearsCovered 6 = .ok (.aload_n 0, 1) := by decide +kernel
theorem dX2_yearsCovered_7 : decode cX2_yearsCovered 7 = .ok (.iload_n 1, 1) := by decide +kernel
theorem dX2_yearsCovered_8 : decode cX2_yearsCovered 8 = .ok (.iload_n 2, 1) := by decide +kernel
theorem dX2_yearsCovered_9 : decode cX2_yearsCovered 9 = .ok (.invokevirtual 54, 3) := by decide +kernel
theorem dX2_yearsCovered_12 : decode cX2_yearsCovered 12 = .ok (.lor, 1) := by decide +kernel
theorem dX2_yearsCovered_13 : decode cX2_yearsCovered 13 = .ok (.lreturn, 1) := by decide +kernel
set_option maxRecDepth 20000 in
theorem ggX2_yearsOpen_X2_stayOf : GoodIn wsX2_yearsOpen wsX2_stayOf := goodIn_ca (goodIn_r _ [6, 7, 8, 9, 27, 28, 29, 30, 31, 32] (by decide +kernel) (by decide +kernel)) (goodIn_sub (fun _ h => List.mem_cons_of_mem _ (List.mem_append_right _ h)) (by decide +kernel))
set_option maxRecDepth 20000 in
theorem gX2_yearsOpen_X2_stayOf : GoodIn wsX2_yearsOpen (wsV RX2 43 RX2 yX2_stayOf wsX2_stayOf) := goodIn_app (goodIn_of _ (by decide +kernel)) ggX2_yearsOpen_X2_stayOf
set_option maxRecDepth 20000 in
theorem ggX2_yearsOpen_X1_yearsOpen : GoodIn wsX2_yearsOpen wsX1_yearsOpen := goodIn_r _ [14, 15, 16, 17, 18, 19, 13, 20, 21, 22, 23, 24, 25, 26, 33, 34, 35, 36, 37, 38] (by decide +kernel) (by decide +kernel)
set_option maxRecDepth 20000 in
theorem gX2_yearsOpen_X1_yearsOpen : GoodIn wsX2_yearsOpen (wsV RX2 57 RX1 yX1_yearsOpen wsX1_yearsOpen) := goodIn_app (goodIn_of _ (by decide +kernel)) ggX2_yearsOpen_X1_yearsOpen
theorem dX2_yearsOpen_0 : decode cX2_yearsOpen 0 = .ok (.aload_n 0, 1) := by decide +kernel
theorem dX2_yearsOpen_1 : decode cX2_yearsOpen 1 = .ok (.iload_n 1, 1) := by decide +kernel
theorem dX2_yearsOpen_2 : decode cX2_yearsOpen 2 = .ok (.invokevirtual 43, 3) := by decide +kernel
theorem dX2_yearsOpen_5 : decode cX2_yearsOpen 5 = .ok (.iload_n 2, 1) := by decide +kernel
theorem dX2_yearsOpen_6 : decode cX2_yearsOpen 6 = .ok (.invokevirtual 57, 3) := by decide +kernel
theorem dX2_yearsOpen_9 : decode cX2_yearsOpen 9 = .ok (.aload_n 0, 1) := by decide +kernel
theorem dX2_yearsOpen_10 : decode cX2_yearsOpen 10 = .ok (.getfield 28, 3) := by decide +kernel
theorem dX2_yearsOpen_13 : decode cX2_yearsOpen 13 = .ok (.iload_n 2, 1) := by decide +kernel
theorem dX2_yearsOpen_14 : decode cX2_yearsOpen 14 = .ok (.invokevirtual 57, 3) := by decide +kernel
theorem dX2_yearsOpen_17 : decode cX2_yearsOpen 17 = .ok (.land, 1) := by decide +kernel
theorem dX2_yearsOpen_18 : decode cX2_yearsOpen 18 = .ok (.lreturn, 1) := by decide +kernel
set_option maxRecDepth 20000 in
theorem ggX2_yearsKept_X2_stayOf : GoodIn wsX2_yearsKept wsX2_stayOf := goodIn_ca (goodIn_r _ [7, 8, 9, 10, 28, 29, 30, 31, 32, 33] (by decide +kernel) (by decide +kernel)) (goodIn_sub (fun _ h => List.mem_cons_of_mem _ (List.mem_append_right _ h)) (by decide +kernel))
set_option maxRecDepth 20000 in
theorem gX2_yearsKept_X2_stayOf : GoodIn wsX2_yearsKept (wsV RX2 43 RX2 yX2_stayOf wsX2_stayOf) := goodIn_app (goodIn_of _ (by decide +kernel)) ggX2_yearsKept_X2_stayOf
set_option maxRecDepth 20000 in
theorem ggX2_yearsKept_X1_yearsKept : GoodIn wsX2_yearsKept wsX1_yearsKept := goodIn_r _ [15, 16, 17, 18, 19, 20, 21, 22, 23, 24, 25, 26, 27, 34, 35, 36, 37, 38, 39] (by decide +kernel) (by decide +kernel)
set_option maxRecDepth 20000 in
theorem gX2_yearsKept_X1_yearsKept : GoodIn wsX2_yearsKept (wsV RX2 60 RX1 yX1_yearsKept wsX1_yearsKept) := goodIn_app (goodIn_of _ (by decide +kernel)) ggX2_yearsKept_X1_yearsKept
theorem dX2_yearsKept_0 : decode cX2_yearsKept 0 = .ok (.aload_n 0, 1) := by decide +kernel
theorem dX2_yearsKept_1 : decode cX2_yearsKept 1 = .ok (.getfield 21, 3) := by decide +kernel
theorem dX2_yearsKept_4 : decode cX2_yearsKept 4 = .ok (.ifCond .ne 5, 3) := by decide +kernel
theorem dX2_yearsKept_7 : decode cX2_yearsKept 7 = .ok (.lconst 0, 1) := by decide +kernel
theorem dX2_yearsKept_8 : decode cX2_yearsKept 8 = .ok (.lreturn, 1) := by decide +kernel
theorem dX2_yearsKept_9 : decode cX2_yearsKept 9 = .ok (.aload_n 0, 1) := by decide +kernel
theorem dX2_yearsKept_10 : decode cX2_yearsKept 10 = .ok (.iload_n 1, 1) := by decide +kernel
theorem dX2_yearsKept_11 : decode cX2_yearsKept 11 = .ok (.invokevirtual 43, 3) := by decide +kernel
theorem dX2_yearsKept_14 : decode cX2_yearsKept 14 = .ok (.iload_n 2, 1) := by decide +kernel
theorem dX2_yearsKept_15 : decode cX2_yearsKept 15 = .ok (.invokevirtual 60, 3) := by decide +kernel
theorem dX2_yearsKept_18 : decode cX2_yearsKept 18 = .ok (.lstore_n 3, 1) := by decide +kernel
theorem dX2_yearsKept_19 : decode cX2_yearsKept 19 = .ok (.lload_n 3, 1) := by decide +kernel
theorem dX2_yearsKept_20 : decode cX2_yearsKept 20 = .ok (.lconst 0, 1) := by decide +kernel
theorem dX2_yearsKept_21 : decode cX2_yearsKept 21 = .ok (.lcmp, 1) := by decide +kernel
theorem dX2_yearsKept_22 : decode cX2_yearsKept 22 = .ok (.ifCond .ne 7, 3) := by decide +kernel
theorem dX2_yearsKept_25 : decode cX2_yearsKept 25 = .ok (.lconst 0, 1) := by decide +kernel
theorem dX2_yearsKept_26 : decode cX2_yearsKept 26 = .ok (.goto 13, 3) := by decide +kernel
theorem dX2_yearsKept_29 : decode cX2_yearsKept 29 = .ok (.lload_n 3, 1) := by decide +kernel
theorem dX2_yearsKept_30 : decode cX2_yearsKept 30 = .ok (.aload_n 0, 1) := by decide +kernel
theorem dX2_yearsKept_31 : decode cX2_yearsKept 31 = .ok (.getfield 28, 3) := by decide +kernel
theorem dX2_yearsKept_34 : decode cX2_yearsKept 34 = .ok (.iload_n 2, 1) := by decide +kernel
theorem dX2_yearsKept_35 : decode cX2_yearsKept 35 = .ok (.invokevirtual 60, 3) := by decide +kernel
theorem dX2_yearsKept_38 : decode cX2_yearsKept 38 = .ok (.land, 1) := by decide +kernel
theorem dX2_yearsKept_39 : decode cX2_yearsKept 39 = .ok (.lreturn, 1) := by decide +kernel
theorem dX3_init_0 : decode cX3_init 0 = .ok (.aload_n 0, 1) := by decide +kernel
theorem dX3_init_1 : decode cX3_init 1 = .ok (.invokespecial 1, 3) := by decide +kernel
theorem dX3_init_4 : decode cX3_init 4 = .ok (.aload_n 0, 1) := by decide +kernel
theorem dX3_init_5 : decode cX3_init 5 = .ok (.iload_n 1, 1) := by decide +kernel
theorem dX3_init_6 : decode cX3_init 6 = .ok (.putfield 7, 3) := by decide +kernel
theorem dX3_init_9 : decode cX3_init 9 = .ok (.aload_n 0, 1) := by decide +kernel
theorem dX3_init_10 : decode cX3_init 10 = .ok (.iload_n 2, 1) := by decide +kernel
theorem dX3_init_11 : decode cX3_init 11 = .ok (.putfield 13, 3) := by decide +kernel
theorem dX3_init_14 : decode cX3_init 14 = .ok (.return_, 1) := by decide +kernel
theorem dX3_firstVolume_0 : decode cX3_firstVolume 0 = .ok (.iload_n 1, 1) := by decide +kernel
theorem dX3_firstVolume_1 : decode cX3_firstVolume 1 = .ok (.aload_n 0, 1) := by decide +kernel
theorem dX3_firstVolume_2 : decode cX3_firstVolume 2 = .ok (.getfield 7, 3) := by decide +kernel
theorem dX3_firstVolume_5 : decode cX3_firstVolume 5 = .ok (.isub, 1) := by decide +kernel
theorem dX3_firstVolume_6 : decode cX3_firstVolume 6 = .ok (.aload_n 0, 1) := by decide +kernel
theorem dX3_firstVolume_7 : decode cX3_firstVolume 7 = .ok (.getfield 13, 3) := by decide +kernel
theorem dX3_firstVolume_10 : decode cX3_firstVolume 10 = .ok (.imul, 1) := by decide +kernel
theorem dX3_firstVolume_11 : decode cX3_firstVolume 11 = .ok (.iconst 1, 1) := by decide +kernel
theorem dX3_firstVolume_12 : decode cX3_firstVolume 12 = .ok (.iadd, 1) := by decide +kernel
theorem dX3_firstVolume_13 : decode cX3_firstVolume 13 = .ok (.ireturn, 1) := by decide +kernel
theorem dX4_init_0 : decode cX4_init 0 = .ok (.aload_n 0, 1) := by decide +kernel
theorem dX4_init_1 : decode cX4_init 1 = .ok (.invokespecial 3, 3) := by decide +kernel
theorem dX4_init_4 : decode cX4_init 4 = .ok (.aload_n 0, 1) := by decide +kernel
theorem dX4_init_5 : decode cX4_init 5 = .ok (.bipush 20, 2) := by decide +kernel
theorem dX4_init_7 : decode cX4_init 7 = .ok (.anewarray 9, 3) := by decide +kernel
theorem dX4_init_10 : decode cX4_init 10 = .ok (.putfield 11, 3) := by decide +kernel
theorem dX4_init_13 : decode cX4_init 13 = .ok (.aload_n 0, 1) := by decide +kernel
theorem dX4_init_14 : decode cX4_init 14 = .ok (.bipush 10, 2) := by decide +kernel
theorem dX4_init_16 : decode cX4_init 16 = .ok (.anewarray 15, 3) := by decide +kernel
theorem dX4_init_19 : decode cX4_init 19 = .ok (.putfield 17, 3) := by decide +kernel
theorem dX4_init_22 : decode cX4_init 22 = .ok (.aload_n 0, 1) := by decide +kernel
theorem dX4_init_23 : decode cX4_init 23 = .ok (.iconst 0, 1) := by decide +kernel
theorem dX4_init_24 : decode cX4_init 24 = .ok (.putfield 21, 3) := by decide +kernel
theorem dX4_init_27 : decode cX4_init 27 = .ok (.aload_n 0, 1) := by decide +kernel
theorem dX4_init_28 : decode cX4_init 28 = .ok (.iconst 0, 1) := by decide +kernel
theorem dX4_init_29 : decode cX4_init 29 = .ok (.putfield 25, 3) := by decide +kernel
theorem dX4_init_32 : decode cX4_init 32 = .ok (.aload_n 0, 1) := by decide +kernel
theorem dX4_init_33 : decode cX4_init 33 = .ok (.iconst 0, 1) := by decide +kernel
theorem dX4_init_34 : decode cX4_init 34 = .ok (.putfield 28, 3) := by decide +kernel
theorem dX4_init_37 : decode cX4_init 37 = .ok (.aload_n 0, 1) := by decide +kernel
theorem dX4_init_38 : decode cX4_init 38 = .ok (.iconst 0, 1) := by decide +kernel
theorem dX4_init_39 : decode cX4_init 39 = .ok (.putfield 31, 3) := by decide +kernel
theorem dX4_init_42 : decode cX4_init 42 = .ok (.return_, 1) := by decide +kernel
set_option maxRecDepth 20000 in
theorem ggX4_addTitle_X4_checkRange : GoodIn wsX4_addTitle wsX4_checkRange := goodIn_ca (goodIn_r _ [11, 12, 13] (by decide +kernel) (by decide +kernel)) (goodIn_sub (fun _ h => List.mem_cons_of_mem _ (List.mem_append_right _ h)) (by decide +kernel))
set_option maxRecDepth 20000 in
theorem gX4_addTitle_X4_checkRange : GoodIn wsX4_addTitle (va_wsS RX4 34 yX4_checkRange wsX4_checkRange) := goodIn_app (goodIn_of _ (by decide +kernel)) ggX4_addTitle_X4_checkRange
set_option maxRecDepth 20000 in
theorem ggX4_addTitle_X3_init : GoodIn wsX4_addTitle wsX3_init := goodIn_r _ [16, 17, 18, 19, 20, 21, 28, 29] (by decide +kernel) (by decide +kernel)
set_option maxRecDepth 20000 in
theorem gX4_addTitle_X3_init : GoodIn wsX4_addTitle (wsX3_init) := ggX4_addTitle_X3_init
theorem dX4_addTitle_0 : decode cX4_addTitle 0 = .ok (.iload_n 1, 1) := by decide +kernel
theorem dX4_addTitle_1 : decode cX4_addTitle 1 = .ok (.iconst 0, 1) := by decide +kernel
theorem dX4_addTitle_2 : decode cX4_addTitle 2 = .ok (.bipush 55, 2) := by decide +kernel
theorem dX4_addTitle_4 : decode cX4_addTitle 4 = .ok (.invokestatic 34, 3) := by decide +kernel
theorem dX4_addTitle_7 : decode cX4_addTitle 7 = .ok (.iload_n 2, 1) := by decide +kernel
theorem dX4_addTitle_8 : decode cX4_addTitle 8 = .ok (.iconst 1, 1) := by decide +kernel
theorem dX4_addTitle_9 : decode cX4_addTitle 9 = .ok (.iconst 4, 1) := by decide +kernel
theorem dX4_addTitle_10 : decode cX4_addTitle 10 = .ok (.invokestatic 34, 3) := by decide +kernel
theorem dX4_addTitle_13 : decode cX4_addTitle 13 = .ok (.aload_n 0, 1) := by decide +kernel
theorem dX4_addTitle_14 : decode cX4_addTitle 14 = .ok (.getfield 21, 3) := by decide +kernel
theorem dX4_addTitle_17 : decode cX4_addTitle 17 = .ok (.istore_n 3, 1) := by decide +kernel
theorem dX4_addTitle_18 : decode cX4_addTitle 18 = .ok (.iload_n 3, 1) := by decide +kernel
theorem dX4_addTitle_19 : decode cX4_addTitle 19 = .ok (.bipush 20, 2) := by decide +kernel
theorem dX4_addTitle_21 : decode cX4_addTitle 21 = .ok (.if_icmp .lt 13, 3) := by decide +kernel
theorem dX4_addTitle_24 : decode cX4_addTitle 24 = .ok (.new 38, 3) := by decide +kernel
theorem dX4_addTitle_27 : decode cX4_addTitle 27 = .ok (.dup, 1) := by decide +kernel
theorem dX4_addTitle_28 : decode cX4_addTitle 28 = .ok (.ldc 40, 2) := by decide +kernel
theorem dX4_addTitle_30 : decode cX4_addTitle 30 = .ok (.invokespecial 42, 3) := by decide +kernel
theorem dX4_addTitle_33 : decode cX4_addTitle 33 = .ok (.athrow, 1) := by decide +kernel
theorem dX4_addTitle_34 : decode cX4_addTitle 34 = .ok (.aload_n 0, 1) := by decide +kernel
theorem dX4_addTitle_35 : decode cX4_addTitle 35 = .ok (.getfield 11, 3) := by decide +kernel
theorem dX4_addTitle_38 : decode cX4_addTitle 38 = .ok (.iload_n 3, 1) := by decide +kernel
theorem dX4_addTitle_39 : decode cX4_addTitle 39 = .ok (.new 9, 3) := by decide +kernel
theorem dX4_addTitle_42 : decode cX4_addTitle 42 = .ok (.dup, 1) := by decide +kernel
theorem dX4_addTitle_43 : decode cX4_addTitle 43 = .ok (.iload_n 1, 1) := by decide +kernel
theorem dX4_addTitle_44 : decode cX4_addTitle 44 = .ok (.iload_n 2, 1) := by decide +kernel
theorem dX4_addTitle_45 : decode cX4_addTitle 45 = .ok (.invokespecial 45, 3) := by decide +kernel
theorem dX4_addTitle_48 : decode cX4_addTitle 48 = .ok (.aastore, 1) := by decide +kernel
theorem dX4_addTitle_49 : decode cX4_addTitle 49 = .ok (.aload_n 0, 1) := by decide +kernel
theorem dX4_addTitle_50 : decode cX4_addTitle 50 = .ok (.iload_n 3, 1) := by decide +kernel
theorem dX4_addTitle_51 : decode cX4_addTitle 51 = .ok (.iconst 1, 1) := by decide +kernel
theorem dX4_addTitle_52 : decode cX4_addTitle 52 = .ok (.iadd, 1) := by decide +kernel
theorem dX4_addTitle_53 : decode cX4_addTitle 53 = .ok (.putfield 21, 3) := by decide +kernel
theorem dX4_addTitle_56 : decode cX4_addTitle 56 = .ok (.iload_n 3, 1) := by decide +kernel
theorem dX4_addTitle_57 : decode cX4_addTitle 57 = .ok (.ireturn, 1) := by decide +kernel
set_option maxRecDepth 20000 in
theorem ggX4_yearOf_X4_existingTitle : GoodIn wsX4_yearOf wsX4_existingTitle := goodIn_ca (goodIn_r _ [6, 7, 8, 9, 10, 25, 26, 27, 28, 29, 30] (by decide +kernel) (by decide +kernel)) (goodIn_sub (fun _ h => List.mem_cons_of_mem _ (List.mem_append_left _ (List.mem_append_right _ h))) (by decide +kernel))
set_option maxRecDepth 20000 in
theorem gX4_yearOf_X4_existingTitle : GoodIn wsX4_yearOf (wsV RX4 48 RX4 yX4_existingTitle wsX4_existingTitle) := goodIn_app (goodIn_of _ (by decide +kernel)) ggX4_yearOf_X4_existingTitle
set_option maxRecDepth 20000 in
theorem ggX4_yearOf_X3_firstVolume : GoodIn wsX4_yearOf wsX3_firstVolume := goodIn_r _ [15, 16, 17, 23, 24] (by decide +kernel) (by decide +kernel)
set_option maxRecDepth 20000 in
theorem gX4_yearOf_X3_firstVolume : GoodIn wsX4_yearOf (wsV RX4 52 RX3 yX3_firstVolume wsX3_firstVolume) := goodIn_app (goodIn_of _ (by decide +kernel)) ggX4_yearOf_X3_firstVolume
set_option maxRecDepth 20000 in
theorem ggX4_yearOf_X4_checkRange : GoodIn wsX4_yearOf wsX4_checkRange := goodIn_ca (goodIn_r _ [20, 21, 22] (by decide +kernel) (by decide +kernel)) (goodIn_sub (fun _ h => List.mem_cons_of_mem _ (List.mem_append_right _ h)) (by decide +kernel))
set_option maxRecDepth 20000 in
theorem gX4_yearOf_X4_checkRange : GoodIn wsX4_yearOf (va_wsS RX4 34 yX4_checkRange wsX4_checkRange) := goodIn_app (goodIn_of _ (by decide +kernel)) ggX4_yearOf_X4_checkRange
theorem dX4_yearOf_0 : decode cX4_yearOf 0 = .ok (.aload_n 0, 1) := by decide +kernel
theorem dX4_yearOf_1 : decode cX4_yearOf 1 = .ok (.iload_n 1, 1) := by decide +kernel
theorem dX4_yearOf_2 : decode cX4_yearOf 2 = .ok (.invokevirtual 48, 3) := by decide +kernel
theorem dX4_yearOf_5 : decode cX4_yearOf 5 = .ok (.astore_n 3, 1) := by decide +kernel
theorem dX4_yearOf_6 : decode cX4_yearOf 6 = .ok (.iload_n 2, 1) := by decide +kernel
theorem dX4_yearOf_7 : decode cX4_yearOf 7 = .ok (.iconst 1, 1) := by decide +kernel
theorem dX4_yearOf_8 : decode cX4_yearOf 8 = .ok (.aload_n 3, 1) := by decide +kernel
theorem dX4_yearOf_9 : decode cX4_yearOf 9 = .ok (.bipush 56, 2) := by decide +kernel
theorem dX4_yearOf_11 : decode cX4_yearOf 11 = .ok (.invokevirtual 52, 3) := by decide +kernel
theorem dX4_yearOf_14 : decode cX4_yearOf 14 = .ok (.iconst 1, 1) := by decide +kernel
theorem dX4_yearOf_15 : decode cX4_yearOf 15 = .ok (.isub, 1) := by decide +kernel
theorem dX4_yearOf_16 : decode cX4_yearOf 16 = .ok (.invokestatic 34, 3) := by decide +kernel
theorem dX4_yearOf_19 : decode cX4_yearOf 19 = .ok (.aload_n 3, 1) := by decide +kernel
theorem dX4_yearOf_20 : decode cX4_yearOf 20 = .ok (.getfield 56, 3) := by decide +kernel
theorem dX4_yearOf_23 : decode cX4_yearOf 23 = .ok (.istore 4, 2) := by decide +kernel
theorem dX4_yearOf_25 : decode cX4_yearOf 25 = .ok (.iload 4, 2) := by decide +kernel
theorem dX4_yearOf_27 : decode cX4_yearOf 27 = .ok (.bipush 55, 2) := by decide +kernel
theorem dX4_yearOf_29 : decode cX4_yearOf 29 = .ok (.if_icmp .ge 21, 3) := by decide +kernel
theorem dX4_yearOf_32 : decode cX4_yearOf 32 = .ok (.aload_n 3, 1) := by decide +kernel
theorem dX4_yearOf_33 : decode cX4_yearOf 33 = .ok (.iload 4, 2) := by decide +kernel
theorem dX4_yearOf_35 : decode cX4_yearOf 35 = .ok (.iconst 1, 1) := by decide +kernel
theorem dX4_yearOf_36 : decode cX4_yearOf 36 = .ok (.iadd, 1) := by decide +kernel
theorem dX4_yearOf_37 : decode cX4_yearOf 37 = .ok (.invokevirtual 52, 3) := by decide +kernel
theorem dX4_yearOf_40 : decode cX4_yearOf 40 = .ok (.iload_n 2, 1) := by decide +kernel
theorem dX4_yearOf_41 : decode cX4_yearOf 41 = .ok (.if_icmp .gt 9, 3) := by decide +kernel
theorem dX4_yearOf_44 : decode cX4_yearOf 44 = .ok (.iinc 4 1, 3) := by decide +kernel
theorem dX4_yearOf_47 : decode cX4_yearOf 47 = .ok (.goto (-22), 3) := by decide +kernel
theorem dX4_yearOf_50 : decode cX4_yearOf 50 = .ok (.iload 4, 2) := by decide +kernel
theorem dX4_yearOf_52 : decode cX4_yearOf 52 = .ok (.ireturn, 1) := by decide +kernel
set_option maxRecDepth 20000 in
theorem ggX4_volumeOf_X4_existingTitle : GoodIn wsX4_volumeOf wsX4_existingTitle := goodIn_ca (goodIn_r _ [6, 7, 8, 9, 10, 25, 26, 27, 28, 29, 30] (by decide +kernel) (by decide +kernel)) (goodIn_sub (fun _ h => List.mem_cons_of_mem _ (List.mem_append_left _ (List.mem_append_right _ h))) (by decide +kernel))
set_option maxRecDepth 20000 in
theorem gX4_volumeOf_X4_existingTitle : GoodIn wsX4_volumeOf (wsV RX4 48 RX4 yX4_existingTitle wsX4_existingTitle) := goodIn_app (goodIn_of _ (by decide +kernel)) ggX4_volumeOf_X4_existingTitle
set_option maxRecDepth 20000 in
theorem ggX4_volumeOf_X4_checkRange : GoodIn wsX4_volumeOf wsX4_checkRange := goodIn_ca (goodIn_r _ [13, 14, 15] (by decide +kernel) (by decide +kernel)) (goodIn_sub (fun _ h => List.mem_cons_of_mem _ (List.mem_append_right _ h)) (by decide +kernel))
set_option maxRecDepth 20000 in
theorem gX4_volumeOf_X4_checkRange : GoodIn wsX4_volumeOf (va_wsS RX4 34 yX4_checkRange wsX4_checkRange) := goodIn_app (goodIn_of _ (by decide +kernel)) ggX4_volumeOf_X4_checkRange
set_option maxRecDepth 20000 in
theorem ggX4_volumeOf_X3_firstVolume : GoodIn wsX4_volumeOf wsX3_firstVolume := goodIn_r _ [20, 21, 22, 23, 24] (by decide +kernel) (by decide +kernel)
set_option maxRecDepth 20000 in
theorem gX4_volumeOf_X3_firstVolume : GoodIn wsX4_volumeOf (wsV RX4 52 RX3 yX3_firstVolume wsX3_firstVolume) := goodIn_app (goodIn_of _ (by decide +kernel)) ggX4_volumeOf_X3_firstVolume
theorem dX4_volumeOf_0 : decode cX4_volumeOf 0 = .ok (.aload_n 0, 1) := by decide +kernel
theorem dX4_volumeOf_1 : decode cX4_volumeOf 1 = .ok (.iload_n 1, 1) := by decide +kernel
theorem dX4_volumeOf_2 : decode cX4_volumeOf 2 = .ok (.invokevirtual 48, 3) := by decide +kernel
theorem dX4_volumeOf_5 : decode cX4_volumeOf 5 = .ok (.astore_n 3, 1) := by decide +kernel
theorem dX4_volumeOf_6 : decode cX4_volumeOf 6 = .ok (.iload_n 2, 1) := by decide +kernel
theorem dX4_volumeOf_7 : decode cX4_volumeOf 7 = .ok (.aload_n 3, 1) := by decide +kernel
theorem dX4_volumeOf_8 : decode cX4_volumeOf 8 = .ok (.getfield 56, 3) := by decide +kernel
theorem dX4_volumeOf_11 : decode cX4_volumeOf 11 = .ok (.bipush 55, 2) := by decide +kernel
theorem dX4_volumeOf_13 : decode cX4_volumeOf 13 = .ok (.invokestatic 34, 3) := by decide +kernel
theorem dX4_volumeOf_16 : decode cX4_volumeOf 16 = .ok (.aload_n 3, 1) := by decide +kernel
theorem dX4_volumeOf_17 : decode cX4_volumeOf 17 = .ok (.iload_n 2, 1) := by decide +kernel
theorem dX4_volumeOf_18 : decode cX4_volumeOf 18 = .ok (.invokevirtual 52, 3) := by decide +kernel
theorem dX4_volumeOf_21 : decode cX4_volumeOf 21 = .ok (.ireturn, 1) := by decide +kernel
set_option maxRecDepth 20000 in
theorem ggX4_addPackage_X4_checkRange : GoodIn wsX4_addPackage wsX4_checkRange := goodIn_ca (goodIn_r _ [11, 12, 13] (by decide +kernel) (by decide +kernel)) (goodIn_sub (fun _ h => List.mem_cons_of_mem _ (List.mem_append_right _ h)) (by decide +kernel))
set_option maxRecDepth 20000 in
theorem gX4_addPackage_X4_checkRange : GoodIn wsX4_addPackage (va_wsS RX4 34 yX4_checkRange wsX4_checkRange) := goodIn_app (goodIn_of _ (by decide +kernel)) ggX4_addPackage_X4_checkRange
set_option maxRecDepth 20000 in
theorem ggX4_addPackage_X2_init : GoodIn wsX4_addPackage wsX2_init := goodIn_r _ [16, 17, 18, 19, 20, 21, 22, 23, 24, 25, 26, 27, 28, 29, 30, 31, 32, 33, 34, 41, 42, 43, 44, 45, 46, 47, 48] (by decide +kernel) (by decide +kernel)
set_option maxRecDepth 20000 in
theorem gX4_addPackage_X2_init : GoodIn wsX4_addPackage (wsX2_init) := ggX4_addPackage_X2_init
theorem dX4_addPackage_0 : decode cX4_addPackage 0 = .ok (.iload_n 1, 1) := by decide +kernel
theorem dX4_addPackage_1 : decode cX4_addPackage 1 = .ok (.iconst 0, 1) := by decide +kernel
theorem dX4_addPackage_2 : decode cX4_addPackage 2 = .ok (.sipush 1000, 3) := by decide +kernel
theorem dX4_addPackage_5 : decode cX4_addPackage 5 = .ok (.invokestatic 34, 3) := by decide +kernel
theorem dX4_addPackage_8 : decode cX4_addPackage 8 = .ok (.iload_n 2, 1) := by decide +kernel
theorem dX4_addPackage_9 : decode cX4_addPackage 9 = .ok (.iconst 0, 1) := by decide +kernel
theorem dX4_addPackage_10 : decode cX4_addPackage 10 = .ok (.iconst 2, 1) := by decide +kernel
theorem dX4_addPackage_11 : decode cX4_addPackage 11 = .ok (.invokestatic 34, 3) := by decide +kernel
theorem dX4_addPackage_14 : decode cX4_addPackage 14 = .ok (.iload_n 3, 1) := by decide +kernel
theorem dX4_addPackage_15 : decode cX4_addPackage 15 = .ok (.iconst 0, 1) := by decide +kernel
theorem dX4_addPackage_16 : decode cX4_addPackage 16 = .ok (.bipush 15, 2) := by decide +kernel
theorem dX4_addPackage_18 : decode cX4_addPackage 18 = .ok (.invokestatic 34, 3) := by decide +kernel
theorem dX4_addPackage_21 : decode cX4_addPackage 21 = .ok (.iload 4, 2) := by decide +kernel
theorem dX4_addPackage_23 : decode cX4_addPackage 23 = .ok (.iconst 0, 1) := by decide +kernel
theorem dX4_addPackage_24 : decode cX4_addPackage 24 = .ok (.iconst 1, 1) := by decide +kernel
theorem dX4_addPackage_25 : decode cX4_addPackage 25 = .ok (.invokestatic 34, 3) := by decide +kernel
theorem dX4_addPackage_28 : decode cX4_addPackage 28 = .ok (.aload_n 0, 1) := by decide +kernel
theorem dX4_addPackage_29 : decode cX4_addPackage 29 = .ok (.getfield 25, 3) := by decide +kernel
theorem dX4_addPackage_32 : decode cX4_addPackage 32 = .ok (.istore 5, 2) := by decide +kernel
theorem dX4_addPackage_34 : decode cX4_addPackage 34 = .ok (.iload 5, 2) := by decide +kernel
theorem dX4_addPackage_36 : decode cX4_addPackage 36 = .ok (.bipush 10, 2) := by decide +kernel
theorem dX4_addPackage_38 : decode cX4_addPackage 38 = .ok (.if_icmp .lt 13, 3) := by decide +kernel
theorem dX4_addPackage_41 : decode cX4_addPackage 41 = .ok (.new 38, 3) := by decide +kernel
theorem dX4_addPackage_44 : decode cX4_addPackage 44 = .ok (.dup, 1) := by decide +kernel
theorem dX4_addPackage_45 : decode cX4_addPackage 45 = .ok (.ldc 59, 2) := by decide +kernel
theorem dX4_addPackage_47 : decode cX4_addPackage 47 = .ok (.invokespecial 42, 3) := by decide +kernel
theorem dX4_addPackage_50 : decode cX4_addPackage 50 = .ok (.athrow, 1) := by decide +kernel
theorem dX4_addPackage_51 : decode cX4_addPackage 51 = .ok (.aload_n 0, 1) := by decide +kernel
theorem dX4_addPackage_52 : decode cX4_addPackage 52 = .ok (.getfield 17, 3) := by decide +kernel
theorem dX4_addPackage_55 : decode cX4_addPackage 55 = .ok (.iload 5, 2) := by decide +kernel
theorem dX4_addPackage_57 : decode cX4_addPackage 57 = .ok (.new 15, 3) := by decide +kernel
theorem dX4_addPackage_60 : decode cX4_addPackage 60 = .ok (.dup, 1) := by decide +kernel
theorem dX4_addPackage_61 : decode cX4_addPackage 61 = .ok (.iload_n 1, 1) := by decide +kernel
theorem dX4_addPackage_62 : decode cX4_addPackage 62 = .ok (.iload_n 2, 1) := by decide +kernel
theorem dX4_addPackage_63 : decode cX4_addPackage 63 = .ok (.iload_n 3, 1) := by decide +kernel
theorem dX4_addPackage_64 : decode cX4_addPackage 64 = .ok (.iload 4, 2) := by decide +kernel
theorem dX4_addPackage_66 : decode cX4_addPackage 66 = .ok (.iconst 1, 1) := by decide +kernel
theorem dX4_addPackage_67 : decode cX4_addPackage 67 = .ok (.if_icmp .ne 7, 3) := by decide +kernel
theorem dX4_addPackage_70 : decode cX4_addPackage 70 = .ok (.iconst 1, 1) := by decide +kernel
theorem dX4_addPackage_71 : decode cX4_addPackage 71 = .ok (.goto 4, 3) := by decide +kernel
theorem dX4_addPackage_74 : decode cX4_addPackage 74 = .ok (.iconst 0, 1) := by decide +kernel
theorem dX4_addPackage_75 : decode cX4_addPackage 75 = .ok (.invokespecial 61, 3) := by decide +kernel
theorem dX4_addPackage_78 : decode cX4_addPackage 78 = .ok (.aastore, 1) := by decide +kernel
theorem dX4_addPackage_79 : decode cX4_addPackage 79 = .ok (.aload_n 0, 1) := by decide +kernel
theorem dX4_addPackage_80 : decode cX4_addPackage 80 = .ok (.iload 5, 2) := by decide +kernel
theorem dX4_addPackage_82 : decode cX4_addPackage 82 = .ok (.iconst 1, 1) := by decide +kernel
theorem dX4_addPackage_83 : decode cX4_addPackage 83 = .ok (.iadd, 1) := by decide +kernel
theorem dX4_addPackage_84 : decode cX4_addPackage 84 = .ok (.putfield 25, 3) := by decide +kernel
theorem dX4_addPackage_87 : decode cX4_addPackage 87 = .ok (.iload 5, 2) := by decide +kernel
theorem dX4_addPackage_89 : decode cX4_addPackage 89 = .ok (.ireturn, 1) := by decide +kernel
set_option maxRecDepth 20000 in
theorem ggX4_subscribe_X4_existingPack : GoodIn wsX4_subscribe wsX4_existingPack := goodIn_ca (goodIn_r _ [8, 9, 10, 11, 12, 54, 55, 56, 57, 58, 59] (by decide +kernel) (by decide +kernel)) (goodIn_sub (fun _ h => List.mem_cons_of_mem _ (List.mem_append_right _ h)) (by decide +kernel))
set_option maxRecDepth 20000 in
theorem gX4_subscribe_X4_existingPack : GoodIn wsX4_subscribe (wsV RX4 64 RX4 yX4_existingPack wsX4_existingPack) := goodIn_app (goodIn_of _ (by decide +kernel)) ggX4_subscribe_X4_existingPack
set_option maxRecDepth 20000 in
theorem ggX4_subscribe_X1_isOnAt : GoodIn wsX4_subscribe wsX1_isOnAt := goodIn_r _ [17, 18, 19, 20, 21, 16, 22, 23, 24, 25, 60, 61, 62, 63, 64, 65] (by decide +kernel) (by decide +kernel)
set_option maxRecDepth 20000 in
theorem gX4_subscribe_X1_isOnAt : GoodIn wsX4_subscribe (wsV RX4 72 RX1 yX1_isOnAt wsX1_isOnAt) := goodIn_app (goodIn_of _ (by decide +kernel)) ggX4_subscribe_X1_isOnAt
set_option maxRecDepth 20000 in
theorem ggX4_subscribe_X4_change : GoodIn wsX4_subscribe wsX4_change := goodIn_r _ [29, 30, 2, 31, 32, 33, 16, 34, 35, 36, 37, 23, 38, 39, 40, 41, 42, 43, 44, 45, 46, 47, 54, 55, 56, 57, 58, 59, 60, 61, 62, 63, 64, 65] (by decide +kernel) (by decide +kernel)
set_option maxRecDepth 20000 in
theorem gX4_subscribe_X4_change : GoodIn wsX4_subscribe (wsV RX4 80 RX4 yX4_change wsX4_change) := goodIn_app (goodIn_of _ (by decide +kernel)) ggX4_subscribe_X4_change
theorem dX4_subscribe_0 : decode cX4_subscribe 0 = .ok (.aload_n 0, 1) := by decide +kernel
theorem dX4_subscribe_1 : decode cX4_subscribe 1 = .ok (.iload_n 1, 1) := by decide +kernel
theorem dX4_subscribe_2 : decode cX4_subscribe 2 = .ok (.invokevirtual 64, 3) := by decide +kernel
theorem dX4_subscribe_5 : decode cX4_subscribe 5 = .ok (.getfield 68, 3) := by decide +kernel
theorem dX4_subscribe_8 : decode cX4_subscribe 8 = .ok (.astore_n 3, 1) := by decide +kernel
theorem dX4_subscribe_9 : decode cX4_subscribe 9 = .ok (.aload_n 3, 1) := by decide +kernel
theorem dX4_subscribe_10 : decode cX4_subscribe 10 = .ok (.aload_n 0, 1) := by decide +kernel
theorem dX4_subscribe_11 : decode cX4_subscribe 11 = .ok (.getfield 31, 3) := by decide +kernel
theorem dX4_subscribe_14 : decode cX4_subscribe 14 = .ok (.invokevirtual 72, 3) := by decide +kernel
theorem dX4_subscribe_17 : decode cX4_subscribe 17 = .ok (.istore 4, 2) := by decide +kernel
theorem dX4_subscribe_19 : decode cX4_subscribe 19 = .ok (.aload_n 0, 1) := by decide +kernel
theorem dX4_subscribe_20 : decode cX4_subscribe 20 = .ok (.aload_n 3, 1) := by decide +kernel
theorem dX4_subscribe_21 : decode cX4_subscribe 21 = .ok (.iload_n 2, 1) := by decide +kernel
theorem dX4_subscribe_22 : decode cX4_subscribe 22 = .ok (.ifCond .eq 9, 3) := by decide +kernel
theorem dX4_subscribe_25 : decode cX4_subscribe 25 = .ok (.ldc2_w 78, 3) := by decide +kernel
theorem dX4_subscribe_28 : decode cX4_subscribe 28 = .ok (.goto 4, 3) := by decide +kernel
theorem dX4_subscribe_31 : decode cX4_subscribe 31 = .ok (.lconst 0, 1) := by decide +kernel
theorem dX4_subscribe_32 : decode cX4_subscribe 32 = .ok (.iconst 0, 1) := by decide +kernel
theorem dX4_subscribe_33 : decode cX4_subscribe 33 = .ok (.invokevirtual 80, 3) := by decide +kernel
theorem dX4_subscribe_36 : decode cX4_subscribe 36 = .ok (.iload 4, 2) := by decide +kernel
theorem dX4_subscribe_38 : decode cX4_subscribe 38 = .ok (.ireturn, 1) := by decide +kernel
set_option maxRecDepth 20000 in
theorem ggX4_come_X4_existingStay : GoodIn wsX4_come wsX4_existingStay := goodIn_ca (goodIn_ca (goodIn_r _ [6, 7, 8, 9, 5, 10, 11, 12, 13, 14, 15, 16, 17, 18, 19, 20, 21, 22, 23, 24, 25, 26, 27, 71, 72, 73, 74, 75, 76, 77, 78, 79, 80, 81, 82] (by decide +kernel) (by decide +kernel)) (goodIn_sub (fun _ h => List.mem_cons_of_mem _ (List.mem_append_left _ (List.mem_append_left _ (List.mem_append_right _ h)))) (by decide +kernel))) (goodIn_sub (fun _ h => List.mem_cons_of_mem _ (List.mem_append_left _ (List.mem_append_right _ h))) (by decide +kernel))
set_option maxRecDepth 20000 in
theorem gX4_come_X4_existingStay : GoodIn wsX4_come (wsV RX4 84 RX4 yX4_existingStay wsX4_existingStay) := goodIn_app (goodIn_of _ (by decide +kernel)) ggX4_come_X4_existingStay
set_option maxRecDepth 20000 in
theorem ggX4_come_X4_checkRange : GoodIn wsX4_come wsX4_checkRange := goodIn_ca (goodIn_r _ [30, 31, 32] (by decide +kernel) (by decide +kernel)) (goodIn_sub (fun _ h => List.mem_cons_of_mem _ (List.mem_append_right _ h)) (by decide +kernel))
set_option maxRecDepth 20000 in
theorem gX4_come_X4_checkRange : GoodIn wsX4_come (va_wsS RX4 34 yX4_checkRange wsX4_checkRange) := goodIn_app (goodIn_of _ (by decide +kernel)) ggX4_come_X4_checkRange
set_option maxRecDepth 20000 in
theorem ggX4_come_X1_isOnAt : GoodIn wsX4_come wsX1_isOnAt := goodIn_r _ [37, 38, 39, 40, 41, 36, 42, 43, 44, 45, 83, 84, 85, 86, 87, 88] (by decide +kernel) (by decide +kernel)
set_option maxRecDepth 20000 in
theorem gX4_come_X1_isOnAt : GoodIn wsX4_come (wsV RX4 72 RX1 yX1_isOnAt wsX1_isOnAt) := goodIn_app (goodIn_of _ (by decide +kernel)) ggX4_come_X1_isOnAt
set_option maxRecDepth 20000 in
theorem ggX4_come_X4_yearsBetween : GoodIn wsX4_come wsX4_yearsBetween := goodIn_r _ [48] (by decide +kernel) (by decide +kernel)
set_option maxRecDepth 20000 in
theorem gX4_come_X4_yearsBetween : GoodIn wsX4_come (va_wsS RX4 88 yX4_yearsBetween wsX4_yearsBetween) := goodIn_app (goodIn_of _ (by decide +kernel)) ggX4_come_X4_yearsBetween
set_option maxRecDepth 20000 in
theorem ggX4_come_X4_change : GoodIn wsX4_come wsX4_change := goodIn_r _ [52, 53, 1, 54, 55, 56, 36, 57, 58, 59, 60, 43, 61, 62, 63, 64, 65, 66, 67, 68, 69, 70, 71, 72, 73, 74, 75, 76, 83, 84, 85, 86, 87, 88] (by decide +kernel) (by decide +kernel)
set_option maxRecDepth 20000 in
theorem gX4_come_X4_change : GoodIn wsX4_come (wsV RX4 80 RX4 yX4_change wsX4_change) := goodIn_app (goodIn_of _ (by decide +kernel)) ggX4_come_X4_change
theorem dX4_come_0 : decode cX4_come 0 = .ok (.aload_n 0, 1) := by decide +kernel
theorem dX4_come_1 : decode cX4_come 1 = .ok (.iload_n 1, 1) := by decide +kernel
theorem dX4_come_2 : decode cX4_come 2 = .ok (.iload_n 2, 1) := by decide +kernel
theorem dX4_come_3 : decode cX4_come 3 = .ok (.invokevirtual 84, 3) := by decide +kernel
theorem dX4_come_6 : decode cX4_come 6 = .ok (.astore 6, 2) := by decide +kernel
theorem dX4_come_8 : decode cX4_come 8 = .ok (.iload_n 3, 1) := by decide +kernel
theorem dX4_come_9 : decode cX4_come 9 = .ok (.iconst 0, 1) := by decide +kernel
theorem dX4_come_10 : decode cX4_come 10 = .ok (.bipush 55, 2) := by decide +kernel
theorem dX4_come_12 : decode cX4_come 12 = .ok (.invokestatic 34, 3) := by decide +kernel
theorem dX4_come_15 : decode cX4_come 15 = .ok (.iload 4, 2) := by decide +kernel
theorem dX4_come_17 : decode cX4_come 17 = .ok (.iload_n 3, 1) := by decide +kernel
theorem dX4_come_18 : decode cX4_come 18 = .ok (.bipush 55, 2) := by decide +kernel
theorem dX4_come_20 : decode cX4_come 20 = .ok (.invokestatic 34, 3) := by decide +kernel
theorem dX4_come_23 : decode cX4_come 23 = .ok (.iload 5, 2) := by decide +kernel
theorem dX4_come_25 : decode cX4_come 25 = .ok (.iconst 0, 1) := by decide +kernel
theorem dX4_come_26 : decode cX4_come 26 = .ok (.bipush 20, 2) := by decide +kernel
theorem dX4_come_28 : decode cX4_come 28 = .ok (.invokestatic 34, 3) := by decide +kernel
theorem dX4_come_31 : decode cX4_come 31 = .ok (.aload 6, 2) := by decide +kernel
theorem dX4_come_33 : decode cX4_come 33 = .ok (.aload_n 0, 1) := by decide +kernel
theorem dX4_come_34 : decode cX4_come 34 = .ok (.getfield 31, 3) := by decide +kernel
theorem dX4_come_37 : decode cX4_come 37 = .ok (.invokevirtual 72, 3) := by decide +kernel
theorem dX4_come_40 : decode cX4_come 40 = .ok (.istore 7, 2) := by decide +kernel
theorem dX4_come_42 : decode cX4_come 42 = .ok (.aload_n 0, 1) := by decide +kernel
theorem dX4_come_43 : decode cX4_come 43 = .ok (.aload 6, 2) := by decide +kernel
theorem dX4_come_45 : decode cX4_come 45 = .ok (.iload_n 3, 1) := by decide +kernel
theorem dX4_come_46 : decode cX4_come 46 = .ok (.iload 4, 2) := by decide +kernel
theorem dX4_come_48 : decode cX4_come 48 = .ok (.invokestatic 88, 3) := by decide +kernel
theorem dX4_come_51 : decode cX4_come 51 = .ok (.iload 5, 2) := by decide +kernel
theorem dX4_come_53 : decode cX4_come 53 = .ok (.invokevirtual 80, 3) := by decide +kernel
theorem dX4_come_56 : decode cX4_come 56 = .ok (.iload 7, 2) := by decide +kernel
theorem dX4_come_58 : decode cX4_come 58 = .ok (.ireturn, 1) := by decide +kernel
set_option maxRecDepth 20000 in
theorem ggX4_go_X4_existingStay : GoodIn wsX4_go wsX4_existingStay := goodIn_ca (goodIn_ca (goodIn_r _ [8, 9, 10, 11, 7, 12, 13, 14, 15, 16, 17, 18, 19, 20, 21, 22, 23, 24, 25, 26, 27, 28, 29, 65, 66, 67, 68, 69, 70, 71, 72, 73, 74, 75, 76] (by decide +kernel) (by decide +kernel)) (goodIn_sub (fun _ h => List.mem_cons_of_mem _ (List.mem_append_left _ (List.mem_append_right _ h))) (by decide +kernel))) (goodIn_sub (fun _ h => List.mem_cons_of_mem _ (List.mem_append_right _ h)) (by decide +kernel))
set_option maxRecDepth 20000 in
theorem gX4_go_X4_existingStay : GoodIn wsX4_go (wsV RX4 84 RX4 yX4_existingStay wsX4_existingStay) := goodIn_app (goodIn_of _ (by decide +kernel)) ggX4_go_X4_existingStay
set_option maxRecDepth 20000 in
theorem ggX4_go_X1_isOnAt : GoodIn wsX4_go wsX1_isOnAt := goodIn_r _ [34, 35, 36, 37, 38, 33, 39, 40, 41, 42, 77, 78, 79, 80, 81, 82] (by decide +kernel) (by decide +kernel)
set_option maxRecDepth 20000 in
theorem gX4_go_X1_isOnAt : GoodIn wsX4_go (wsV RX4 72 RX1 yX1_isOnAt wsX1_isOnAt) := goodIn_app (goodIn_of _ (by decide +kernel)) ggX4_go_X1_isOnAt
set_option maxRecDepth 20000 in
theorem ggX4_go_X4_change : GoodIn wsX4_go wsX4_change := goodIn_r _ [46, 47, 3, 48, 49, 50, 33, 51, 52, 53, 54, 40, 55, 56, 57, 58, 59, 60, 61, 62, 63, 64, 65, 66, 67, 68, 69, 70, 77, 78, 79, 80, 81, 82] (by decide +kernel) (by decide +kernel)
set_option maxRecDepth 20000 in
theorem gX4_go_X4_change : GoodIn wsX4_go (wsV RX4 80 RX4 yX4_change wsX4_change) := goodIn_app (goodIn_of _ (by decide +kernel)) ggX4_go_X4_change
theorem dX4_go_0 : decode cX4_go 0 = .ok (.aload_n 0, 1) := by decide +kernel
theorem dX4_go_1 : decode cX4_go 1 = .ok (.iload_n 1, 1) := by decide +kernel
theorem dX4_go_2 : decode cX4_go 2 = .ok (.iload_n 2, 1) := by decide +kernel
theorem dX4_go_3 : decode cX4_go 3 = .ok (.invokevirtual 84, 3) := by decide +kernel
theorem dX4_go_6 : decode cX4_go 6 = .ok (.astore_n 3, 1) := by decide +kernel
theorem dX4_go_7 : decode cX4_go 7 = .ok (.aload_n 3, 1) := by decide +kernel
theorem dX4_go_8 : decode cX4_go 8 = .ok (.aload_n 0, 1) := by decide +kernel
theorem dX4_go_9 : decode cX4_go 9 = .ok (.getfield 31, 3) := by decide +kernel
theorem dX4_go_12 : decode cX4_go 12 = .ok (.invokevirtual 72, 3) := by decide +kernel
theorem dX4_go_15 : decode cX4_go 15 = .ok (.ifCond .ne 13, 3) := by decide +kernel
theorem dX4_go_18 : decode cX4_go 18 = .ok (.new 38, 3) := by decide +kernel
theorem dX4_go_21 : decode cX4_go 21 = .ok (.dup, 1) := by decide +kernel
theorem dX4_go_22 : decode cX4_go 22 = .ok (.ldc 92, 2) := by decide +kernel
theorem dX4_go_24 : decode cX4_go 24 = .ok (.invokespecial 42, 3) := by decide +kernel
theorem dX4_go_27 : decode cX4_go 27 = .ok (.athrow, 1) := by decide +kernel
theorem dX4_go_28 : decode cX4_go 28 = .ok (.aload_n 0, 1) := by decide +kernel
theorem dX4_go_29 : decode cX4_go 29 = .ok (.aload_n 3, 1) := by decide +kernel
theorem dX4_go_30 : decode cX4_go 30 = .ok (.lconst 0, 1) := by decide +kernel
theorem dX4_go_31 : decode cX4_go 31 = .ok (.iconst 0, 1) := by decide +kernel
theorem dX4_go_32 : decode cX4_go 32 = .ok (.invokevirtual 80, 3) := by decide +kernel
theorem dX4_go_35 : decode cX4_go 35 = .ok (.return_, 1) := by decide +kernel
set_option maxRecDepth 20000 in
theorem ggX4_pass_X4_checkRange : GoodIn wsX4_pass wsX4_checkRange := goodIn_ca (goodIn_r _ [7, 8, 9] (by decide +kernel) (by decide +kernel)) (goodIn_sub (fun _ h => List.mem_cons_of_mem _ (List.mem_append_right _ h)) (by decide +kernel))
set_option maxRecDepth 20000 in
theorem gX4_pass_X4_checkRange : GoodIn wsX4_pass (va_wsS RX4 34 yX4_checkRange wsX4_checkRange) := goodIn_app (goodIn_of _ (by decide +kernel)) ggX4_pass_X4_checkRange
theorem dX4_pass_0 : decode cX4_pass 0 = .ok (.iload_n 1, 1) := by decide +kernel
theorem dX4_pass_1 : decode cX4_pass 1 = .ok (.iconst 1, 1) := by decide +kernel
theorem dX4_pass_2 : decode cX4_pass 2 = .ok (.sipush 20000, 3) := by decide +kernel
theorem dX4_pass_5 : decode cX4_pass 5 = .ok (.invokestatic 34, 3) := by decide +kernel
theorem dX4_pass_8 : decode cX4_pass 8 = .ok (.iload_n 1, 1) := by decide +kernel
theorem dX4_pass_9 : decode cX4_pass 9 = .ok (.sipush 20000, 3) := by decide +kernel
theorem dX4_pass_12 : decode cX4_pass 12 = .ok (.aload_n 0, 1) := by decide +kernel
theorem dX4_pass_13 : decode cX4_pass 13 = .ok (.getfield 31, 3) := by decide +kernel
theorem dX4_pass_16 : decode cX4_pass 16 = .ok (.isub, 1) := by decide +kernel
theorem dX4_pass_17 : decode cX4_pass 17 = .ok (.if_icmp .le 13, 3) := by decide +kernel
theorem dX4_pass_20 : decode cX4_pass 20 = .ok (.new 38, 3) := by decide +kernel
theorem dX4_pass_23 : decode cX4_pass 23 = .ok (.dup, 1) := by decide +kernel
theorem dX4_pass_24 : decode cX4_pass 24 = .ok (.ldc 94, 2) := by decide +kernel
theorem dX4_pass_26 : decode cX4_pass 26 = .ok (.invokespecial 42, 3) := by decide +kernel
theorem dX4_pass_29 : decode cX4_pass 29 = .ok (.athrow, 1) := by decide +kernel
theorem dX4_pass_30 : decode cX4_pass 30 = .ok (.aload_n 0, 1) := by decide +kernel
theorem dX4_pass_31 : decode cX4_pass 31 = .ok (.dup, 1) := by decide +kernel
theorem dX4_pass_32 : decode cX4_pass 32 = .ok (.getfield 31, 3) := by decide +kernel
theorem dX4_pass_35 : decode cX4_pass 35 = .ok (.iload_n 1, 1) := by decide +kernel
theorem dX4_pass_36 : decode cX4_pass 36 = .ok (.iadd, 1) := by decide +kernel
theorem dX4_pass_37 : decode cX4_pass 37 = .ok (.putfield 31, 3) := by decide +kernel
theorem dX4_pass_40 : decode cX4_pass 40 = .ok (.aload_n 0, 1) := by decide +kernel
theorem dX4_pass_41 : decode cX4_pass 41 = .ok (.getfield 31, 3) := by decide +kernel
theorem dX4_pass_44 : decode cX4_pass 44 = .ok (.ireturn, 1) := by decide +kernel
theorem dX4_today_0 : decode cX4_today 0 = .ok (.aload_n 0, 1) := by decide +kernel
theorem dX4_today_1 : decode cX4_today 1 = .ok (.getfield 31, 3) := by decide +kernel
theorem dX4_today_4 : decode cX4_today 4 = .ok (.ireturn, 1) := by decide +kernel
set_option maxRecDepth 20000 in
theorem ggX4_isSubscribed_X4_existingPack : GoodIn wsX4_isSubscribed wsX4_existingPack := goodIn_ca (goodIn_r _ [7, 8, 9, 10, 11, 36, 37, 38, 39, 40, 41] (by decide +kernel) (by decide +kernel)) (goodIn_sub (fun _ h => List.mem_cons_of_mem _ (List.mem_append_left _ (List.mem_append_right _ h))) (by decide +kernel))
set_option maxRecDepth 20000 in
theorem gX4_isSubscribed_X4_existingPack : GoodIn wsX4_isSubscribed (wsV RX4 64 RX4 yX4_existingPack wsX4_existingPack) := goodIn_app (goodIn_of _ (by decide +kernel)) ggX4_isSubscribed_X4_existingPack
set_option maxRecDepth 20000 in
theorem ggX4_isSubscribed_X4_checkRange : GoodIn wsX4_isSubscribed wsX4_checkRange := goodIn_ca (goodIn_r _ [14, 15, 16] (by decide +kernel) (by decide +kernel)) (goodIn_sub (fun _ h => List.mem_cons_of_mem _ (List.mem_append_right _ h)) (by decide +kernel))
set_option maxRecDepth 20000 in
theorem gX4_isSubscribed_X4_checkRange : GoodIn wsX4_isSubscribed (va_wsS RX4 34 yX4_checkRange wsX4_checkRange) := goodIn_app (goodIn_of _ (by decide +kernel)) ggX4_isSubscribed_X4_checkRange
set_option maxRecDepth 20000 in
theorem ggX4_isSubscribed_X1_isOnAt : GoodIn wsX4_isSubscribed wsX1_isOnAt := goodIn_r _ [21, 22, 23, 24, 25, 20, 26, 27, 28, 29, 42, 43, 44, 45, 46, 47] (by decide +kernel) (by decide +kernel)
set_option maxRecDepth 20000 in
theorem gX4_isSubscribed_X1_isOnAt : GoodIn wsX4_isSubscribed (wsV RX4 72 RX1 yX1_isOnAt wsX1_isOnAt) := goodIn_app (goodIn_of _ (by decide +kernel)) ggX4_isSubscribed_X1_isOnAt
theorem dX4_isSubscribed_0 : decode cX4_isSubscribed 0 = .ok (.aload_n 0, 1) := by decide +kernel
theorem dX4_isSubscribed_1 : decode cX4_isSubscribed 1 = .ok (.iload_n 1, 1) := by decide +kernel
theorem dX4_isSubscribed_2 : decode cX4_isSubscribed 2 = .ok (.invokevirtual 64, 3) := by decide +kernel
theorem dX4_isSubscribed_5 : decode cX4_isSubscribed 5 = .ok (.getfield 68, 3) := by decide +kernel
theorem dX4_isSubscribed_8 : decode cX4_isSubscribed 8 = .ok (.astore_n 3, 1) := by decide +kernel
theorem dX4_isSubscribed_9 : decode cX4_isSubscribed 9 = .ok (.iload_n 2, 1) := by decide +kernel
theorem dX4_isSubscribed_10 : decode cX4_isSubscribed 10 = .ok (.iconst 0, 1) := by decide +kernel
theorem dX4_isSubscribed_11 : decode cX4_isSubscribed 11 = .ok (.aload_n 0, 1) := by decide +kernel
theorem dX4_isSubscribed_12 : decode cX4_isSubscribed 12 = .ok (.getfield 31, 3) := by decide +kernel
theorem dX4_isSubscribed_15 : decode cX4_isSubscribed 15 = .ok (.invokestatic 34, 3) := by decide +kernel
theorem dX4_isSubscribed_18 : decode cX4_isSubscribed 18 = .ok (.aload_n 3, 1) := by decide +kernel
theorem dX4_isSubscribed_19 : decode cX4_isSubscribed 19 = .ok (.iload_n 2, 1) := by decide +kernel
theorem dX4_isSubscribed_20 : decode cX4_isSubscribed 20 = .ok (.invokevirtual 72, 3) := by decide +kernel
theorem dX4_isSubscribed_23 : decode cX4_isSubscribed 23 = .ok (.ireturn, 1) := by decide +kernel
set_option maxRecDepth 20000 in
theorem ggX4_isIn_X4_existingStay : GoodIn wsX4_isIn wsX4_existingStay := goodIn_ca (goodIn_ca (goodIn_r _ [6, 7, 8, 9, 5, 10, 11, 12, 13, 14, 15, 16, 17, 18, 19, 20, 21, 22, 23, 24, 25, 26, 27, 46, 47, 48, 49, 50, 51, 52, 53, 54, 55, 56, 57] (by decide +kernel) (by decide +kernel)) (goodIn_sub (fun _ h => List.mem_cons_of_mem _ (List.mem_append_left _ (List.mem_append_left _ (List.mem_append_right _ h)))) (by decide +kernel))) (goodIn_sub (fun _ h => List.mem_cons_of_mem _ (List.mem_append_left _ (List.mem_append_right _ h))) (by decide +kernel))
set_option maxRecDepth 20000 in
theorem gX4_isIn_X4_existingStay : GoodIn wsX4_isIn (wsV RX4 84 RX4 yX4_existingStay wsX4_existingStay) := goodIn_app (goodIn_of _ (by decide +kernel)) ggX4_isIn_X4_existingStay
set_option maxRecDepth 20000 in
theorem ggX4_isIn_X4_checkRange : GoodIn wsX4_isIn wsX4_checkRange := goodIn_ca (goodIn_r _ [30, 31, 32] (by decide +kernel) (by decide +kernel)) (goodIn_sub (fun _ h => List.mem_cons_of_mem _ (List.mem_append_right _ h)) (by decide +kernel))
set_option maxRecDepth 20000 in
theorem gX4_isIn_X4_checkRange : GoodIn wsX4_isIn (va_wsS RX4 34 yX4_checkRange wsX4_checkRange) := goodIn_app (goodIn_of _ (by decide +kernel)) ggX4_isIn_X4_checkRange
set_option maxRecDepth 20000 in
theorem ggX4_isIn_X1_isOnAt : GoodIn wsX4_isIn wsX1_isOnAt := goodIn_r _ [37, 38, 39, 40, 41, 36, 42, 43, 44, 45, 58, 59, 60, 61, 62, 63] (by decide +kernel) (by decide +kernel)
set_option maxRecDepth 20000 in
theorem gX4_isIn_X1_isOnAt : GoodIn wsX4_isIn (wsV RX4 72 RX1 yX1_isOnAt wsX1_isOnAt) := goodIn_app (goodIn_of _ (by decide +kernel)) ggX4_isIn_X1_isOnAt
theorem dX4_isIn_0 : decode cX4_isIn 0 = .ok (.aload_n 0, 1) := by decide +kernel
theorem dX4_isIn_1 : decode cX4_isIn 1 = .ok (.iload_n 1, 1) := by decide +kernel
theorem dX4_isIn_2 : decode cX4_isIn 2 = .ok (.iload_n 2, 1) := by decide +kernel
theorem dX4_isIn_3 : decode cX4_isIn 3 = .ok (.invokevirtual 84, 3) := by decide +kernel
theorem dX4_isIn_6 : decode cX4_isIn 6 = .ok (.astore 4, 2) := by decide +kernel
theorem dX4_isIn_8 : decode cX4_isIn 8 = .ok (.iload_n 3, 1) := by decide +kernel
theorem dX4_isIn_9 : decode cX4_isIn 9 = .ok (.iconst 0, 1) := by decide +kernel
theorem dX4_isIn_10 : decode cX4_isIn 10 = .ok (.aload_n 0, 1) := by decide +kernel
theorem dX4_isIn_11 : decode cX4_isIn 11 = .ok (.getfield 31, 3) := by decide +kernel
theorem dX4_isIn_14 : decode cX4_isIn 14 = .ok (.invokestatic 34, 3) := by decide +kernel
theorem dX4_isIn_17 : decode cX4_isIn 17 = .ok (.aload 4, 2) := by decide +kernel
theorem dX4_isIn_19 : decode cX4_isIn 19 = .ok (.iload_n 3, 1) := by decide +kernel
theorem dX4_isIn_20 : decode cX4_isIn 20 = .ok (.invokevirtual 72, 3) := by decide +kernel
theorem dX4_isIn_23 : decode cX4_isIn 23 = .ok (.ireturn, 1) := by decide +kernel
set_option maxRecDepth 20000 in
theorem ggX4_report_X4_existingStay : GoodIn wsX4_report wsX4_existingStay := goodIn_ca (goodIn_ca (goodIn_r _ [6, 7, 8, 9, 5, 10, 11, 12, 13, 14, 15, 16, 17, 18, 19, 20, 21, 22, 23, 24, 25, 26, 27, 30, 31, 32, 33, 34, 35, 36, 37, 38, 39, 40, 41] (by decide +kernel) (by decide +kernel)) (goodIn_sub (fun _ h => List.mem_cons_of_mem _ (List.mem_append_left _ (List.mem_append_right _ h))) (by decide +kernel))) (goodIn_sub (fun _ h => List.mem_cons_of_mem _ (List.mem_append_right _ h)) (by decide +kernel))
set_option maxRecDepth 20000 in
theorem gX4_report_X4_existingStay : GoodIn wsX4_report (wsV RX4 84 RX4 yX4_existingStay wsX4_existingStay) := goodIn_app (goodIn_of _ (by decide +kernel)) ggX4_report_X4_existingStay
theorem dX4_report_0 : decode cX4_report 0 = .ok (.aload_n 0, 1) := by decide +kernel
theorem dX4_report_1 : decode cX4_report 1 = .ok (.iload_n 1, 1) := by decide +kernel
theorem dX4_report_2 : decode cX4_report 2 = .ok (.iload_n 2, 1) := by decide +kernel
theorem dX4_report_3 : decode cX4_report 3 = .ok (.invokevirtual 84, 3) := by decide +kernel
theorem dX4_report_6 : decode cX4_report 6 = .ok (.astore_n 3, 1) := by decide +kernel
theorem dX4_report_7 : decode cX4_report 7 = .ok (.aload_n 3, 1) := by decide +kernel
theorem dX4_report_8 : decode cX4_report 8 = .ok (.dup, 1) := by decide +kernel
theorem dX4_report_9 : decode cX4_report 9 = .ok (.getfield 96, 3) := by decide +kernel
theorem dX4_report_12 : decode cX4_report 12 = .ok (.iconst 1, 1) := by decide +kernel
theorem dX4_report_13 : decode cX4_report 13 = .ok (.iadd, 1) := by decide +kernel
theorem dX4_report_14 : decode cX4_report 14 = .ok (.putfield 96, 3) := by decide +kernel
theorem dX4_report_17 : decode cX4_report 17 = .ok (.aload_n 3, 1) := by decide +kernel
theorem dX4_report_18 : decode cX4_report 18 = .ok (.getfield 96, 3) := by decide +kernel
theorem dX4_report_21 : decode cX4_report 21 = .ok (.ireturn, 1) := by decide +kernel
set_option maxRecDepth 20000 in
theorem ggX4_mend_X4_existingStay : GoodIn wsX4_mend wsX4_existingStay := goodIn_ca (goodIn_ca (goodIn_r _ [6, 7, 8, 9, 5, 10, 11, 12, 13, 14, 15, 16, 17, 18, 19, 20, 21, 22, 23, 24, 25, 26, 27, 30, 31, 32, 33, 34, 35, 36, 37, 38, 39, 40, 41] (by decide +kernel) (by decide +kernel)) (goodIn_sub (fun _ h => List.mem_cons_of_mem _ (List.mem_append_left _ (List.mem_append_right _ h))) (by decide +kernel))) (goodIn_sub (fun _ h => List.mem_cons_of_mem _ (List.mem_append_right _ h)) (by decide +kernel))
set_option maxRecDepth 20000 in
theorem gX4_mend_X4_existingStay : GoodIn wsX4_mend (wsV RX4 84 RX4 yX4_existingStay wsX4_existingStay) := goodIn_app (goodIn_of _ (by decide +kernel)) ggX4_mend_X4_existingStay
theorem dX4_mend_0 : decode cX4_mend 0 = .ok (.aload_n 0, 1) := by decide +kernel
theorem dX4_mend_1 : decode cX4_mend 1 = .ok (.iload_n 1, 1) := by decide +kernel
theorem dX4_mend_2 : decode cX4_mend 2 = .ok (.iload_n 2, 1) := by decide +kernel
theorem dX4_mend_3 : decode cX4_mend 3 = .ok (.invokevirtual 84, 3) := by decide +kernel
theorem dX4_mend_6 : decode cX4_mend 6 = .ok (.astore_n 3, 1) := by decide +kernel
theorem dX4_mend_7 : decode cX4_mend 7 = .ok (.aload_n 3, 1) := by decide +kernel
theorem dX4_mend_8 : decode cX4_mend 8 = .ok (.getfield 96, 3) := by decide +kernel
theorem dX4_mend_11 : decode cX4_mend 11 = .ok (.istore 4, 2) := by decide +kernel
theorem dX4_mend_13 : decode cX4_mend 13 = .ok (.aload_n 3, 1) := by decide +kernel
theorem dX4_mend_14 : decode cX4_mend 14 = .ok (.iconst 0, 1) := by decide +kernel
theorem dX4_mend_15 : decode cX4_mend 15 = .ok (.putfield 96, 3) := by decide +kernel
theorem dX4_mend_18 : decode cX4_mend 18 = .ok (.iload 4, 2) := by decide +kernel
theorem dX4_mend_20 : decode cX4_mend 20 = .ok (.ireturn, 1) := by decide +kernel
set_option maxRecDepth 20000 in
theorem ggX4_covers_X4_existingPack : GoodIn wsX4_covers wsX4_existingPack := goodIn_ca (goodIn_r _ [5, 6, 7, 8, 9, 82, 83, 84, 85, 86, 87] (by decide +kernel) (by decide +kernel)) (goodIn_sub (fun _ h => List.mem_cons_of_mem _ (List.mem_append_left _ (List.mem_append_left _ (List.mem_append_right _ h)))) (by decide +kernel))
set_option maxRecDepth 20000 in
theorem gX4_covers_X4_existingPack : GoodIn wsX4_covers (wsV RX4 64 RX4 yX4_existingPack wsX4_existingPack) := goodIn_app (goodIn_of _ (by decide +kernel)) ggX4_covers_X4_existingPack
set_option maxRecDepth 20000 in
theorem ggX4_covers_X4_existingTitle : GoodIn wsX4_covers wsX4_existingTitle := goodIn_ca (goodIn_r _ [13, 6, 7, 14, 15, 82, 83, 84, 85, 86, 87] (by decide +kernel) (by decide +kernel)) (goodIn_sub (fun _ h => List.mem_cons_of_mem _ (List.mem_append_left _ (List.mem_append_left _ (List.mem_append_right _ h)))) (by decide +kernel))
set_option maxRecDepth 20000 in
theorem gX4_covers_X4_existingTitle : GoodIn wsX4_covers (wsV RX4 48 RX4 yX4_existingTitle wsX4_existingTitle) := goodIn_app (goodIn_of _ (by decide +kernel)) ggX4_covers_X4_existingTitle
set_option maxRecDepth 20000 in
theorem ggX4_covers_X4_checkArticle : GoodIn wsX4_covers wsX4_checkArticle := goodIn_ca (goodIn_r _ [19, 20, 21, 22, 4, 23, 24, 25, 82, 83, 84, 85, 86, 87] (by decide +kernel) (by decide +kernel)) (goodIn_sub (fun _ h => List.mem_cons_of_mem _ (List.mem_append_left _ (List.mem_append_right _ h))) (by decide +kernel))
set_option maxRecDepth 20000 in
theorem gX4_covers_X4_checkArticle : GoodIn wsX4_covers (wsV RX4 99 RX4 yX4_checkArticle wsX4_checkArticle) := goodIn_app (goodIn_of _ (by decide +kernel)) ggX4_covers_X4_checkArticle
set_option maxRecDepth 20000 in
theorem ggX4_covers_X4_isWay : GoodIn wsX4_covers wsX4_isWay := goodIn_ca (goodIn_r _ [28, 29, 30, 31, 32, 33, 34, 35, 36, 37, 38, 39, 40, 41, 42, 43, 44, 45, 46, 47, 48, 7, 49, 50, 51, 52, 53, 54, 55, 56, 57, 58, 59, 60, 61, 62, 63, 64, 4, 65, 66, 67, 68, 69, 70, 71, 72, 73, 74, 75, 76, 77, 78, 79, 80, 81, 88, 89, 90, 91, 92, 93, 94, 95, 96, 97, 98, 99] (by decide +kernel) (by decide +kernel)) (goodIn_sub (fun _ h => List.mem_cons_of_mem _ (List.mem_append_right _ h)) (by decide +kernel))
set_option maxRecDepth 20000 in
theorem gX4_covers_X4_isWay : GoodIn wsX4_covers (va_wsS RX4 102 yX4_isWay wsX4_isWay) := goodIn_app (goodIn_of _ (by decide +kernel)) ggX4_covers_X4_isWay
theorem dX4_covers_0 : decode cX4_covers 0 = .ok (.aload_n 0, 1) := by decide +kernel
theorem dX4_covers_1 : decode cX4_covers 1 = .ok (.iload_n 1, 1) := by decide +kernel
theorem dX4_covers_2 : decode cX4_covers 2 = .ok (.invokevirtual 64, 3) := by decide +kernel
theorem dX4_covers_5 : decode cX4_covers 5 = .ok (.astore 6, 2) := by decide +kernel
theorem dX4_covers_7 : decode cX4_covers 7 = .ok (.aload_n 0, 1) := by decide +kernel
theorem dX4_covers_8 : decode cX4_covers 8 = .ok (.iload_n 2, 1) := by decide +kernel
theorem dX4_covers_9 : decode cX4_covers 9 = .ok (.invokevirtual 48, 3) := by decide +kernel
theorem dX4_covers_12 : decode cX4_covers 12 = .ok (.pop, 1) := by decide +kernel
theorem dX4_covers_13 : decode cX4_covers 13 = .ok (.aload_n 0, 1) := by decide +kernel
theorem dX4_covers_14 : decode cX4_covers 14 = .ok (.iload_n 3, 1) := by decide +kernel
theorem dX4_covers_15 : decode cX4_covers 15 = .ok (.iload 4, 2) := by decide +kernel
theorem dX4_covers_17 : decode cX4_covers 17 = .ok (.iload 5, 2) := by decide +kernel
theorem dX4_covers_19 : decode cX4_covers 19 = .ok (.invokevirtual 99, 3) := by decide +kernel
theorem dX4_covers_22 : decode cX4_covers 22 = .ok (.aload 6, 2) := by decide +kernel
theorem dX4_covers_24 : decode cX4_covers 24 = .ok (.iload_n 2, 1) := by decide +kernel
theorem dX4_covers_25 : decode cX4_covers 25 = .ok (.iload_n 3, 1) := by decide +kernel
theorem dX4_covers_26 : decode cX4_covers 26 = .ok (.iload 4, 2) := by decide +kernel
theorem dX4_covers_28 : decode cX4_covers 28 = .ok (.iload 5, 2) := by decide +kernel
theorem dX4_covers_30 : decode cX4_covers 30 = .ok (.invokestatic 102, 3) := by decide +kernel
theorem dX4_covers_33 : decode cX4_covers 33 = .ok (.ireturn, 1) := by decide +kernel
set_option maxRecDepth 20000 in
theorem ggX4_ways_X4_existingTitle : GoodIn wsX4_ways wsX4_existingTitle := goodIn_ca (goodIn_r _ [5, 6, 7, 8, 9, 93, 94, 95, 96, 97, 98] (by decide +kernel) (by decide +kernel)) (goodIn_sub (fun _ h => List.mem_cons_of_mem _ (List.mem_append_left _ (List.mem_append_left _ (List.mem_append_right _ h)))) (by decide +kernel))
set_option maxRecDepth 20000 in
theorem gX4_ways_X4_existingTitle : GoodIn wsX4_ways (wsV RX4 48 RX4 yX4_existingTitle wsX4_existingTitle) := goodIn_app (goodIn_of _ (by decide +kernel)) ggX4_ways_X4_existingTitle
set_option maxRecDepth 20000 in
theorem ggX4_ways_X4_checkArticle : GoodIn wsX4_ways wsX4_checkArticle := goodIn_ca (goodIn_r _ [13, 14, 15, 16, 4, 17, 18, 19, 93, 94, 95, 96, 97, 98] (by decide +kernel) (by decide +kernel)) (goodIn_sub (fun _ h => List.mem_cons_of_mem _ (List.mem_append_left _ (List.mem_append_right _ h))) (by decide +kernel))
set_option maxRecDepth 20000 in
theorem gX4_ways_X4_checkArticle : GoodIn wsX4_ways (wsV RX4 99 RX4 yX4_checkArticle wsX4_checkArticle) := goodIn_app (goodIn_of _ (by decide +kernel)) ggX4_ways_X4_checkArticle
set_option maxRecDepth 20000 in
theorem ggX4_ways_X4_waysTo : GoodIn wsX4_ways wsX4_waysTo := goodIn_ca (goodIn_ca (goodIn_r _ [23, 24, 25, 26, 27, 4, 28, 6, 7, 29, 30, 31, 32, 33, 34, 35, 36, 37, 38, 39, 40, 41, 42, 43, 44, 45, 46, 47, 48, 49, 50, 51, 52, 53, 54, 55, 56, 57, 58, 59, 60, 61, 62, 63, 64, 65, 66, 67, 68, 69, 70, 71, 72, 73, 74, 75, 76, 77, 78, 79, 80, 81, 82, 83, 84, 85, 93, 94, 95, 96, 97, 98, 99, 100, 101, 102, 103, 104, 105, 106, 107, 108, 109, 110] (by decide +kernel) (by decide +kernel)) (goodIn_sub (fun _ h => List.mem_cons_of_mem _ (List.mem_append_left _ (List.mem_append_left _ (List.mem_append_right _ h)))) (by decide +kernel))) (goodIn_sub (fun _ h => List.mem_cons_of_mem _ (List.mem_append_right _ h)) (by decide +kernel))
set_option maxRecDepth 20000 in
theorem gX4_ways_X4_waysTo : GoodIn wsX4_ways (wsV RX4 106 RX4 yX4_waysTo wsX4_waysTo) := goodIn_app (goodIn_of _ (by decide +kernel)) ggX4_ways_X4_waysTo
set_option maxRecDepth 20000 in
theorem ggX4_ways_J6_bitCount_0f7a4 : GoodIn wsX4_ways wsJ6_bitCount_0f7a4 := goodIn_r _ [89, 90, 91, 92] (by decide +kernel) (by decide +kernel)
set_option maxRecDepth 20000 in
theorem gX4_ways_J6_bitCount_0f7a4 : GoodIn wsX4_ways (va_wsS RX4 110 yJ6_bitCount_0f7a4 wsJ6_bitCount_0f7a4) := goodIn_app (goodIn_of _ (by decide +kernel)) ggX4_ways_J6_bitCount_0f7a4
theorem dX4_ways_0 : decode cX4_ways 0 = .ok (.aload_n 0, 1) := by decide +kernel
theorem dX4_ways_1 : decode cX4_ways 1 = .ok (.iload_n 1, 1) := by decide +kernel
theorem dX4_ways_2 : decode cX4_ways 2 = .ok (.invokevirtual 48, 3) := by decide +kernel
theorem dX4_ways_5 : decode cX4_ways 5 = .ok (.pop, 1) := by decide +kernel
theorem dX4_ways_6 : decode cX4_ways 6 = .ok (.aload_n 0, 1) := by decide +kernel
theorem dX4_ways_7 : decode cX4_ways 7 = .ok (.iload_n 2, 1) := by decide +kernel
theorem dX4_ways_8 : decode cX4_ways 8 = .ok (.iload_n 3, 1) := by decide +kernel
theorem dX4_ways_9 : decode cX4_ways 9 = .ok (.iload 4, 2) := by decide +kernel
theorem dX4_ways_11 : decode cX4_ways 11 = .ok (.invokevirtual 99, 3) := by decide +kernel
theorem dX4_ways_14 : decode cX4_ways 14 = .ok (.aload_n 0, 1) := by decide +kernel
theorem dX4_ways_15 : decode cX4_ways 15 = .ok (.iload_n 1, 1) := by decide +kernel
theorem dX4_ways_16 : decode cX4_ways 16 = .ok (.iload_n 2, 1) := by decide +kernel
theorem dX4_ways_17 : decode cX4_ways 17 = .ok (.iload_n 3, 1) := by decide +kernel
theorem dX4_ways_18 : decode cX4_ways 18 = .ok (.iload 4, 2) := by decide +kernel
theorem dX4_ways_20 : decode cX4_ways 20 = .ok (.invokevirtual 106, 3) := by decide +kernel
theorem dX4_ways_23 : decode cX4_ways 23 = .ok (.invokestatic 110, 3) := by decide +kernel
theorem dX4_ways_26 : decode cX4_ways 26 = .ok (.ireturn, 1) := by decide +kernel
set_option maxRecDepth 20000 in
theorem ggX4_wayAt_X4_checkArticle : GoodIn wsX4_wayAt wsX4_checkArticle := goodIn_ca (goodIn_r _ [8, 9, 10, 11, 7, 12, 13, 14, 104, 105, 106, 107, 108, 109] (by decide +kernel) (by decide +kernel)) (goodIn_sub (fun _ h => List.mem_cons_of_mem _ (List.mem_append_left _ (List.mem_append_right _ h))) (by decide +kernel))
set_option maxRecDepth 20000 in
theorem gX4_wayAt_X4_checkArticle : GoodIn wsX4_wayAt (wsV RX4 99 RX4 yX4_checkArticle wsX4_checkArticle) := goodIn_app (goodIn_of _ (by decide +kernel)) ggX4_wayAt_X4_checkArticle
set_option maxRecDepth 20000 in
theorem ggX4_wayAt_X4_existingTitle : GoodIn wsX4_wayAt wsX4_existingTitle := goodIn_ca (goodIn_r _ [18, 1, 2, 19, 20, 104, 105, 106, 107, 108, 109] (by decide +kernel) (by decide +kernel)) (goodIn_sub (fun _ h => List.mem_cons_of_mem _ (List.mem_append_left _ (List.mem_append_left _ (List.mem_append_right _ h)))) (by decide +kernel))
set_option maxRecDepth 20000 in
theorem gX4_wayAt_X4_existingTitle : GoodIn wsX4_wayAt (wsV RX4 48 RX4 yX4_existingTitle wsX4_existingTitle) := goodIn_app (goodIn_of _ (by decide +kernel)) ggX4_wayAt_X4_existingTitle
set_option maxRecDepth 20000 in
theorem ggX4_wayAt_X4_waysTo : GoodIn wsX4_wayAt wsX4_waysTo := goodIn_ca (goodIn_ca (goodIn_r _ [24, 3, 25, 26, 27, 7, 28, 1, 2, 29, 30, 31, 32, 33, 34, 35, 36, 37, 38, 39, 40, 41, 42, 43, 44, 45, 46, 47, 48, 49, 50, 51, 52, 53, 54, 55, 56, 57, 58, 59, 60, 61, 62, 63, 64, 65, 66, 67, 68, 69, 70, 71, 72, 73, 74, 75, 76, 77, 78, 79, 80, 81, 82, 83, 84, 85, 104, 105, 106, 107, 108, 109, 110, 111, 112, 113, 114, 115, 116, 117, 118, 119, 120, 121] (by decide +kernel) (by decide +kernel)) (goodIn_sub (fun _ h => List.mem_cons_of_mem _ (List.mem_append_left _ (List.mem_append_left _ (List.mem_append_right _ h)))) (by decide +kernel))) (goodIn_sub (fun _ h => List.mem_cons_of_mem _ (List.mem_append_right _ h)) (by decide +kernel))
set_option maxRecDepth 20000 in
theorem gX4_wayAt_X4_waysTo : GoodIn wsX4_wayAt (wsV RX4 106 RX4 yX4_waysTo wsX4_waysTo) := goodIn_app (goodIn_of _ (by decide +kernel)) ggX4_wayAt_X4_waysTo
set_option maxRecDepth 20000 in
theorem ggX4_wayAt_X4_isAmong : GoodIn wsX4_wayAt wsX4_isAmong := goodIn_r _ [88] (by decide +kernel) (by decide +kernel)
set_option maxRecDepth 20000 in
theorem gX4_wayAt_X4_isAmong : GoodIn wsX4_wayAt (va_wsS RX4 115 yX4_isAmong wsX4_isAmong) := goodIn_app (goodIn_of _ (by decide +kernel)) ggX4_wayAt_X4_isAmong
set_option maxRecDepth 20000 in
theorem ggX4_wayAt_X4_placeAmong : GoodIn wsX4_wayAt wsX4_placeAmong := goodIn_ca (goodIn_ca (goodIn_r _ [92, 3, 86, 87, 7, 88, 93, 94, 95, 96, 97, 98, 25, 26, 27, 28, 1, 2, 29, 99, 100, 101, 36, 102, 103, 48, 49, 50, 51, 52, 53, 104, 105, 106, 107, 108, 109, 110, 111, 112, 113, 114, 115, 120, 121] (by decide +kernel) (by decide +kernel)) (goodIn_sub (fun _ h => List.mem_cons_of_mem _ (List.mem_append_left _ (List.mem_append_left _ (List.mem_append_right _ h)))) (by decide +kernel))) (goodIn_sub (fun _ h => List.mem_cons_of_mem _ (List.mem_append_right _ h)) (by decide +kernel))
set_option maxRecDepth 20000 in
theorem gX4_wayAt_X4_placeAmong : GoodIn wsX4_wayAt (wsV RX4 119 RX4 yX4_placeAmong wsX4_placeAmong) := goodIn_app (goodIn_of _ (by decide +kernel)) ggX4_wayAt_X4_placeAmong
theorem dX4_wayAt_0 : decode cX4_wayAt 0 = .ok (.aload_n 0, 1) := by decide +kernel
theorem dX4_wayAt_1 : decode cX4_wayAt 1 = .ok (.iload_n 3, 1) := by decide +kernel
theorem dX4_wayAt_2 : decode cX4_wayAt 2 = .ok (.iload 4, 2) := by decide +kernel
theorem dX4_wayAt_4 : decode cX4_wayAt 4 = .ok (.iload 5, 2) := by decide +kernel
theorem dX4_wayAt_6 : decode cX4_wayAt 6 = .ok (.invokevirtual 99, 3) := by decide +kernel
theorem dX4_wayAt_9 : decode cX4_wayAt 9 = .ok (.aload_n 0, 1) := by decide +kernel
theorem dX4_wayAt_10 : decode cX4_wayAt 10 = .ok (.iload_n 2, 1) := by decide +kernel
theorem dX4_wayAt_11 : decode cX4_wayAt 11 = .ok (.invokevirtual 48, 3) := by decide +kernel
theorem dX4_wayAt_14 : decode cX4_wayAt 14 = .ok (.pop, 1) := by decide +kernel
theorem dX4_wayAt_15 : decode cX4_wayAt 15 = .ok (.aload_n 0, 1) := by decide +kernel
theorem dX4_wayAt_16 : decode cX4_wayAt 16 = .ok (.iload_n 2, 1) := by decide +kernel
theorem dX4_wayAt_17 : decode cX4_wayAt 17 = .ok (.iload_n 3, 1) := by decide +kernel
theorem dX4_wayAt_18 : decode cX4_wayAt 18 = .ok (.iload 4, 2) := by decide +kernel
theorem dX4_wayAt_20 : decode cX4_wayAt 20 = .ok (.iload 5, 2) := by decide +kernel
theorem dX4_wayAt_22 : decode cX4_wayAt 22 = .ok (.invokevirtual 106, 3) := by decide +kernel
theorem dX4_wayAt_25 : decode cX4_wayAt 25 = .ok (.istore 6, 2) := by decide +kernel
theorem dX4_wayAt_27 : decode cX4_wayAt 27 = .ok (.iconst 0, 1) := by decide +kernel
theorem dX4_wayAt_28 : decode cX4_wayAt 28 = .ok (.istore 7, 2) := by decide +kernel
theorem dX4_wayAt_30 : decode cX4_wayAt 30 = .ok (.iload 7, 2) := by decide +kernel
theorem dX4_wayAt_32 : decode cX4_wayAt 32 = .ok (.aload_n 0, 1) := by decide +kernel
theorem dX4_wayAt_33 : decode cX4_wayAt 33 = .ok (.getfield 25, 3) := by decide +kernel
theorem dX4_wayAt_36 : decode cX4_wayAt 36 = .ok (.if_icmp .ge 35, 3) := by decide +kernel
theorem dX4_wayAt_39 : decode cX4_wayAt 39 = .ok (.iload 6, 2) := by decide +kernel
theorem dX4_wayAt_41 : decode cX4_wayAt 41 = .ok (.iload 7, 2) := by decide +kernel
theorem dX4_wayAt_43 : decode cX4_wayAt 43 = .ok (.invokestatic 115, 3) := by decide +kernel
theorem dX4_wayAt_46 : decode cX4_wayAt 46 = .ok (.ifCond .eq 19, 3) := by decide +kernel
theorem dX4_wayAt_49 : decode cX4_wayAt 49 = .ok (.aload_n 0, 1) := by decide +kernel
theorem dX4_wayAt_50 : decode cX4_wayAt 50 = .ok (.iload 6, 2) := by decide +kernel
theorem dX4_wayAt_52 : decode cX4_wayAt 52 = .ok (.iload 7, 2) := by decide +kernel
theorem dX4_wayAt_54 : decode cX4_wayAt 54 = .ok (.iload_n 2, 1) := by decide +kernel
theorem dX4_wayAt_55 : decode cX4_wayAt 55 = .ok (.invokevirtual 119, 3) := by decide +kernel
theorem dX4_wayAt_58 : decode cX4_wayAt 58 = .ok (.iload_n 1, 1) := by decide +kernel
theorem dX4_wayAt_59 : decode cX4_wayAt 59 = .ok (.if_icmp .ne 6, 3) := by decide +kernel
theorem dX4_wayAt_62 : decode cX4_wayAt 62 = .ok (.iload 7, 2) := by decide +kernel
theorem dX4_wayAt_64 : decode cX4_wayAt 64 = .ok (.ireturn, 1) := by decide +kernel
theorem dX4_wayAt_65 : decode cX4_wayAt 65 = .ok (.iinc 7 1, 3) := by decide +kernel
theorem dX4_wayAt_68 : decode cX4_wayAt 68 = .ok (.goto (-38), 3) := by decide +kernel
theorem dX4_wayAt_71 : decode cX4_wayAt 71 = .ok (.new 123, 3) := by decide +kernel
theorem dX4_wayAt_74 : decode cX4_wayAt 74 = .ok (.dup, 1) := by decide +kernel
theorem dX4_wayAt_75 : decode cX4_wayAt 75 = .ok (.ldc 125, 2) := by decide +kernel
theorem dX4_wayAt_77 : decode cX4_wayAt 77 = .ok (.invokespecial 127, 3) := by decide +kernel
theorem dX4_wayAt_80 : decode cX4_wayAt 80 = .ok (.athrow, 1) := by decide +kernel
set_option maxRecDepth 20000 in
theorem ggX4_gap_X4_existingTitle : GoodIn wsX4_gap wsX4_existingTitle := goodIn_ca (goodIn_r _ [7, 8, 9, 10, 11, 88, 89, 90, 91, 92, 93] (by decide +kernel) (by decide +kernel)) (goodIn_sub (fun _ h => List.mem_cons_of_mem _ (List.mem_append_left _ (List.mem_append_left _ (List.mem_append_right _ h)))) (by decide +kernel))
set_option maxRecDepth 20000 in
theorem gX4_gap_X4_existingTitle : GoodIn wsX4_gap (wsV RX4 48 RX4 yX4_existingTitle wsX4_existingTitle) := goodIn_app (goodIn_of _ (by decide +kernel)) ggX4_gap_X4_existingTitle
set_option maxRecDepth 20000 in
theorem ggX4_gap_X4_checkRange : GoodIn wsX4_gap wsX4_checkRange := goodIn_ca (goodIn_r _ [14, 15, 16] (by decide +kernel) (by decide +kernel)) (goodIn_sub (fun _ h => List.mem_cons_of_mem _ (List.mem_append_left _ (List.mem_append_right _ h))) (by decide +kernel))
set_option maxRecDepth 20000 in
theorem gX4_gap_X4_checkRange : GoodIn wsX4_gap (va_wsS RX4 34 yX4_checkRange wsX4_checkRange) := goodIn_app (goodIn_of _ (by decide +kernel)) ggX4_gap_X4_checkRange
set_option maxRecDepth 20000 in
theorem ggX4_gap_X4_yearsSoFar : GoodIn wsX4_gap wsX4_yearsSoFar := goodIn_r _ [20, 2, 21, 22, 23, 6, 24, 86, 87, 88, 89, 90, 91, 92, 93] (by decide +kernel) (by decide +kernel)
set_option maxRecDepth 20000 in
theorem gX4_gap_X4_yearsSoFar : GoodIn wsX4_gap (wsV RX4 128 RX4 yX4_yearsSoFar wsX4_yearsSoFar) := goodIn_app (goodIn_of _ (by decide +kernel)) ggX4_gap_X4_yearsSoFar
set_option maxRecDepth 20000 in
theorem ggX4_gap_X4_yearsCoveredButBy : GoodIn wsX4_gap wsX4_yearsCoveredButBy := goodIn_ca (goodIn_ca (goodIn_r _ [28, 29, 21, 30, 31, 32, 6, 33, 8, 9, 34, 35, 36, 37, 38, 39, 40, 41, 42, 43, 44, 45, 46, 47, 48, 49, 50, 51, 52, 53, 54, 55, 56, 57, 58, 59, 60, 61, 62, 63, 64, 65, 66, 67, 68, 69, 23, 24, 70, 71, 72, 73, 74, 75, 76, 77, 78, 79, 80, 81, 82, 88, 89, 90, 91, 92, 93, 94, 95, 96, 97, 98, 99, 100, 101, 102, 103, 104, 105] (by decide +kernel) (by decide +kernel)) (goodIn_sub (fun _ h => List.mem_cons_of_mem _ (List.mem_append_left _ (List.mem_append_left _ (List.mem_append_right _ h)))) (by decide +kernel))) (goodIn_sub (fun _ h => List.mem_cons_of_mem _ (List.mem_append_right _ h)) (by decide +kernel))
set_option maxRecDepth 20000 in
theorem gX4_gap_X4_yearsCoveredButBy : GoodIn wsX4_gap (wsV RX4 132 RX4 yX4_yearsCoveredButBy wsX4_yearsCoveredButBy) := goodIn_app (goodIn_of _ (by decide +kernel)) ggX4_gap_X4_yearsCoveredButBy
set_option maxRecDepth 20000 in
theorem ggX4_gap_X4_hasYear : GoodIn wsX4_gap wsX4_hasYear := goodIn_r _ [85] (by decide +kernel) (by decide +kernel)
set_option maxRecDepth 20000 in
theorem gX4_gap_X4_hasYear : GoodIn wsX4_gap (va_wsS RX4 138 yX4_hasYear wsX4_hasYear) := goodIn_app (goodIn_of _ (by decide +kernel)) ggX4_gap_X4_hasYear
theorem dX4_gap_0 : decode cX4_gap 0 = .ok (.aload_n 0, 1) := by decide +kernel
theorem dX4_gap_1 : decode cX4_gap 1 = .ok (.iload_n 1, 1) := by decide +kernel
theorem dX4_gap_2 : decode cX4_gap 2 = .ok (.invokevirtual 48, 3) := by decide +kernel
theorem dX4_gap_5 : decode cX4_gap 5 = .ok (.astore_n 3, 1) := by decide +kernel
theorem dX4_gap_6 : decode cX4_gap 6 = .ok (.iload_n 2, 1) := by decide +kernel
theorem dX4_gap_7 : decode cX4_gap 7 = .ok (.iconst 0, 1) := by decide +kernel
theorem dX4_gap_8 : decode cX4_gap 8 = .ok (.iconst 3, 1) := by decide +kernel
theorem dX4_gap_9 : decode cX4_gap 9 = .ok (.invokestatic 34, 3) := by decide +kernel
theorem dX4_gap_12 : decode cX4_gap 12 = .ok (.aload_n 0, 1) := by decide +kernel
theorem dX4_gap_13 : decode cX4_gap 13 = .ok (.aload_n 3, 1) := by decide +kernel
theorem dX4_gap_14 : decode cX4_gap 14 = .ok (.invokevirtual 128, 3) := by decide +kernel
theorem dX4_gap_17 : decode cX4_gap 17 = .ok (.aload_n 0, 1) := by decide +kernel
theorem dX4_gap_18 : decode cX4_gap 18 = .ok (.iconst (-1), 1) := by decide +kernel
theorem dX4_gap_19 : decode cX4_gap 19 = .ok (.iload_n 1, 1) := by decide +kernel
theorem dX4_gap_20 : decode cX4_gap 20 = .ok (.iload_n 2, 1) := by decide +kernel
theorem dX4_gap_21 : decode cX4_gap 21 = .ok (.invokevirtual 132, 3) := by decide +kernel
theorem dX4_gap_24 : decode cX4_gap 24 = .ok (.ldc2_w 136, 3) := by decide +kernel
theorem dX4_gap_27 : decode cX4_gap 27 = .ok (.lxor, 1) := by decide +kernel
theorem dX4_gap_28 : decode cX4_gap 28 = .ok (.land, 1) := by decide +kernel
theorem dX4_gap_29 : decode cX4_gap 29 = .ok (.lstore 4, 2) := by decide +kernel
theorem dX4_gap_31 : decode cX4_gap 31 = .ok (.aload_n 3, 1) := by decide +kernel
theorem dX4_gap_32 : decode cX4_gap 32 = .ok (.getfield 56, 3) := by decide +kernel
theorem dX4_gap_35 : decode cX4_gap 35 = .ok (.istore 6, 2) := by decide +kernel
theorem dX4_gap_37 : decode cX4_gap 37 = .ok (.iload 6, 2) := by decide +kernel
theorem dX4_gap_39 : decode cX4_gap 39 = .ok (.bipush 55, 2) := by decide +kernel
theorem dX4_gap_41 : decode cX4_gap 41 = .ok (.if_icmp .gt 22, 3) := by decide +kernel
theorem dX4_gap_44 : decode cX4_gap 44 = .ok (.lload 4, 2) := by decide +kernel
theorem dX4_gap_46 : decode cX4_gap 46 = .ok (.iload 6, 2) := by decide +kernel
theorem dX4_gap_48 : decode cX4_gap 48 = .ok (.invokestatic 138, 3) := by decide +kernel
theorem dX4_gap_51 : decode cX4_gap 51 = .ok (.ifCond .eq 6, 3) := by decide +kernel
theorem dX4_gap_54 : decode cX4_gap 54 = .ok (.iload 6, 2) := by decide +kernel
theorem dX4_gap_56 : decode cX4_gap 56 = .ok (.ireturn, 1) := by decide +kernel
theorem dX4_gap_57 : decode cX4_gap 57 = .ok (.iinc 6 1, 3) := by decide +kernel
theorem dX4_gap_60 : decode cX4_gap 60 = .ok (.goto (-23), 3) := by decide +kernel
theorem dX4_gap_63 : decode cX4_gap 63 = .ok (.iconst (-1), 1) := by decide +kernel
theorem dX4_gap_64 : decode cX4_gap 64 = .ok (.ireturn, 1) := by decide +kernel
set_option maxRecDepth 20000 in
theorem ggX4_doubles_X4_existingTitle : GoodIn wsX4_doubles wsX4_existingTitle := goodIn_ca (goodIn_r _ [7, 8, 9, 10, 11, 85, 86, 87, 88, 89, 90] (by decide +kernel) (by decide +kernel)) (goodIn_sub (fun _ h => List.mem_cons_of_mem _ (List.mem_append_left _ (List.mem_append_left _ (List.mem_append_right _ h)))) (by decide +kernel))
set_option maxRecDepth 20000 in
theorem gX4_doubles_X4_existingTitle : GoodIn wsX4_doubles (wsV RX4 48 RX4 yX4_existingTitle wsX4_existingTitle) := goodIn_app (goodIn_of _ (by decide +kernel)) ggX4_doubles_X4_existingTitle
set_option maxRecDepth 20000 in
theorem ggX4_doubles_X4_checkRange : GoodIn wsX4_doubles wsX4_checkRange := goodIn_ca (goodIn_r _ [14, 15, 16] (by decide +kernel) (by decide +kernel)) (goodIn_sub (fun _ h => List.mem_cons_of_mem _ (List.mem_append_left _ (List.mem_append_right _ h))) (by decide +kernel))
set_option maxRecDepth 20000 in
theorem gX4_doubles_X4_checkRange : GoodIn wsX4_doubles (va_wsS RX4 34 yX4_checkRange wsX4_checkRange) := goodIn_app (goodIn_of _ (by decide +kernel)) ggX4_doubles_X4_checkRange
set_option maxRecDepth 20000 in
theorem ggX4_doubles_X4_existingPack : GoodIn wsX4_doubles wsX4_existingPack := goodIn_ca (goodIn_r _ [20, 8, 9, 1, 21, 85, 86, 87, 88, 89, 90] (by decide +kernel) (by decide +kernel)) (goodIn_sub (fun _ h => List.mem_cons_of_mem _ (List.mem_append_left _ (List.mem_append_left _ (List.mem_append_right _ h)))) (by decide +kernel))
set_option maxRecDepth 20000 in
theorem gX4_doubles_X4_existingPack : GoodIn wsX4_doubles (wsV RX4 64 RX4 yX4_existingPack wsX4_existingPack) := goodIn_app (goodIn_of _ (by decide +kernel)) ggX4_doubles_X4_existingPack
set_option maxRecDepth 20000 in
theorem ggX4_doubles_X2_letsIn : GoodIn wsX4_doubles wsX2_letsIn := goodIn_r _ [26, 27, 91, 92, 93, 94, 95, 96] (by decide +kernel) (by decide +kernel)
set_option maxRecDepth 20000 in
theorem gX4_doubles_X2_letsIn : GoodIn wsX4_doubles (wsV RX4 142 RX2 yX2_letsIn wsX2_letsIn) := goodIn_app (goodIn_of _ (by decide +kernel)) ggX4_doubles_X2_letsIn
set_option maxRecDepth 20000 in
theorem ggX4_doubles_X2_yearsCovered : GoodIn wsX4_doubles wsX2_yearsCovered := goodIn_ca (goodIn_r _ [31, 32, 33, 34, 25, 35, 36, 37, 38, 39, 40, 41, 9, 42, 43, 44, 45, 46, 47, 48, 49, 50, 51, 52, 53, 54, 55, 56, 57, 6, 58, 59, 60, 61, 62, 63, 64, 65, 66, 67, 68, 69, 70, 71, 91, 92, 93, 94, 95, 96, 97, 98, 99, 100, 101, 102] (by decide +kernel) (by decide +kernel)) (goodIn_sub (fun _ h => List.mem_cons_of_mem _ (List.mem_append_right _ h)) (by decide +kernel))
set_option maxRecDepth 20000 in
theorem gX4_doubles_X2_yearsCovered : GoodIn wsX4_doubles (wsV RX4 145 RX2 yX2_yearsCovered wsX2_yearsCovered) := goodIn_app (goodIn_of _ (by decide +kernel)) ggX4_doubles_X2_yearsCovered
set_option maxRecDepth 20000 in
theorem ggX4_doubles_X4_yearsSoFar : GoodIn wsX4_doubles wsX4_yearsSoFar := goodIn_r _ [75, 76, 2, 77, 57, 6, 58, 103, 104, 85, 86, 87, 88, 89, 90] (by decide +kernel) (by decide +kernel)
set_option maxRecDepth 20000 in
theorem gX4_doubles_X4_yearsSoFar : GoodIn wsX4_doubles (wsV RX4 128 RX4 yX4_yearsSoFar wsX4_yearsSoFar) := goodIn_app (goodIn_of _ (by decide +kernel)) ggX4_doubles_X4_yearsSoFar
set_option maxRecDepth 20000 in
theorem ggX4_doubles_J13_bitCount_95d88 : GoodIn wsX4_doubles wsJ13_bitCount_95d88 := goodIn_r _ [81, 82, 83, 84] (by decide +kernel) (by decide +kernel)
set_option maxRecDepth 20000 in
theorem gX4_doubles_J13_bitCount_95d88 : GoodIn wsX4_doubles (va_wsS RX4 148 yJ13_bitCount_95d88 wsJ13_bitCount_95d88) := goodIn_app (goodIn_of _ (by decide +kernel)) ggX4_doubles_J13_bitCount_95d88
theorem dX4_doubles_0 : decode cX4_doubles 0 = .ok (.aload_n 0, 1) := by decide +kernel
theorem dX4_doubles_1 : decode cX4_doubles 1 = .ok (.iload_n 1, 1) := by decide +kernel
theorem dX4_doubles_2 : decode cX4_doubles 2 = .ok (.invokevirtual 48, 3) := by decide +kernel
theorem dX4_doubles_5 : decode cX4_doubles 5 = .ok (.astore_n 3, 1) := by decide +kernel
theorem dX4_doubles_6 : decode cX4_doubles 6 = .ok (.iload_n 2, 1) := by decide +kernel
theorem dX4_doubles_7 : decode cX4_doubles 7 = .ok (.iconst 0, 1) := by decide +kernel
theorem dX4_doubles_8 : decode cX4_doubles 8 = .ok (.iconst 3, 1) := by decide +kernel
theorem dX4_doubles_9 : decode cX4_doubles 9 = .ok (.invokestatic 34, 3) := by decide +kernel
theorem dX4_doubles_12 : decode cX4_doubles 12 = .ok (.lconst 0, 1) := by decide +kernel
theorem dX4_doubles_13 : decode cX4_doubles 13 = .ok (.lstore 4, 2) := by decide +kernel
theorem dX4_doubles_15 : decode cX4_doubles 15 = .ok (.lconst 0, 1) := by decide +kernel
theorem dX4_doubles_16 : decode cX4_doubles 16 = .ok (.lstore 6, 2) := by decide +kernel
theorem dX4_doubles_18 : decode cX4_doubles 18 = .ok (.iconst 0, 1) := by decide +kernel
theorem dX4_doubles_19 : decode cX4_doubles 19 = .ok (.istore 8, 2) := by decide +kernel
theorem dX4_doubles_21 : decode cX4_doubles 21 = .ok (.iload 8, 2) := by decide +kernel
theorem dX4_doubles_23 : decode cX4_doubles 23 = .ok (.aload_n 0, 1) := by decide +kernel
theorem dX4_doubles_24 : decode cX4_doubles 24 = .ok (.getfield 25, 3) := by decide +kernel
theorem dX4_doubles_27 : decode cX4_doubles 27 = .ok (.if_icmp .ge 55, 3) := by decide +kernel
theorem dX4_doubles_30 : decode cX4_doubles 30 = .ok (.aload_n 0, 1) := by decide +kernel
theorem dX4_doubles_31 : decode cX4_doubles 31 = .ok (.iload 8, 2) := by decide +kernel
theorem dX4_doubles_33 : decode cX4_doubles 33 = .ok (.invokevirtual 64, 3) := by decide +kernel
theorem dX4_doubles_36 : decode cX4_doubles 36 = .ok (.astore 9, 2) := by decide +kernel
theorem dX4_doubles_38 : decode cX4_doubles 38 = .ok (.aload 9, 2) := by decide +kernel
theorem dX4_doubles_40 : decode cX4_doubles 40 = .ok (.iload_n 2, 1) := by decide +kernel
theorem dX4_doubles_41 : decode cX4_doubles 41 = .ok (.invokevirtual 142, 3) := by decide +kernel
theorem dX4_doubles_44 : decode cX4_doubles 44 = .ok (.ifCond .eq 32, 3) := by decide +kernel
theorem dX4_doubles_47 : decode cX4_doubles 47 = .ok (.aload 9, 2) := by decide +kernel
theorem dX4_doubles_49 : decode cX4_doubles 49 = .ok (.iload_n 1, 1) := by decide +kernel
theorem dX4_doubles_50 : decode cX4_doubles 50 = .ok (.aload_n 0, 1) := by decide +kernel
theorem dX4_doubles_51 : decode cX4_doubles 51 = .ok (.getfield 31, 3) := by decide +kernel
theorem dX4_doubles_54 : decode cX4_doubles 54 = .ok (.invokevirtual 145, 3) := by decide +kernel
theorem dX4_doubles_57 : decode cX4_doubles 57 = .ok (.lstore 10, 2) := by decide +kernel
theorem dX4_doubles_59 : decode cX4_doubles 59 = .ok (.lload 6, 2) := by decide +kernel
theorem dX4_doubles_61 : decode cX4_doubles 61 = .ok (.lload 4, 2) := by decide +kernel
theorem dX4_doubles_63 : decode cX4_doubles 63 = .ok (.lload 10, 2) := by decide +kernel
theorem dX4_doubles_65 : decode cX4_doubles 65 = .ok (.land, 1) := by decide +kernel
theorem dX4_doubles_66 : decode cX4_doubles 66 = .ok (.lor, 1) := by decide +kernel
theorem dX4_doubles_67 : decode cX4_doubles 67 = .ok (.lstore 6, 2) := by decide +kernel
theorem dX4_doubles_69 : decode cX4_doubles 69 = .ok (.lload 4, 2) := by decide +kernel
theorem dX4_doubles_71 : decode cX4_doubles 71 = .ok (.lload 10, 2) := by decide +kernel
theorem dX4_doubles_73 : decode cX4_doubles 73 = .ok (.lor, 1) := by decide +kernel
theorem dX4_doubles_74 : decode cX4_doubles 74 = .ok (.lstore 4, 2) := by decide +kernel
theorem dX4_doubles_76 : decode cX4_doubles 76 = .ok (.iinc 8 1, 3) := by decide +kernel
theorem dX4_doubles_79 : decode cX4_doubles 79 = .ok (.goto (-58), 3) := by decide +kernel
theorem dX4_doubles_82 : decode cX4_doubles 82 = .ok (.lload 6, 2) := by decide +kernel
theorem dX4_doubles_84 : decode cX4_doubles 84 = .ok (.aload_n 0, 1) := by decide +kernel
theorem dX4_doubles_85 : decode cX4_doubles 85 = .ok (.aload_n 3, 1) := by decide +kernel
theorem dX4_doubles_86 : decode cX4_doubles 86 = .ok (.invokevirtual 128, 3) := by decide +kernel
theorem dX4_doubles_89 : decode cX4_doubles 89 = .ok (.land, 1) := by decide +kernel
theorem dX4_doubles_90 : decode cX4_doubles 90 = .ok (.invokestatic 148, 3) := by decide +kernel
theorem dX4_doubles_93 : decode cX4_doubles 93 = .ok (.ireturn, 1) := by decide +kernel
set_option maxRecDepth 20000 in
theorem ggX4_isNeedless_X4_existingPack : GoodIn wsX4_isNeedless wsX4_existingPack := goodIn_ca (goodIn_r _ [6, 7, 8, 9, 10, 84, 85, 86, 87, 88, 89] (by decide +kernel) (by decide +kernel)) (goodIn_sub (fun _ h => List.mem_cons_of_mem _ (List.mem_append_left _ (List.mem_append_right _ h))) (by decide +kernel))
set_option maxRecDepth 20000 in
theorem gX4_isNeedless_X4_existingPack : GoodIn wsX4_isNeedless (wsV RX4 64 RX4 yX4_existingPack wsX4_existingPack) := goodIn_app (goodIn_of _ (by decide +kernel)) ggX4_isNeedless_X4_existingPack
set_option maxRecDepth 20000 in
theorem ggX4_isNeedless_X4_isLostWithout : GoodIn wsX4_isNeedless wsX4_isLostWithout := goodIn_ca (goodIn_ca (goodIn_r _ [14, 15, 16, 2, 3, 4, 5, 6, 7, 8, 9, 10, 17, 18, 19, 20, 21, 22, 23, 24, 25, 26, 27, 28, 29, 30, 31, 32, 33, 34, 35, 36, 37, 38, 39, 40, 41, 42, 43, 44, 45, 46, 47, 48, 49, 50, 51, 52, 53, 54, 55, 56, 57, 58, 59, 60, 61, 1, 62, 63, 64, 65, 66, 67, 68, 69, 70, 71, 72, 73, 74, 75, 76, 77, 78, 79, 80, 81, 82, 83, 84, 85, 86, 87, 88, 89, 90, 91, 92, 93, 94, 95, 96, 97, 98, 99, 100, 101, 102, 103] (by decide +kernel) (by decide +kernel)) (goodIn_sub (fun _ h => List.mem_cons_of_mem _ (List.mem_append_left _ (List.mem_append_right _ h))) (by decide +kernel))) (goodIn_sub (fun _ h => List.mem_cons_of_mem _ (List.mem_append_right _ h)) (by decide +kernel))
set_option maxRecDepth 20000 in
theorem gX4_isNeedless_X4_isLostWithout : GoodIn wsX4_isNeedless (wsV RX4 153 RX4 yX4_isLostWithout wsX4_isLostWithout) := goodIn_app (goodIn_of _ (by decide +kernel)) ggX4_isNeedless_X4_isLostWithout
theorem dX4_isNeedless_0 : decode cX4_isNeedless 0 = .ok (.aload_n 0, 1) := by decide +kernel
theorem dX4_isNeedless_1 : decode cX4_isNeedless 1 = .ok (.iload_n 1, 1) := by decide +kernel
theorem dX4_isNeedless_2 : decode cX4_isNeedless 2 = .ok (.invokevirtual 64, 3) := by decide +kernel
theorem dX4_isNeedless_5 : decode cX4_isNeedless 5 = .ok (.pop, 1) := by decide +kernel
theorem dX4_isNeedless_6 : decode cX4_isNeedless 6 = .ok (.iconst 0, 1) := by decide +kernel
theorem dX4_isNeedless_7 : decode cX4_isNeedless 7 = .ok (.istore_n 2, 1) := by decide +kernel
theorem dX4_isNeedless_8 : decode cX4_isNeedless 8 = .ok (.iload_n 2, 1) := by decide +kernel
theorem dX4_isNeedless_9 : decode cX4_isNeedless 9 = .ok (.aload_n 0, 1) := by decide +kernel
theorem dX4_isNeedless_10 : decode cX4_isNeedless 10 = .ok (.getfield 21, 3) := by decide +kernel
theorem dX4_isNeedless_13 : decode cX4_isNeedless 13 = .ok (.if_icmp .ge 20, 3) := by decide +kernel
theorem dX4_isNeedless_16 : decode cX4_isNeedless 16 = .ok (.aload_n 0, 1) := by decide +kernel
theorem dX4_isNeedless_17 : decode cX4_isNeedless 17 = .ok (.iload_n 1, 1) := by decide +kernel
theorem dX4_isNeedless_18 : decode cX4_isNeedless 18 = .ok (.iload_n 2, 1) := by decide +kernel
theorem dX4_isNeedless_19 : decode cX4_isNeedless 19 = .ok (.invokevirtual 153, 3) := by decide +kernel
theorem dX4_isNeedless_22 : decode cX4_isNeedless 22 = .ok (.ifCond .eq 5, 3) := by decide +kernel
theorem dX4_isNeedless_25 : decode cX4_isNeedless 25 = .ok (.iconst 0, 1) := by decide +kernel
theorem dX4_isNeedless_26 : decode cX4_isNeedless 26 = .ok (.ireturn, 1) := by decide +kernel
theorem dX4_isNeedless_27 : decode cX4_isNeedless 27 = .ok (.iinc 2 1, 3) := by decide +kernel
theorem dX4_isNeedless_30 : decode cX4_isNeedless 30 = .ok (.goto (-22), 3) := by decide +kernel
theorem dX4_isNeedless_33 : decode cX4_isNeedless 33 = .ok (.iconst 1, 1) := by decide +kernel
theorem dX4_isNeedless_34 : decode cX4_isNeedless 34 = .ok (.ireturn, 1) := by decide +kernel
theorem dX4_checkRange_0 : decode cX4_checkRange 0 = .ok (.iload_n 0, 1) := by decide +kernel
theorem dX4_checkRange_1 : decode cX4_checkRange 1 = .ok (.iload_n 1, 1) := by decide +kernel
theorem dX4_checkRange_2 : decode cX4_checkRange 2 = .ok (.if_icmp .lt 8, 3) := by decide +kernel
theorem dX4_checkRange_5 : decode cX4_checkRange 5 = .ok (.iload_n 0, 1) := by decide +kernel
theorem dX4_checkRange_6 : decode cX4_checkRange 6 = .ok (.iload_n 2, 1) := by decide +kernel
theorem dX4_checkRange_7 : decode cX4_checkRange 7 = .ok (.if_icmp .le 13, 3) := by decide +kernel
theorem dX4_checkRange_10 : decode cX4_checkRange 10 = .ok (.new 156, 3) := by decide +kernel
theorem dX4_checkRange_13 : decode cX4_checkRange 13 = .ok (.dup, 1) := by decide +kernel
theorem dX4_checkRange_14 : decode cX4_checkRange 14 = .ok (.ldc 158, 2) := by decide +kernel
theorem dX4_checkRange_16 : decode cX4_checkRange 16 = .ok (.invokespecial 160, 3) := by decide +kernel
theorem dX4_checkRange_19 : decode cX4_checkRange 19 = .ok (.athrow, 1) := by decide +kernel
theorem dX4_checkRange_20 : decode cX4_checkRange 20 = .ok (.return_, 1) := by decide +kernel
set_option maxRecDepth 20000 in
theorem ggX4_checkArticle_X4_checkRange : GoodIn wsX4_checkArticle wsX4_checkRange := goodIn_ca (goodIn_r _ [5, 6, 7] (by decide +kernel) (by decide +kernel)) (goodIn_sub (fun _ h => List.mem_cons_of_mem _ (List.mem_append_right _ h)) (by decide +kernel))
set_option maxRecDepth 20000 in
theorem gX4_checkArticle_X4_checkRange : GoodIn wsX4_checkArticle (va_wsS RX4 34 yX4_checkRange wsX4_checkRange) := goodIn_app (goodIn_of _ (by decide +kernel)) ggX4_checkArticle_X4_checkRange
theorem dX4_checkArticle_0 : decode cX4_checkArticle 0 = .ok (.iload_n 1, 1) := by decide +kernel
theorem dX4_checkArticle_1 : decode cX4_checkArticle 1 = .ok (.iconst 0, 1) := by decide +kernel
theorem dX4_checkArticle_2 : decode cX4_checkArticle 2 = .ok (.bipush 55, 2) := by decide +kernel
theorem dX4_checkArticle_4 : decode cX4_checkArticle 4 = .ok (.invokestatic 34, 3) := by decide +kernel
theorem dX4_checkArticle_7 : decode cX4_checkArticle 7 = .ok (.iload_n 2, 1) := by decide +kernel
theorem dX4_checkArticle_8 : decode cX4_checkArticle 8 = .ok (.iconst 0, 1) := by decide +kernel
theorem dX4_checkArticle_9 : decode cX4_checkArticle 9 = .ok (.iconst 3, 1) := by decide +kernel
theorem dX4_checkArticle_10 : decode cX4_checkArticle 10 = .ok (.invokestatic 34, 3) := by decide +kernel
theorem dX4_checkArticle_13 : decode cX4_checkArticle 13 = .ok (.iload_n 3, 1) := by decide +kernel
theorem dX4_checkArticle_14 : decode cX4_checkArticle 14 = .ok (.iconst 0, 1) := by decide +kernel
theorem dX4_checkArticle_15 : decode cX4_checkArticle 15 = .ok (.aload_n 0, 1) := by decide +kernel
theorem dX4_checkArticle_16 : decode cX4_checkArticle 16 = .ok (.getfield 31, 3) := by decide +kernel
theorem dX4_checkArticle_19 : decode cX4_checkArticle 19 = .ok (.invokestatic 34, 3) := by decide +kernel
theorem dX4_checkArticle_22 : decode cX4_checkArticle 22 = .ok (.return_, 1) := by decide +kernel
theorem dX4_existingTitle_0 : decode cX4_existingTitle 0 = .ok (.iload_n 1, 1) := by decide +kernel
theorem dX4_existingTitle_1 : decode cX4_existingTitle 1 = .ok (.ifCond .lt 20, 3) := by decide +kernel
theorem dX4_existingTitle_4 : decode cX4_existingTitle 4 = .ok (.iload_n 1, 1) := by decide +kernel
theorem dX4_existingTitle_5 : decode cX4_existingTitle 5 = .ok (.aload_n 0, 1) := by decide +kernel
theorem dX4_existingTitle_6 : decode cX4_existingTitle 6 = .ok (.getfield 21, 3) := by decide +kernel
theorem dX4_existingTitle_9 : decode cX4_existingTitle 9 = .ok (.if_icmp .ge 12, 3) := by decide +kernel
theorem dX4_existingTitle_12 : decode cX4_existingTitle 12 = .ok (.aload_n 0, 1) := by decide +kernel
theorem dX4_existingTitle_13 : decode cX4_existingTitle 13 = .ok (.getfield 11, 3) := by decide +kernel
theorem dX4_existingTitle_16 : decode cX4_existingTitle 16 = .ok (.iload_n 1, 1) := by decide +kernel
theorem dX4_existingTitle_17 : decode cX4_existingTitle 17 = .ok (.aaload, 1) := by decide +kernel
theorem dX4_existingTitle_18 : decode cX4_existingTitle 18 = .ok (.ifnonnull 13, 3) := by decide +kernel
theorem dX4_existingTitle_21 : decode cX4_existingTitle 21 = .ok (.new 123, 3) := by decide +kernel
theorem dX4_existingTitle_24 : decode cX4_existingTitle 24 = .ok (.dup, 1) := by decide +kernel
theorem dX4_existingTitle_25 : decode cX4_existingTitle 25 = .ok (.ldc 161, 2) := by decide +kernel
theorem dX4_existingTitle_27 : decode cX4_existingTitle 27 = .ok (.invokespecial 127, 3) := by decide +kernel
theorem dX4_existingTitle_30 : decode cX4_existingTitle 30 = .ok (.athrow, 1) := by decide +kernel
theorem dX4_existingTitle_31 : decode cX4_existingTitle 31 = .ok (.aload_n 0, 1) := by decide +kernel
theorem dX4_existingTitle_32 : decode cX4_existingTitle 32 = .ok (.getfield 11, 3) := by decide +kernel
theorem dX4_existingTitle_35 : decode cX4_existingTitle 35 = .ok (.iload_n 1, 1) := by decide +kernel
theorem dX4_existingTitle_36 : decode cX4_existingTitle 36 = .ok (.aaload, 1) := by decide +kernel
theorem dX4_existingTitle_37 : decode cX4_existingTitle 37 = .ok (.areturn, 1) := by decide +kernel
theorem dX4_existingPack_0 : decode cX4_existingPack 0 = .ok (.iload_n 1, 1) := by decide +kernel
