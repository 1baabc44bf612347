theorem inlX0 : ∀ w ∈ wsX00, w ∈ wsL_law := fun _ h => List.mem_append_left _ (List.mem_append_left _ (List.mem_append_right _ h))
theorem inX0 : ∀ w ∈ wsX00, w ∈ lw_tbl := fun w h => wsL_law_in w (inlX0 w h)
theorem inlX1 : ∀ w ∈ wsX10, w ∈ wsL_law := fun _ h => List.mem_append_left _ (List.mem_append_left _ (List.mem_append_left _ (List.mem_append_left _ (List.mem_append_left _ (List.mem_append_right _ h)))))
theorem inX1 : ∀ w ∈ wsX10, w ∈ lw_tbl := fun w h => wsL_law_in w (inlX1 w h)
theorem inlX2 : ∀ w ∈ wsX20, w ∈ wsL_law := fun _ h => List.mem_append_left _ (List.mem_append_left _ (List.mem_append_left _ (List.mem_append_left _ (List.mem_append_left _ (List.mem_append_left _ (List.mem_append_right _ h))))))
theorem inX2 : ∀ w ∈ wsX20, w ∈ lw_tbl := fun w h => wsL_law_in w (inlX2 w h)
theorem inlX3 : ∀ w ∈ wsX30, w ∈ wsL_law := fun _ h => List.mem_append_left _ (List.mem_append_left _ (List.mem_append_left _ (List.mem_append_right _ h)))
theorem inX3 : ∀ w ∈ wsX30, w ∈ lw_tbl := fun w h => wsL_law_in w (inlX3 w h)
theorem inlX4 : ∀ w ∈ wsX40, w ∈ wsL_law := fun _ h => List.mem_append_left _ (List.mem_append_left _ (List.mem_append_left _ (List.mem_append_left _ (List.mem_append_right _ h))))
theorem inX4 : ∀ w ∈ wsX40, w ∈ lw_tbl := fun w h => wsL_law_in w (inlX4 w h)
theorem inlX5 : ∀ w ∈ wsX50, w ∈ wsL_law := fun _ h => List.mem_append_left _ (List.mem_append_left _ (List.mem_append_left _ (List.mem_append_left _ (List.mem_append_left _ (List.mem_append_left _ (List.mem_append_left _ (List.mem_append_right _ h)))))))
theorem inX5 : ∀ w ∈ wsX50, w ∈ lw_tbl := fun w h => wsL_law_in w (inlX5 w h)
theorem inlX6 : ∀ w ∈ wsX60, w ∈ wsL_law := fun _ h => List.mem_append_left _ (List.mem_append_right _ h)
theorem inX6 : ∀ w ∈ wsX60, w ∈ lw_tbl := fun w h => wsL_law_in w (inlX6 w h)
theorem inlX7 : ∀ w ∈ wsX70, w ∈ wsL_law := fun _ h => List.mem_append_left _ (List.mem_append_left _ (List.mem_append_left _ (List.mem_append_left _ (List.mem_append_left _ (List.mem_append_left _ (List.mem_append_left _ (List.mem_append_left _ (List.mem_append_left _ (List.mem_append_right _ h)))))))))
theorem inX7 : ∀ w ∈ wsX70, w ∈ lw_tbl := fun w h => wsL_law_in w (inlX7 w h)
theorem inlX8 : ∀ w ∈ wsX80, w ∈ wsL_law := fun _ h => List.mem_append_left _ (List.mem_append_left _ (List.mem_append_left _ (List.mem_append_left _ (List.mem_append_left _ (List.mem_append_left _ (List.mem_append_left _ (List.mem_append_left _ (List.mem_append_right _ h))))))))
theorem inX8 : ∀ w ∈ wsX80, w ∈ lw_tbl := fun w h => wsL_law_in w (inlX8 w h)
theorem inJ6 : ∀ w ∈ wsJ60, w ∈ lw_tbl := by decide +kernel
theorem inJ9 : ∀ w ∈ wsJ90, w ∈ lw_tbl := by decide +kernel
theorem inJ0 : ∀ w ∈ wsJ00, w ∈ lw_tbl := by decide +kernel
theorem inJ1 : ∀ w ∈ wsJ10, w ∈ lw_tbl := by decide +kernel
theorem inJ2 : ∀ w ∈ wsJ20, w ∈ lw_tbl := by decide +kernel
theorem inJ10 : ∀ w ∈ wsJ100, w ∈ lw_tbl := by decide +kernel
theorem inJ3 : ∀ w ∈ wsJ30, w ∈ lw_tbl := by decide +kernel
theorem dX0_init_0 : decode cX0_init 0 = .ok (.aload_n 0, 1) := by decide +kernel
theorem dX0_init_1 : decode cX0_init 1 = .ok (.invokespecial 1, 3) := by decide +kernel
theorem dX0_init_4 : decode cX0_init 4 = .ok (.aload_n 0, 1) := by decide +kernel
theorem dX0_init_5 : decode cX0_init 5 = .ok (.lconst 0, 1) := by decide +kernel
theorem dX0_init_6 : decode cX0_init 6 = .ok (.putfield 7, 3) := by decide +kernel
theorem dX0_init_9 : decode cX0_init 9 = .ok (.aload_n 0, 1) := by decide +kernel
theorem dX0_init_10 : decode cX0_init 10 = .ok (.lconst 1, 1) := by decide +kernel
theorem dX0_init_11 : decode cX0_init 11 = .ok (.putfield 13, 3) := by decide +kernel
theorem dX0_init_14 : decode cX0_init 14 = .ok (.return_, 1) := by decide +kernel
set_option maxRecDepth 20000 in
theorem ggX0_put_X0_commonDivisor : GoodIn wsX0_put wsX0_commonDivisor := goodIn_r _ [10] (by decide +kernel) (by decide +kernel)
set_option maxRecDepth 20000 in
theorem gX0_put_X0_commonDivisor : GoodIn wsX0_put (va_wsS RX0 22 yX0_commonDivisor wsX0_commonDivisor) := goodIn_app (goodIn_of _ (by decide +kernel)) ggX0_put_X0_commonDivisor
theorem dX0_put_0 : decode cX0_put 0 = .ok (.lload_n 1, 1) := by decide +kernel
theorem dX0_put_1 : decode cX0_put 1 = .ok (.invokestatic 16, 3) := by decide +kernel
theorem dX0_put_4 : decode cX0_put 4 = .ok (.lload_n 3, 1) := by decide +kernel
theorem dX0_put_5 : decode cX0_put 5 = .ok (.invokestatic 22, 3) := by decide +kernel
theorem dX0_put_8 : decode cX0_put 8 = .ok (.lstore 5, 2) := by decide +kernel
theorem dX0_put_10 : decode cX0_put 10 = .ok (.lload_n 3, 1) := by decide +kernel
theorem dX0_put_11 : decode cX0_put 11 = .ok (.lconst 1, 1) := by decide +kernel
theorem dX0_put_12 : decode cX0_put 12 = .ok (.lcmp, 1) := by decide +kernel
theorem dX0_put_13 : decode cX0_put 13 = .ok (.ifCond .lt 10, 3) := by decide +kernel
theorem dX0_put_16 : decode cX0_put 16 = .ok (.lload 5, 2) := by decide +kernel
theorem dX0_put_18 : decode cX0_put 18 = .ok (.lconst 1, 1) := by decide +kernel
theorem dX0_put_19 : decode cX0_put 19 = .ok (.lcmp, 1) := by decide +kernel
theorem dX0_put_20 : decode cX0_put 20 = .ok (.ifCond .ge 4, 3) := by decide +kernel
theorem dX0_put_23 : decode cX0_put 23 = .ok (.return_, 1) := by decide +kernel
theorem dX0_put_24 : decode cX0_put 24 = .ok (.aload_n 0, 1) := by decide +kernel
theorem dX0_put_25 : decode cX0_put 25 = .ok (.lload_n 1, 1) := by decide +kernel
theorem dX0_put_26 : decode cX0_put 26 = .ok (.lload 5, 2) := by decide +kernel
theorem dX0_put_28 : decode cX0_put 28 = .ok (.ldiv, 1) := by decide +kernel
theorem dX0_put_29 : decode cX0_put 29 = .ok (.putfield 7, 3) := by decide +kernel
theorem dX0_put_32 : decode cX0_put 32 = .ok (.aload_n 0, 1) := by decide +kernel
theorem dX0_put_33 : decode cX0_put 33 = .ok (.lload_n 3, 1) := by decide +kernel
theorem dX0_put_34 : decode cX0_put 34 = .ok (.lload 5, 2) := by decide +kernel
theorem dX0_put_36 : decode cX0_put 36 = .ok (.ldiv, 1) := by decide +kernel
theorem dX0_put_37 : decode cX0_put 37 = .ok (.putfield 13, 3) := by decide +kernel
theorem dX0_put_40 : decode cX0_put 40 = .ok (.return_, 1) := by decide +kernel
theorem dX0_commonDivisor_0 : decode cX0_commonDivisor 0 = .ok (.lload_n 0, 1) := by decide +kernel
theorem dX0_commonDivisor_1 : decode cX0_commonDivisor 1 = .ok (.lstore 4, 2) := by decide +kernel
theorem dX0_commonDivisor_3 : decode cX0_commonDivisor 3 = .ok (.lload_n 2, 1) := by decide +kernel
theorem dX0_commonDivisor_4 : decode cX0_commonDivisor 4 = .ok (.lstore 6, 2) := by decide +kernel
theorem dX0_commonDivisor_6 : decode cX0_commonDivisor 6 = .ok (.iconst 0, 1) := by decide +kernel
theorem dX0_commonDivisor_7 : decode cX0_commonDivisor 7 = .ok (.istore 8, 2) := by decide +kernel
theorem dX0_commonDivisor_9 : decode cX0_commonDivisor 9 = .ok (.iload 8, 2) := by decide +kernel
theorem dX0_commonDivisor_11 : decode cX0_commonDivisor 11 = .ok (.sipush 1000, 3) := by decide +kernel
theorem dX0_commonDivisor_14 : decode cX0_commonDivisor 14 = .ok (.if_icmp .ge 31, 3) := by decide +kernel
theorem dX0_commonDivisor_17 : decode cX0_commonDivisor 17 = .ok (.lload 6, 2) := by decide +kernel
theorem dX0_commonDivisor_19 : decode cX0_commonDivisor 19 = .ok (.lconst 0, 1) := by decide +kernel
theorem dX0_commonDivisor_20 : decode cX0_commonDivisor 20 = .ok (.lcmp, 1) := by decide +kernel
theorem dX0_commonDivisor_21 : decode cX0_commonDivisor 21 = .ok (.ifCond .eq 24, 3) := by decide +kernel
theorem dX0_commonDivisor_24 : decode cX0_commonDivisor 24 = .ok (.lload 4, 2) := by decide +kernel
theorem dX0_commonDivisor_26 : decode cX0_commonDivisor 26 = .ok (.lload 6, 2) := by decide +kernel
theorem dX0_commonDivisor_28 : decode cX0_commonDivisor 28 = .ok (.lrem, 1) := by decide +kernel
theorem dX0_commonDivisor_29 : decode cX0_commonDivisor 29 = .ok (.lstore 9, 2) := by decide +kernel
theorem dX0_commonDivisor_31 : decode cX0_commonDivisor 31 = .ok (.lload 6, 2) := by decide +kernel
theorem dX0_commonDivisor_33 : decode cX0_commonDivisor 33 = .ok (.lstore 4, 2) := by decide +kernel
theorem dX0_commonDivisor_35 : decode cX0_commonDivisor 35 = .ok (.lload 9, 2) := by decide +kernel
theorem dX0_commonDivisor_37 : decode cX0_commonDivisor 37 = .ok (.lstore 6, 2) := by decide +kernel
theorem dX0_commonDivisor_39 : decode cX0_commonDivisor 39 = .ok (.iinc 8 1, 3) := by decide +kernel
theorem dX0_commonDivisor_42 : decode cX0_commonDivisor 42 = .ok (.goto (-33), 3) := by decide +kernel
theorem dX0_commonDivisor_45 : decode cX0_commonDivisor 45 = .ok (.lload 4, 2) := by decide +kernel
theorem dX0_commonDivisor_47 : decode cX0_commonDivisor 47 = .ok (.lreturn, 1) := by decide +kernel
theorem dX1_init_0 : decode cX1_init 0 = .ok (.aload_n 0, 1) := by decide +kernel
theorem dX1_init_1 : decode cX1_init 1 = .ok (.invokespecial 3, 3) := by decide +kernel
theorem dX1_init_4 : decode cX1_init 4 = .ok (.aload_n 0, 1) := by decide +kernel
theorem dX1_init_5 : decode cX1_init 5 = .ok (.sipush 256, 3) := by decide +kernel
theorem dX1_init_8 : decode cX1_init 8 = .ok (.newarray .boolean, 2) := by decide +kernel
theorem dX1_init_10 : decode cX1_init 10 = .ok (.putfield 11, 3) := by decide +kernel
theorem dX1_init_13 : decode cX1_init 13 = .ok (.aload_n 0, 1) := by decide +kernel
theorem dX1_init_14 : decode cX1_init 14 = .ok (.sipush 128, 3) := by decide +kernel
theorem dX1_init_17 : decode cX1_init 17 = .ok (.newarray .int, 2) := by decide +kernel
theorem dX1_init_19 : decode cX1_init 19 = .ok (.putfield 15, 3) := by decide +kernel
theorem dX1_init_22 : decode cX1_init 22 = .ok (.aload_n 0, 1) := by decide +kernel
theorem dX1_init_23 : decode cX1_init 23 = .ok (.sipush 256, 3) := by decide +kernel
theorem dX1_init_26 : decode cX1_init 26 = .ok (.newarray .int, 2) := by decide +kernel
theorem dX1_init_28 : decode cX1_init 28 = .ok (.putfield 19, 3) := by decide +kernel
theorem dX1_init_31 : decode cX1_init 31 = .ok (.aload_n 0, 1) := by decide +kernel
theorem dX1_init_32 : decode cX1_init 32 = .ok (.sipush 256, 3) := by decide +kernel
theorem dX1_init_35 : decode cX1_init 35 = .ok (.newarray .int, 2) := by decide +kernel
theorem dX1_init_37 : decode cX1_init 37 = .ok (.putfield 22, 3) := by decide +kernel
theorem dX1_init_40 : decode cX1_init 40 = .ok (.return_, 1) := by decide +kernel
set_option maxRecDepth 20000 in
theorem ggX1_seekWorst_X7_bookIn : GoodIn wsX1_seekWorst wsX7_bookIn := goodIn_r _ [6, 7, 8, 9, 5, 10, 11, 12, 13, 14, 15, 16, 17, 18, 19, 20, 21, 22, 23, 24, 25, 26, 27, 41, 42, 43, 44] (by decide +kernel) (by decide +kernel)
set_option maxRecDepth 20000 in
theorem gX1_seekWorst_X7_bookIn_n35 : GoodIn wsX1_seekWorst (wsX7_bookIn) := ggX1_seekWorst_X7_bookIn
theorem dX1_seekWorst_0 : decode cX1_seekWorst 0 = .ok (.aload_n 0, 1) := by decide +kernel
theorem dX1_seekWorst_1 : decode cX1_seekWorst 1 = .ok (.iconst (-1), 1) := by decide +kernel
theorem dX1_seekWorst_2 : decode cX1_seekWorst 2 = .ok (.putfield 25, 3) := by decide +kernel
theorem dX1_seekWorst_5 : decode cX1_seekWorst 5 = .ok (.iconst 0, 1) := by decide +kernel
theorem dX1_seekWorst_6 : decode cX1_seekWorst 6 = .ok (.istore_n 3, 1) := by decide +kernel
theorem dX1_seekWorst_7 : decode cX1_seekWorst 7 = .ok (.iload_n 3, 1) := by decide +kernel
theorem dX1_seekWorst_8 : decode cX1_seekWorst 8 = .ok (.sipush 128, 3) := by decide +kernel
theorem dX1_seekWorst_11 : decode cX1_seekWorst 11 = .ok (.if_icmp .ge 55, 3) := by decide +kernel
theorem dX1_seekWorst_14 : decode cX1_seekWorst 14 = .ok (.aload_n 2, 1) := by decide +kernel
theorem dX1_seekWorst_15 : decode cX1_seekWorst 15 = .ok (.getfield 29, 3) := by decide +kernel
theorem dX1_seekWorst_18 : decode cX1_seekWorst 18 = .ok (.iload_n 3, 1) := by decide +kernel
theorem dX1_seekWorst_19 : decode cX1_seekWorst 19 = .ok (.laload, 1) := by decide +kernel
theorem dX1_seekWorst_20 : decode cX1_seekWorst 20 = .ok (.lconst 0, 1) := by decide +kernel
theorem dX1_seekWorst_21 : decode cX1_seekWorst 21 = .ok (.lcmp, 1) := by decide +kernel
theorem dX1_seekWorst_22 : decode cX1_seekWorst 22 = .ok (.ifCond .le 38, 3) := by decide +kernel
theorem dX1_seekWorst_25 : decode cX1_seekWorst 25 = .ok (.aload_n 1, 1) := by decide +kernel
theorem dX1_seekWorst_26 : decode cX1_seekWorst 26 = .ok (.iload_n 3, 1) := by decide +kernel
theorem dX1_seekWorst_27 : decode cX1_seekWorst 27 = .ok (.invokestatic 35, 3) := by decide +kernel
theorem dX1_seekWorst_30 : decode cX1_seekWorst 30 = .ok (.istore 4, 2) := by decide +kernel
theorem dX1_seekWorst_32 : decode cX1_seekWorst 32 = .ok (.aload_n 0, 1) := by decide +kernel
theorem dX1_seekWorst_33 : decode cX1_seekWorst 33 = .ok (.getfield 25, 3) := by decide +kernel
theorem dX1_seekWorst_36 : decode cX1_seekWorst 36 = .ok (.iconst (-1), 1) := by decide +kernel
theorem dX1_seekWorst_37 : decode cX1_seekWorst 37 = .ok (.if_icmp .eq 12, 3) := by decide +kernel
theorem dX1_seekWorst_40 : decode cX1_seekWorst 40 = .ok (.iload 4, 2) := by decide +kernel
theorem dX1_seekWorst_42 : decode cX1_seekWorst 42 = .ok (.aload_n 0, 1) := by decide +kernel
theorem dX1_seekWorst_43 : decode cX1_seekWorst 43 = .ok (.getfield 39, 3) := by decide +kernel
theorem dX1_seekWorst_46 : decode cX1_seekWorst 46 = .ok (.if_icmp .ge 14, 3) := by decide +kernel
theorem dX1_seekWorst_49 : decode cX1_seekWorst 49 = .ok (.aload_n 0, 1) := by decide +kernel
theorem dX1_seekWorst_50 : decode cX1_seekWorst 50 = .ok (.iload 4, 2) := by decide +kernel
theorem dX1_seekWorst_52 : decode cX1_seekWorst 52 = .ok (.putfield 39, 3) := by decide +kernel
theorem dX1_seekWorst_55 : decode cX1_seekWorst 55 = .ok (.aload_n 0, 1) := by decide +kernel
theorem dX1_seekWorst_56 : decode cX1_seekWorst 56 = .ok (.iload_n 3, 1) := by decide +kernel
theorem dX1_seekWorst_57 : decode cX1_seekWorst 57 = .ok (.putfield 25, 3) := by decide +kernel
theorem dX1_seekWorst_60 : decode cX1_seekWorst 60 = .ok (.iinc 3 1, 3) := by decide +kernel
theorem dX1_seekWorst_63 : decode cX1_seekWorst 63 = .ok (.goto (-56), 3) := by decide +kernel
theorem dX1_seekWorst_66 : decode cX1_seekWorst 66 = .ok (.return_, 1) := by decide +kernel
set_option maxRecDepth 20000 in
theorem ggX1_weighedBook_X7_bookIn : GoodIn wsX1_weighedBook wsX7_bookIn := goodIn_r _ [4, 5, 6, 7, 3, 8, 9, 10, 11, 12, 13, 14, 15, 16, 17, 18, 19, 20, 21, 22, 23, 24, 25, 30, 31, 32, 33] (by decide +kernel) (by decide +kernel)
set_option maxRecDepth 20000 in
theorem gX1_weighedBook_X7_bookIn_n35 : GoodIn wsX1_weighedBook (wsX7_bookIn) := ggX1_weighedBook_X7_bookIn
theorem dX1_weighedBook_0 : decode cX1_weighedBook 0 = .ok (.lconst 0, 1) := by decide +kernel
theorem dX1_weighedBook_1 : decode cX1_weighedBook 1 = .ok (.lstore_n 2, 1) := by decide +kernel
theorem dX1_weighedBook_2 : decode cX1_weighedBook 2 = .ok (.iconst 0, 1) := by decide +kernel
theorem dX1_weighedBook_3 : decode cX1_weighedBook 3 = .ok (.istore 4, 2) := by decide +kernel
theorem dX1_weighedBook_5 : decode cX1_weighedBook 5 = .ok (.iload 4, 2) := by decide +kernel
theorem dX1_weighedBook_7 : decode cX1_weighedBook 7 = .ok (.sipush 128, 3) := by decide +kernel
theorem dX1_weighedBook_10 : decode cX1_weighedBook 10 = .ok (.if_icmp .ge 39, 3) := by decide +kernel
theorem dX1_weighedBook_13 : decode cX1_weighedBook 13 = .ok (.aload_n 1, 1) := by decide +kernel
theorem dX1_weighedBook_14 : decode cX1_weighedBook 14 = .ok (.getfield 29, 3) := by decide +kernel
theorem dX1_weighedBook_17 : decode cX1_weighedBook 17 = .ok (.iload 4, 2) := by decide +kernel
theorem dX1_weighedBook_19 : decode cX1_weighedBook 19 = .ok (.laload, 1) := by decide +kernel
theorem dX1_weighedBook_20 : decode cX1_weighedBook 20 = .ok (.lconst 0, 1) := by decide +kernel
theorem dX1_weighedBook_21 : decode cX1_weighedBook 21 = .ok (.lcmp, 1) := by decide +kernel
theorem dX1_weighedBook_22 : decode cX1_weighedBook 22 = .ok (.ifCond .le 21, 3) := by decide +kernel
theorem dX1_weighedBook_25 : decode cX1_weighedBook 25 = .ok (.lload_n 2, 1) := by decide +kernel
theorem dX1_weighedBook_26 : decode cX1_weighedBook 26 = .ok (.aload_n 1, 1) := by decide +kernel
theorem dX1_weighedBook_27 : decode cX1_weighedBook 27 = .ok (.getfield 29, 3) := by decide +kernel
theorem dX1_weighedBook_30 : decode cX1_weighedBook 30 = .ok (.iload 4, 2) := by decide +kernel
theorem dX1_weighedBook_32 : decode cX1_weighedBook 32 = .ok (.laload, 1) := by decide +kernel
theorem dX1_weighedBook_33 : decode cX1_weighedBook 33 = .ok (.aload_n 0, 1) := by decide +kernel
theorem dX1_weighedBook_34 : decode cX1_weighedBook 34 = .ok (.iload 4, 2) := by decide +kernel
theorem dX1_weighedBook_36 : decode cX1_weighedBook 36 = .ok (.invokestatic 35, 3) := by decide +kernel
theorem dX1_weighedBook_39 : decode cX1_weighedBook 39 = .ok (.i2l, 1) := by decide +kernel
theorem dX1_weighedBook_40 : decode cX1_weighedBook 40 = .ok (.lmul, 1) := by decide +kernel
theorem dX1_weighedBook_41 : decode cX1_weighedBook 41 = .ok (.ladd, 1) := by decide +kernel
theorem dX1_weighedBook_42 : decode cX1_weighedBook 42 = .ok (.lstore_n 2, 1) := by decide +kernel
theorem dX1_weighedBook_43 : decode cX1_weighedBook 43 = .ok (.iinc 4 1, 3) := by decide +kernel
theorem dX1_weighedBook_46 : decode cX1_weighedBook 46 = .ok (.goto (-41), 3) := by decide +kernel
theorem dX1_weighedBook_49 : decode cX1_weighedBook 49 = .ok (.lload_n 2, 1) := by decide +kernel
theorem dX1_weighedBook_50 : decode cX1_weighedBook 50 = .ok (.lreturn, 1) := by decide +kernel
set_option maxRecDepth 20000 in
theorem ggX1_weighedWorth_X7_gainIn : GoodIn wsX1_weighedWorth wsX7_gainIn := goodIn_r _ [8, 9, 10, 11, 12, 13, 14, 15, 16, 17, 18, 7, 19, 20, 21, 22, 23, 24, 25, 30, 31, 32, 33] (by decide +kernel) (by decide +kernel)
set_option maxRecDepth 20000 in
theorem gX1_weighedWorth_X7_gainIn_n42 : GoodIn wsX1_weighedWorth (wsX7_gainIn) := ggX1_weighedWorth_X7_gainIn
set_option maxRecDepth 20000 in
theorem ggX1_weighedWorth_X7_wasSo : GoodIn wsX1_weighedWorth wsX7_wasSo := goodIn_r _ [25] (by decide +kernel) (by decide +kernel)
set_option maxRecDepth 20000 in
theorem gX1_weighedWorth_X7_wasSo_n46 : GoodIn wsX1_weighedWorth (wsX7_wasSo) := ggX1_weighedWorth_X7_wasSo
theorem dX1_weighedWorth_0 : decode cX1_weighedWorth 0 = .ok (.lconst 0, 1) := by decide +kernel
theorem dX1_weighedWorth_1 : decode cX1_weighedWorth 1 = .ok (.lstore 4, 2) := by decide +kernel
theorem dX1_weighedWorth_3 : decode cX1_weighedWorth 3 = .ok (.lconst 0, 1) := by decide +kernel
theorem dX1_weighedWorth_4 : decode cX1_weighedWorth 4 = .ok (.lstore 6, 2) := by decide +kernel
theorem dX1_weighedWorth_6 : decode cX1_weighedWorth 6 = .ok (.iconst 0, 1) := by decide +kernel
theorem dX1_weighedWorth_7 : decode cX1_weighedWorth 7 = .ok (.istore 8, 2) := by decide +kernel
theorem dX1_weighedWorth_9 : decode cX1_weighedWorth 9 = .ok (.iload 8, 2) := by decide +kernel
theorem dX1_weighedWorth_11 : decode cX1_weighedWorth 11 = .ok (.sipush 128, 3) := by decide +kernel
theorem dX1_weighedWorth_14 : decode cX1_weighedWorth 14 = .ok (.if_icmp .ge 65, 3) := by decide +kernel
theorem dX1_weighedWorth_17 : decode cX1_weighedWorth 17 = .ok (.aload_n 3, 1) := by decide +kernel
theorem dX1_weighedWorth_18 : decode cX1_weighedWorth 18 = .ok (.getfield 29, 3) := by decide +kernel
theorem dX1_weighedWorth_21 : decode cX1_weighedWorth 21 = .ok (.iload 8, 2) := by decide +kernel
theorem dX1_weighedWorth_23 : decode cX1_weighedWorth 23 = .ok (.laload, 1) := by decide +kernel
theorem dX1_weighedWorth_24 : decode cX1_weighedWorth 24 = .ok (.lconst 0, 1) := by decide +kernel
theorem dX1_weighedWorth_25 : decode cX1_weighedWorth 25 = .ok (.lcmp, 1) := by decide +kernel
theorem dX1_weighedWorth_26 : decode cX1_weighedWorth 26 = .ok (.ifCond .le 47, 3) := by decide +kernel
theorem dX1_weighedWorth_29 : decode cX1_weighedWorth 29 = .ok (.aload_n 3, 1) := by decide +kernel
theorem dX1_weighedWorth_30 : decode cX1_weighedWorth 30 = .ok (.getfield 29, 3) := by decide +kernel
theorem dX1_weighedWorth_33 : decode cX1_weighedWorth 33 = .ok (.iload 8, 2) := by decide +kernel
theorem dX1_weighedWorth_35 : decode cX1_weighedWorth 35 = .ok (.laload, 1) := by decide +kernel
theorem dX1_weighedWorth_36 : decode cX1_weighedWorth 36 = .ok (.aload_n 0, 1) := by decide +kernel
theorem dX1_weighedWorth_37 : decode cX1_weighedWorth 37 = .ok (.iload_n 1, 1) := by decide +kernel
theorem dX1_weighedWorth_38 : decode cX1_weighedWorth 38 = .ok (.iload 8, 2) := by decide +kernel
theorem dX1_weighedWorth_40 : decode cX1_weighedWorth 40 = .ok (.invokestatic 42, 3) := by decide +kernel
theorem dX1_weighedWorth_43 : decode cX1_weighedWorth 43 = .ok (.i2l, 1) := by decide +kernel
theorem dX1_weighedWorth_44 : decode cX1_weighedWorth 44 = .ok (.lmul, 1) := by decide +kernel
theorem dX1_weighedWorth_45 : decode cX1_weighedWorth 45 = .ok (.lstore 9, 2) := by decide +kernel
theorem dX1_weighedWorth_47 : decode cX1_weighedWorth 47 = .ok (.iload 8, 2) := by decide +kernel
theorem dX1_weighedWorth_49 : decode cX1_weighedWorth 49 = .ok (.iload_n 2, 1) := by decide +kernel
theorem dX1_weighedWorth_50 : decode cX1_weighedWorth 50 = .ok (.invokestatic 46, 3) := by decide +kernel
theorem dX1_weighedWorth_53 : decode cX1_weighedWorth 53 = .ok (.ifCond .eq 13, 3) := by decide +kernel
theorem dX1_weighedWorth_56 : decode cX1_weighedWorth 56 = .ok (.lload 4, 2) := by decide +kernel
theorem dX1_weighedWorth_58 : decode cX1_weighedWorth 58 = .ok (.lload 9, 2) := by decide +kernel
theorem dX1_weighedWorth_60 : decode cX1_weighedWorth 60 = .ok (.ladd, 1) := by decide +kernel
theorem dX1_weighedWorth_61 : decode cX1_weighedWorth 61 = .ok (.lstore 4, 2) := by decide +kernel
theorem dX1_weighedWorth_63 : decode cX1_weighedWorth 63 = .ok (.goto 10, 3) := by decide +kernel
theorem dX1_weighedWorth_66 : decode cX1_weighedWorth 66 = .ok (.lload 6, 2) := by decide +kernel
theorem dX1_weighedWorth_68 : decode cX1_weighedWorth 68 = .ok (.lload 9, 2) := by decide +kernel
theorem dX1_weighedWorth_70 : decode cX1_weighedWorth 70 = .ok (.ladd, 1) := by decide +kernel
theorem dX1_weighedWorth_71 : decode cX1_weighedWorth 71 = .ok (.lstore 6, 2) := by decide +kernel
theorem dX1_weighedWorth_73 : decode cX1_weighedWorth 73 = .ok (.iinc 8 1, 3) := by decide +kernel
theorem dX1_weighedWorth_76 : decode cX1_weighedWorth 76 = .ok (.goto (-67), 3) := by decide +kernel
theorem dX1_weighedWorth_79 : decode cX1_weighedWorth 79 = .ok (.lconst 0, 1) := by decide +kernel
theorem dX1_weighedWorth_80 : decode cX1_weighedWorth 80 = .ok (.lload 4, 2) := by decide +kernel
theorem dX1_weighedWorth_82 : decode cX1_weighedWorth 82 = .ok (.invokestatic 50, 3) := by decide +kernel
theorem dX1_weighedWorth_85 : decode cX1_weighedWorth 85 = .ok (.lconst 0, 1) := by decide +kernel
theorem dX1_weighedWorth_86 : decode cX1_weighedWorth 86 = .ok (.lload 6, 2) := by decide +kernel
theorem dX1_weighedWorth_88 : decode cX1_weighedWorth 88 = .ok (.invokestatic 50, 3) := by decide +kernel
theorem dX1_weighedWorth_91 : decode cX1_weighedWorth 91 = .ok (.ladd, 1) := by decide +kernel
theorem dX1_weighedWorth_92 : decode cX1_weighedWorth 92 = .ok (.lconst 0, 1) := by decide +kernel
theorem dX1_weighedWorth_93 : decode cX1_weighedWorth 93 = .ok (.lload 4, 2) := by decide +kernel
theorem dX1_weighedWorth_95 : decode cX1_weighedWorth 95 = .ok (.lload 6, 2) := by decide +kernel
theorem dX1_weighedWorth_97 : decode cX1_weighedWorth 97 = .ok (.ladd, 1) := by decide +kernel
theorem dX1_weighedWorth_98 : decode cX1_weighedWorth 98 = .ok (.invokestatic 50, 3) := by decide +kernel
theorem dX1_weighedWorth_101 : decode cX1_weighedWorth 101 = .ok (.lsub, 1) := by decide +kernel
theorem dX1_weighedWorth_102 : decode cX1_weighedWorth 102 = .ok (.lreturn, 1) := by decide +kernel
set_option maxRecDepth 20000 in
theorem ggX1_bestDig_X1_weighedWorth : GoodIn wsX1_bestDig wsX1_weighedWorth := goodIn_r _ [4, 5, 6, 7, 8, 9, 10, 11, 12, 13, 14, 15, 16, 17, 18, 19, 20, 21, 22, 23, 24, 25, 26, 27, 28, 29, 30, 31, 32, 33, 34, 35, 36, 37] (by decide +kernel) (by decide +kernel)
set_option maxRecDepth 20000 in
theorem gX1_bestDig_X1_weighedWorth : GoodIn wsX1_bestDig (va_wsS RX1 56 yX1_weighedWorth wsX1_weighedWorth) := goodIn_app (goodIn_of _ (by decide +kernel)) ggX1_bestDig_X1_weighedWorth
theorem dX1_bestDig_0 : decode cX1_bestDig 0 = .ok (.iconst 0, 1) := by decide +kernel
theorem dX1_bestDig_1 : decode cX1_bestDig 1 = .ok (.istore_n 3, 1) := by decide +kernel
theorem dX1_bestDig_2 : decode cX1_bestDig 2 = .ok (.aload_n 0, 1) := by decide +kernel
theorem dX1_bestDig_3 : decode cX1_bestDig 3 = .ok (.iload_n 1, 1) := by decide +kernel
theorem dX1_bestDig_4 : decode cX1_bestDig 4 = .ok (.iconst 0, 1) := by decide +kernel
theorem dX1_bestDig_5 : decode cX1_bestDig 5 = .ok (.aload_n 2, 1) := by decide +kernel
theorem dX1_bestDig_6 : decode cX1_bestDig 6 = .ok (.invokestatic 56, 3) := by decide +kernel
theorem dX1_bestDig_9 : decode cX1_bestDig 9 = .ok (.lstore 4, 2) := by decide +kernel
theorem dX1_bestDig_11 : decode cX1_bestDig 11 = .ok (.iconst 1, 1) := by decide +kernel
theorem dX1_bestDig_12 : decode cX1_bestDig 12 = .ok (.istore 6, 2) := by decide +kernel
theorem dX1_bestDig_14 : decode cX1_bestDig 14 = .ok (.iload 6, 2) := by decide +kernel
theorem dX1_bestDig_16 : decode cX1_bestDig 16 = .ok (.bipush 7, 2) := by decide +kernel
theorem dX1_bestDig_18 : decode cX1_bestDig 18 = .ok (.if_icmp .ge 34, 3) := by decide +kernel
theorem dX1_bestDig_21 : decode cX1_bestDig 21 = .ok (.aload_n 0, 1) := by decide +kernel
theorem dX1_bestDig_22 : decode cX1_bestDig 22 = .ok (.iload_n 1, 1) := by decide +kernel
theorem dX1_bestDig_23 : decode cX1_bestDig 23 = .ok (.iload 6, 2) := by decide +kernel
theorem dX1_bestDig_25 : decode cX1_bestDig 25 = .ok (.aload_n 2, 1) := by decide +kernel
theorem dX1_bestDig_26 : decode cX1_bestDig 26 = .ok (.invokestatic 56, 3) := by decide +kernel
theorem dX1_bestDig_29 : decode cX1_bestDig 29 = .ok (.lstore 7, 2) := by decide +kernel
theorem dX1_bestDig_31 : decode cX1_bestDig 31 = .ok (.lload 7, 2) := by decide +kernel
theorem dX1_bestDig_33 : decode cX1_bestDig 33 = .ok (.lload 4, 2) := by decide +kernel
theorem dX1_bestDig_35 : decode cX1_bestDig 35 = .ok (.lcmp, 1) := by decide +kernel
theorem dX1_bestDig_36 : decode cX1_bestDig 36 = .ok (.ifCond .le 10, 3) := by decide +kernel
theorem dX1_bestDig_39 : decode cX1_bestDig 39 = .ok (.lload 7, 2) := by decide +kernel
theorem dX1_bestDig_41 : decode cX1_bestDig 41 = .ok (.lstore 4, 2) := by decide +kernel
theorem dX1_bestDig_43 : decode cX1_bestDig 43 = .ok (.iload 6, 2) := by decide +kernel
theorem dX1_bestDig_45 : decode cX1_bestDig 45 = .ok (.istore_n 3, 1) := by decide +kernel
theorem dX1_bestDig_46 : decode cX1_bestDig 46 = .ok (.iinc 6 1, 3) := by decide +kernel
theorem dX1_bestDig_49 : decode cX1_bestDig 49 = .ok (.goto (-35), 3) := by decide +kernel
theorem dX1_bestDig_52 : decode cX1_bestDig 52 = .ok (.iload_n 3, 1) := by decide +kernel
theorem dX1_bestDig_53 : decode cX1_bestDig 53 = .ok (.ireturn, 1) := by decide +kernel
set_option maxRecDepth 20000 in
theorem ggX1_seekSure_X1_listHeldSets : GoodIn wsX1_seekSure wsX1_listHeldSets := goodIn_r _ [16, 17, 3, 18, 19, 20, 21, 15, 22, 4, 23, 24, 25, 26, 27, 28, 29, 30, 31, 32, 33, 34, 35, 36, 37, 38, 39, 59, 60, 61, 62, 63, 64, 65, 66, 67, 72, 73, 74, 75, 68, 69, 70, 71] (by decide +kernel) (by decide +kernel)
set_option maxRecDepth 20000 in
theorem gX1_seekSure_X1_listHeldSets : GoodIn wsX1_seekSure (wsV RX1 66 RX1 yX1_listHeldSets wsX1_listHeldSets) := goodIn_app (goodIn_of _ (by decide +kernel)) ggX1_seekSure_X1_listHeldSets
set_option maxRecDepth 20000 in
theorem ggX1_seekSure_X1_sumSets : GoodIn wsX1_seekSure wsX1_sumSets := goodIn_r _ [43, 44, 45, 4, 46, 27, 28, 29, 30, 31, 32, 33, 59, 60, 61, 62, 63, 64, 65, 66, 67, 68, 69, 70, 71] (by decide +kernel) (by decide +kernel)
set_option maxRecDepth 20000 in
theorem gX1_seekSure_X1_sumSets : GoodIn wsX1_seekSure (wsV RX1 73 RX1 yX1_sumSets wsX1_sumSets) := goodIn_app (goodIn_of _ (by decide +kernel)) ggX1_seekSure_X1_sumSets
set_option maxRecDepth 20000 in
theorem ggX1_seekSure_X1_leastWin : GoodIn wsX1_seekSure wsX1_leastWin := goodIn_r _ [50, 51, 3, 19, 44, 45, 5, 6, 7, 8, 59, 60, 61, 62, 63, 64, 65, 66, 67] (by decide +kernel) (by decide +kernel)
set_option maxRecDepth 20000 in
theorem gX1_seekSure_X1_leastWin : GoodIn wsX1_seekSure (wsV RX1 88 RX1 yX1_leastWin wsX1_leastWin) := goodIn_app (goodIn_of _ (by decide +kernel)) ggX1_seekSure_X1_leastWin
set_option maxRecDepth 20000 in
theorem ggX1_seekSure_J6_bitCount_0f7a4 : GoodIn wsX1_seekSure wsJ6_bitCount_0f7a4 := goodIn_r _ [55, 56, 57, 58] (by decide +kernel) (by decide +kernel)
set_option maxRecDepth 20000 in
theorem gX1_seekSure_J6_bitCount_0f7a4 : GoodIn wsX1_seekSure (va_wsS RX1 91 yJ6_bitCount_0f7a4 wsJ6_bitCount_0f7a4) := goodIn_app (goodIn_of _ (by decide +kernel)) ggX1_seekSure_J6_bitCount_0f7a4
theorem dX1_seekSure_0 : decode cX1_seekSure 0 = .ok (.aload_n 0, 1) := by decide +kernel
theorem dX1_seekSure_1 : decode cX1_seekSure 1 = .ok (.iconst 0, 1) := by decide +kernel
theorem dX1_seekSure_2 : decode cX1_seekSure 2 = .ok (.putfield 60, 3) := by decide +kernel
theorem dX1_seekSure_5 : decode cX1_seekSure 5 = .ok (.aload_n 0, 1) := by decide +kernel
theorem dX1_seekSure_6 : decode cX1_seekSure 6 = .ok (.iconst 0, 1) := by decide +kernel
theorem dX1_seekSure_7 : decode cX1_seekSure 7 = .ok (.putfield 63, 3) := by decide +kernel
theorem dX1_seekSure_10 : decode cX1_seekSure 10 = .ok (.aload_n 0, 1) := by decide +kernel
theorem dX1_seekSure_11 : decode cX1_seekSure 11 = .ok (.aload_n 1, 1) := by decide +kernel
theorem dX1_seekSure_12 : decode cX1_seekSure 12 = .ok (.aload_n 2, 1) := by decide +kernel
theorem dX1_seekSure_13 : decode cX1_seekSure 13 = .ok (.invokevirtual 66, 3) := by decide +kernel
theorem dX1_seekSure_16 : decode cX1_seekSure 16 = .ok (.aload_n 0, 1) := by decide +kernel
theorem dX1_seekSure_17 : decode cX1_seekSure 17 = .ok (.getfield 70, 3) := by decide +kernel
theorem dX1_seekSure_20 : decode cX1_seekSure 20 = .ok (.ifCond .ne 4, 3) := by decide +kernel
theorem dX1_seekSure_23 : decode cX1_seekSure 23 = .ok (.return_, 1) := by decide +kernel
theorem dX1_seekSure_24 : decode cX1_seekSure 24 = .ok (.aload_n 0, 1) := by decide +kernel
theorem dX1_seekSure_25 : decode cX1_seekSure 25 = .ok (.aload_n 1, 1) := by decide +kernel
theorem dX1_seekSure_26 : decode cX1_seekSure 26 = .ok (.invokevirtual 73, 3) := by decide +kernel
theorem dX1_seekSure_29 : decode cX1_seekSure 29 = .ok (.sipush 256, 3) := by decide +kernel
theorem dX1_seekSure_32 : decode cX1_seekSure 32 = .ok (.iconst 1, 1) := by decide +kernel
theorem dX1_seekSure_33 : decode cX1_seekSure 33 = .ok (.aload_n 1, 1) := by decide +kernel
theorem dX1_seekSure_34 : decode cX1_seekSure 34 = .ok (.getfield 77, 3) := by decide +kernel
theorem dX1_seekSure_37 : decode cX1_seekSure 37 = .ok (.ishl, 1) := by decide +kernel
theorem dX1_seekSure_38 : decode cX1_seekSure 38 = .ok (.invokestatic 82, 3) := by decide +kernel
theorem dX1_seekSure_41 : decode cX1_seekSure 41 = .ok (.istore_n 3, 1) := by decide +kernel
theorem dX1_seekSure_42 : decode cX1_seekSure 42 = .ok (.iconst 1, 1) := by decide +kernel
theorem dX1_seekSure_43 : decode cX1_seekSure 43 = .ok (.istore 4, 2) := by decide +kernel
theorem dX1_seekSure_45 : decode cX1_seekSure 45 = .ok (.iload 4, 2) := by decide +kernel
theorem dX1_seekSure_47 : decode cX1_seekSure 47 = .ok (.iload_n 3, 1) := by decide +kernel
theorem dX1_seekSure_48 : decode cX1_seekSure 48 = .ok (.if_icmp .ge 82, 3) := by decide +kernel
theorem dX1_seekSure_51 : decode cX1_seekSure 51 = .ok (.aload_n 0, 1) := by decide +kernel
theorem dX1_seekSure_52 : decode cX1_seekSure 52 = .ok (.iload 4, 2) := by decide +kernel
theorem dX1_seekSure_54 : decode cX1_seekSure 54 = .ok (.iconst 1, 1) := by decide +kernel
theorem dX1_seekSure_55 : decode cX1_seekSure 55 = .ok (.aload_n 0, 1) := by decide +kernel
theorem dX1_seekSure_56 : decode cX1_seekSure 56 = .ok (.getfield 63, 3) := by decide +kernel
theorem dX1_seekSure_59 : decode cX1_seekSure 59 = .ok (.invokestatic 86, 3) := by decide +kernel
theorem dX1_seekSure_62 : decode cX1_seekSure 62 = .ok (.invokevirtual 88, 3) := by decide +kernel
theorem dX1_seekSure_65 : decode cX1_seekSure 65 = .ok (.istore 5, 2) := by decide +kernel
theorem dX1_seekSure_67 : decode cX1_seekSure 67 = .ok (.iload 4, 2) := by decide +kernel
theorem dX1_seekSure_69 : decode cX1_seekSure 69 = .ok (.invokestatic 91, 3) := by decide +kernel
theorem dX1_seekSure_72 : decode cX1_seekSure 72 = .ok (.aload_n 0, 1) := by decide +kernel
theorem dX1_seekSure_73 : decode cX1_seekSure 73 = .ok (.getfield 60, 3) := by decide +kernel
theorem dX1_seekSure_76 : decode cX1_seekSure 76 = .ok (.invokestatic 91, 3) := by decide +kernel
theorem dX1_seekSure_79 : decode cX1_seekSure 79 = .ok (.if_icmp .ge 7, 3) := by decide +kernel
theorem dX1_seekSure_82 : decode cX1_seekSure 82 = .ok (.iconst 1, 1) := by decide +kernel
theorem dX1_seekSure_83 : decode cX1_seekSure 83 = .ok (.goto 4, 3) := by decide +kernel
theorem dX1_seekSure_86 : decode cX1_seekSure 86 = .ok (.iconst 0, 1) := by decide +kernel
theorem dX1_seekSure_87 : decode cX1_seekSure 87 = .ok (.istore 6, 2) := by decide +kernel
theorem dX1_seekSure_89 : decode cX1_seekSure 89 = .ok (.iload 5, 2) := by decide +kernel
theorem dX1_seekSure_91 : decode cX1_seekSure 91 = .ok (.aload_n 0, 1) := by decide +kernel
theorem dX1_seekSure_92 : decode cX1_seekSure 92 = .ok (.getfield 63, 3) := by decide +kernel
theorem dX1_seekSure_95 : decode cX1_seekSure 95 = .ok (.if_icmp .gt 17, 3) := by decide +kernel
theorem dX1_seekSure_98 : decode cX1_seekSure 98 = .ok (.iload 5, 2) := by decide +kernel
theorem dX1_seekSure_100 : decode cX1_seekSure 100 = .ok (.aload_n 0, 1) := by decide +kernel
theorem dX1_seekSure_101 : decode cX1_seekSure 101 = .ok (.getfield 63, 3) := by decide +kernel
theorem dX1_seekSure_104 : decode cX1_seekSure 104 = .ok (.if_icmp .ne 20, 3) := by decide +kernel
theorem dX1_seekSure_107 : decode cX1_seekSure 107 = .ok (.iload 6, 2) := by decide +kernel
theorem dX1_seekSure_109 : decode cX1_seekSure 109 = .ok (.ifCond .eq 15, 3) := by decide +kernel
theorem dX1_seekSure_112 : decode cX1_seekSure 112 = .ok (.aload_n 0, 1) := by decide +kernel
theorem dX1_seekSure_113 : decode cX1_seekSure 113 = .ok (.iload 4, 2) := by decide +kernel
theorem dX1_seekSure_115 : decode cX1_seekSure 115 = .ok (.putfield 60, 3) := by decide +kernel
theorem dX1_seekSure_118 : decode cX1_seekSure 118 = .ok (.aload_n 0, 1) := by decide +kernel
theorem dX1_seekSure_119 : decode cX1_seekSure 119 = .ok (.iload 5, 2) := by decide +kernel
theorem dX1_seekSure_121 : decode cX1_seekSure 121 = .ok (.putfield 63, 3) := by decide +kernel
theorem dX1_seekSure_124 : decode cX1_seekSure 124 = .ok (.iinc 4 1, 3) := by decide +kernel
theorem dX1_seekSure_127 : decode cX1_seekSure 127 = .ok (.goto (-82), 3) := by decide +kernel
theorem dX1_seekSure_130 : decode cX1_seekSure 130 = .ok (.return_, 1) := by decide +kernel
set_option maxRecDepth 20000 in
theorem ggX1_listHeldSets_X1_heldSet : GoodIn wsX1_listHeldSets wsX1_heldSet := goodIn_r _ [8, 9, 10, 11, 12, 13, 14, 15, 16, 17, 18, 19, 20, 21, 22, 23, 24, 25, 26, 40, 41, 42, 43] (by decide +kernel) (by decide +kernel)
set_option maxRecDepth 20000 in
theorem gX1_listHeldSets_X1_heldSet : GoodIn wsX1_listHeldSets (va_wsS RX1 97 yX1_heldSet wsX1_heldSet) := goodIn_app (goodIn_of _ (by decide +kernel)) ggX1_listHeldSets_X1_heldSet
theorem dX1_listHeldSets_0 : decode cX1_listHeldSets 0 = .ok (.iconst 0, 1) := by decide +kernel
theorem dX1_listHeldSets_1 : decode cX1_listHeldSets 1 = .ok (.istore_n 3, 1) := by decide +kernel
theorem dX1_listHeldSets_2 : decode cX1_listHeldSets 2 = .ok (.iload_n 3, 1) := by decide +kernel
theorem dX1_listHeldSets_3 : decode cX1_listHeldSets 3 = .ok (.sipush 256, 3) := by decide +kernel
theorem dX1_listHeldSets_6 : decode cX1_listHeldSets 6 = .ok (.if_icmp .ge 16, 3) := by decide +kernel
theorem dX1_listHeldSets_9 : decode cX1_listHeldSets 9 = .ok (.aload_n 0, 1) := by decide +kernel
theorem dX1_listHeldSets_10 : decode cX1_listHeldSets 10 = .ok (.getfield 11, 3) := by decide +kernel
theorem dX1_listHeldSets_13 : decode cX1_listHeldSets 13 = .ok (.iload_n 3, 1) := by decide +kernel
theorem dX1_listHeldSets_14 : decode cX1_listHeldSets 14 = .ok (.iconst 0, 1) := by decide +kernel
theorem dX1_listHeldSets_15 : decode cX1_listHeldSets 15 = .ok (.bastore, 1) := by decide +kernel
theorem dX1_listHeldSets_16 : decode cX1_listHeldSets 16 = .ok (.iinc 3 1, 3) := by decide +kernel
theorem dX1_listHeldSets_19 : decode cX1_listHeldSets 19 = .ok (.goto (-17), 3) := by decide +kernel
theorem dX1_listHeldSets_22 : decode cX1_listHeldSets 22 = .ok (.aload_n 0, 1) := by decide +kernel
theorem dX1_listHeldSets_23 : decode cX1_listHeldSets 23 = .ok (.iconst 0, 1) := by decide +kernel
theorem dX1_listHeldSets_24 : decode cX1_listHeldSets 24 = .ok (.putfield 70, 3) := by decide +kernel
theorem dX1_listHeldSets_27 : decode cX1_listHeldSets 27 = .ok (.iconst 0, 1) := by decide +kernel
theorem dX1_listHeldSets_28 : decode cX1_listHeldSets 28 = .ok (.istore_n 3, 1) := by decide +kernel
theorem dX1_listHeldSets_29 : decode cX1_listHeldSets 29 = .ok (.iload_n 3, 1) := by decide +kernel
theorem dX1_listHeldSets_30 : decode cX1_listHeldSets 30 = .ok (.sipush 128, 3) := by decide +kernel
theorem dX1_listHeldSets_33 : decode cX1_listHeldSets 33 = .ok (.if_icmp .ge 66, 3) := by decide +kernel
theorem dX1_listHeldSets_36 : decode cX1_listHeldSets 36 = .ok (.aload_n 2, 1) := by decide +kernel
theorem dX1_listHeldSets_37 : decode cX1_listHeldSets 37 = .ok (.getfield 29, 3) := by decide +kernel
theorem dX1_listHeldSets_40 : decode cX1_listHeldSets 40 = .ok (.iload_n 3, 1) := by decide +kernel
theorem dX1_listHeldSets_41 : decode cX1_listHeldSets 41 = .ok (.laload, 1) := by decide +kernel
theorem dX1_listHeldSets_42 : decode cX1_listHeldSets 42 = .ok (.lconst 0, 1) := by decide +kernel
theorem dX1_listHeldSets_43 : decode cX1_listHeldSets 43 = .ok (.lcmp, 1) := by decide +kernel
theorem dX1_listHeldSets_44 : decode cX1_listHeldSets 44 = .ok (.ifCond .le 49, 3) := by decide +kernel
theorem dX1_listHeldSets_47 : decode cX1_listHeldSets 47 = .ok (.aload_n 1, 1) := by decide +kernel
theorem dX1_listHeldSets_48 : decode cX1_listHeldSets 48 = .ok (.iload_n 3, 1) := by decide +kernel
theorem dX1_listHeldSets_49 : decode cX1_listHeldSets 49 = .ok (.invokestatic 97, 3) := by decide +kernel
theorem dX1_listHeldSets_52 : decode cX1_listHeldSets 52 = .ok (.istore 4, 2) := by decide +kernel
theorem dX1_listHeldSets_54 : decode cX1_listHeldSets 54 = .ok (.aload_n 0, 1) := by decide +kernel
theorem dX1_listHeldSets_55 : decode cX1_listHeldSets 55 = .ok (.getfield 11, 3) := by decide +kernel
theorem dX1_listHeldSets_58 : decode cX1_listHeldSets 58 = .ok (.iload 4, 2) := by decide +kernel
theorem dX1_listHeldSets_60 : decode cX1_listHeldSets 60 = .ok (.baload, 1) := by decide +kernel
theorem dX1_listHeldSets_61 : decode cX1_listHeldSets 61 = .ok (.ifCond .ne 32, 3) := by decide +kernel
theorem dX1_listHeldSets_64 : decode cX1_listHeldSets 64 = .ok (.aload_n 0, 1) := by decide +kernel
theorem dX1_listHeldSets_65 : decode cX1_listHeldSets 65 = .ok (.getfield 11, 3) := by decide +kernel
theorem dX1_listHeldSets_68 : decode cX1_listHeldSets 68 = .ok (.iload 4, 2) := by decide +kernel
theorem dX1_listHeldSets_70 : decode cX1_listHeldSets 70 = .ok (.iconst 1, 1) := by decide +kernel
theorem dX1_listHeldSets_71 : decode cX1_listHeldSets 71 = .ok (.bastore, 1) := by decide +kernel
theorem dX1_listHeldSets_72 : decode cX1_listHeldSets 72 = .ok (.aload_n 0, 1) := by decide +kernel
theorem dX1_listHeldSets_73 : decode cX1_listHeldSets 73 = .ok (.getfield 15, 3) := by decide +kernel
theorem dX1_listHeldSets_76 : decode cX1_listHeldSets 76 = .ok (.aload_n 0, 1) := by decide +kernel
theorem dX1_listHeldSets_77 : decode cX1_listHeldSets 77 = .ok (.getfield 70, 3) := by decide +kernel
theorem dX1_listHeldSets_80 : decode cX1_listHeldSets 80 = .ok (.iload 4, 2) := by decide +kernel
theorem dX1_listHeldSets_82 : decode cX1_listHeldSets 82 = .ok (.iastore, 1) := by decide +kernel
theorem dX1_listHeldSets_83 : decode cX1_listHeldSets 83 = .ok (.aload_n 0, 1) := by decide +kernel
theorem dX1_listHeldSets_84 : decode cX1_listHeldSets 84 = .ok (.dup, 1) := by decide +kernel
theorem dX1_listHeldSets_85 : decode cX1_listHeldSets 85 = .ok (.getfield 70, 3) := by decide +kernel
theorem dX1_listHeldSets_88 : decode cX1_listHeldSets 88 = .ok (.iconst 1, 1) := by decide +kernel
theorem dX1_listHeldSets_89 : decode cX1_listHeldSets 89 = .ok (.iadd, 1) := by decide +kernel
theorem dX1_listHeldSets_90 : decode cX1_listHeldSets 90 = .ok (.putfield 70, 3) := by decide +kernel
theorem dX1_listHeldSets_93 : decode cX1_listHeldSets 93 = .ok (.iinc 3 1, 3) := by decide +kernel
theorem dX1_listHeldSets_96 : decode cX1_listHeldSets 96 = .ok (.goto (-67), 3) := by decide +kernel
theorem dX1_listHeldSets_99 : decode cX1_listHeldSets 99 = .ok (.return_, 1) := by decide +kernel
set_option maxRecDepth 20000 in
theorem ggX1_heldSet_X7_betHolds : GoodIn wsX1_heldSet wsX7_betHolds := goodIn_r _ [4, 5, 6, 7, 8, 9, 10, 11, 12, 13, 14, 3, 15, 16, 17, 18, 19, 20, 21, 22] (by decide +kernel) (by decide +kernel)
set_option maxRecDepth 20000 in
theorem gX1_heldSet_X7_betHolds_n100 : GoodIn wsX1_heldSet (wsX7_betHolds) := ggX1_heldSet_X7_betHolds
theorem dX1_heldSet_0 : decode cX1_heldSet 0 = .ok (.iconst 0, 1) := by decide +kernel
theorem dX1_heldSet_1 : decode cX1_heldSet 1 = .ok (.istore_n 2, 1) := by decide +kernel
theorem dX1_heldSet_2 : decode cX1_heldSet 2 = .ok (.iconst 0, 1) := by decide +kernel
theorem dX1_heldSet_3 : decode cX1_heldSet 3 = .ok (.istore_n 3, 1) := by decide +kernel
theorem dX1_heldSet_4 : decode cX1_heldSet 4 = .ok (.iload_n 3, 1) := by decide +kernel
theorem dX1_heldSet_5 : decode cX1_heldSet 5 = .ok (.aload_n 0, 1) := by decide +kernel
theorem dX1_heldSet_6 : decode cX1_heldSet 6 = .ok (.getfield 77, 3) := by decide +kernel
theorem dX1_heldSet_9 : decode cX1_heldSet 9 = .ok (.if_icmp .ge 30, 3) := by decide +kernel
theorem dX1_heldSet_12 : decode cX1_heldSet 12 = .ok (.iload_n 3, 1) := by decide +kernel
theorem dX1_heldSet_13 : decode cX1_heldSet 13 = .ok (.bipush 8, 2) := by decide +kernel
theorem dX1_heldSet_15 : decode cX1_heldSet 15 = .ok (.if_icmp .ge 24, 3) := by decide +kernel
theorem dX1_heldSet_18 : decode cX1_heldSet 18 = .ok (.aload_n 0, 1) := by decide +kernel
theorem dX1_heldSet_19 : decode cX1_heldSet 19 = .ok (.iload_n 3, 1) := by decide +kernel
theorem dX1_heldSet_20 : decode cX1_heldSet 20 = .ok (.iload_n 1, 1) := by decide +kernel
theorem dX1_heldSet_21 : decode cX1_heldSet 21 = .ok (.invokestatic 100, 3) := by decide +kernel
theorem dX1_heldSet_24 : decode cX1_heldSet 24 = .ok (.ifCond .eq 9, 3) := by decide +kernel
theorem dX1_heldSet_27 : decode cX1_heldSet 27 = .ok (.iload_n 2, 1) := by decide +kernel
theorem dX1_heldSet_28 : decode cX1_heldSet 28 = .ok (.iconst 1, 1) := by decide +kernel
theorem dX1_heldSet_29 : decode cX1_heldSet 29 = .ok (.iload_n 3, 1) := by decide +kernel
theorem dX1_heldSet_30 : decode cX1_heldSet 30 = .ok (.ishl, 1) := by decide +kernel
theorem dX1_heldSet_31 : decode cX1_heldSet 31 = .ok (.ior, 1) := by decide +kernel
theorem dX1_heldSet_32 : decode cX1_heldSet 32 = .ok (.istore_n 2, 1) := by decide +kernel
theorem dX1_heldSet_33 : decode cX1_heldSet 33 = .ok (.iinc 3 1, 3) := by decide +kernel
theorem dX1_heldSet_36 : decode cX1_heldSet 36 = .ok (.goto (-32), 3) := by decide +kernel
theorem dX1_heldSet_39 : decode cX1_heldSet 39 = .ok (.iload_n 2, 1) := by decide +kernel
theorem dX1_heldSet_40 : decode cX1_heldSet 40 = .ok (.ireturn, 1) := by decide +kernel
set_option maxRecDepth 20000 in
theorem ggX1_sumSets_X6_cell : GoodIn wsX1_sumSets wsX6_cell := goodIn_r _ [8, 9, 10, 11, 21, 22, 23, 24] (by decide +kernel) (by decide +kernel)
set_option maxRecDepth 20000 in
theorem gX1_sumSets_X6_cell : GoodIn wsX1_sumSets (wsV RX1 104 RX6 yX6_cell wsX6_cell) := goodIn_app (goodIn_of _ (by decide +kernel)) ggX1_sumSets_X6_cell
theorem dX1_sumSets_0 : decode cX1_sumSets 0 = .ok (.aload_n 0, 1) := by decide +kernel
theorem dX1_sumSets_1 : decode cX1_sumSets 1 = .ok (.getfield 19, 3) := by decide +kernel
theorem dX1_sumSets_4 : decode cX1_sumSets 4 = .ok (.iconst 0, 1) := by decide +kernel
theorem dX1_sumSets_5 : decode cX1_sumSets 5 = .ok (.iconst 0, 1) := by decide +kernel
theorem dX1_sumSets_6 : decode cX1_sumSets 6 = .ok (.iastore, 1) := by decide +kernel
theorem dX1_sumSets_7 : decode cX1_sumSets 7 = .ok (.aload_n 0, 1) := by decide +kernel
theorem dX1_sumSets_8 : decode cX1_sumSets 8 = .ok (.getfield 22, 3) := by decide +kernel
theorem dX1_sumSets_11 : decode cX1_sumSets 11 = .ok (.iconst 0, 1) := by decide +kernel
theorem dX1_sumSets_12 : decode cX1_sumSets 12 = .ok (.iconst 0, 1) := by decide +kernel
theorem dX1_sumSets_13 : decode cX1_sumSets 13 = .ok (.iastore, 1) := by decide +kernel
theorem dX1_sumSets_14 : decode cX1_sumSets 14 = .ok (.iconst 0, 1) := by decide +kernel
theorem dX1_sumSets_15 : decode cX1_sumSets 15 = .ok (.istore_n 2, 1) := by decide +kernel
theorem dX1_sumSets_16 : decode cX1_sumSets 16 = .ok (.iload_n 2, 1) := by decide +kernel
theorem dX1_sumSets_17 : decode cX1_sumSets 17 = .ok (.aload_n 1, 1) := by decide +kernel
theorem dX1_sumSets_18 : decode cX1_sumSets 18 = .ok (.getfield 77, 3) := by decide +kernel
theorem dX1_sumSets_21 : decode cX1_sumSets 21 = .ok (.if_icmp .ge 92, 3) := by decide +kernel
theorem dX1_sumSets_24 : decode cX1_sumSets 24 = .ok (.iload_n 2, 1) := by decide +kernel
theorem dX1_sumSets_25 : decode cX1_sumSets 25 = .ok (.bipush 8, 2) := by decide +kernel
theorem dX1_sumSets_27 : decode cX1_sumSets 27 = .ok (.if_icmp .ge 86, 3) := by decide +kernel
theorem dX1_sumSets_30 : decode cX1_sumSets 30 = .ok (.aload_n 1, 1) := by decide +kernel
theorem dX1_sumSets_31 : decode cX1_sumSets 31 = .ok (.iload_n 2, 1) := by decide +kernel
theorem dX1_sumSets_32 : decode cX1_sumSets 32 = .ok (.iconst 3, 1) := by decide +kernel
theorem dX1_sumSets_33 : decode cX1_sumSets 33 = .ok (.invokevirtual 104, 3) := by decide +kernel
theorem dX1_sumSets_36 : decode cX1_sumSets 36 = .ok (.istore_n 3, 1) := by decide +kernel
theorem dX1_sumSets_37 : decode cX1_sumSets 37 = .ok (.iload_n 3, 1) := by decide +kernel
theorem dX1_sumSets_38 : decode cX1_sumSets 38 = .ok (.aload_n 1, 1) := by decide +kernel
theorem dX1_sumSets_39 : decode cX1_sumSets 39 = .ok (.iload_n 2, 1) := by decide +kernel
theorem dX1_sumSets_40 : decode cX1_sumSets 40 = .ok (.iconst 4, 1) := by decide +kernel
theorem dX1_sumSets_41 : decode cX1_sumSets 41 = .ok (.invokevirtual 104, 3) := by decide +kernel
theorem dX1_sumSets_44 : decode cX1_sumSets 44 = .ok (.imul, 1) := by decide +kernel
theorem dX1_sumSets_45 : decode cX1_sumSets 45 = .ok (.istore 4, 2) := by decide +kernel
theorem dX1_sumSets_47 : decode cX1_sumSets 47 = .ok (.iconst 1, 1) := by decide +kernel
theorem dX1_sumSets_48 : decode cX1_sumSets 48 = .ok (.iload_n 2, 1) := by decide +kernel
theorem dX1_sumSets_49 : decode cX1_sumSets 49 = .ok (.ishl, 1) := by decide +kernel
theorem dX1_sumSets_50 : decode cX1_sumSets 50 = .ok (.istore 5, 2) := by decide +kernel
theorem dX1_sumSets_52 : decode cX1_sumSets 52 = .ok (.iconst 0, 1) := by decide +kernel
theorem dX1_sumSets_53 : decode cX1_sumSets 53 = .ok (.istore 6, 2) := by decide +kernel
theorem dX1_sumSets_55 : decode cX1_sumSets 55 = .ok (.iload 6, 2) := by decide +kernel
theorem dX1_sumSets_57 : decode cX1_sumSets 57 = .ok (.iload 5, 2) := by decide +kernel
theorem dX1_sumSets_59 : decode cX1_sumSets 59 = .ok (.if_icmp .ge 48, 3) := by decide +kernel
theorem dX1_sumSets_62 : decode cX1_sumSets 62 = .ok (.aload_n 0, 1) := by decide +kernel
theorem dX1_sumSets_63 : decode cX1_sumSets 63 = .ok (.getfield 19, 3) := by decide +kernel
theorem dX1_sumSets_66 : decode cX1_sumSets 66 = .ok (.iload 6, 2) := by decide +kernel
theorem dX1_sumSets_68 : decode cX1_sumSets 68 = .ok (.iload 5, 2) := by decide +kernel
theorem dX1_sumSets_70 : decode cX1_sumSets 70 = .ok (.iadd, 1) := by decide +kernel
theorem dX1_sumSets_71 : decode cX1_sumSets 71 = .ok (.aload_n 0, 1) := by decide +kernel
theorem dX1_sumSets_72 : decode cX1_sumSets 72 = .ok (.getfield 19, 3) := by decide +kernel
theorem dX1_sumSets_75 : decode cX1_sumSets 75 = .ok (.iload 6, 2) := by decide +kernel
theorem dX1_sumSets_77 : decode cX1_sumSets 77 = .ok (.iaload, 1) := by decide +kernel
theorem dX1_sumSets_78 : decode cX1_sumSets 78 = .ok (.iload 4, 2) := by decide +kernel
theorem dX1_sumSets_80 : decode cX1_sumSets 80 = .ok (.iadd, 1) := by decide +kernel
theorem dX1_sumSets_81 : decode cX1_sumSets 81 = .ok (.iastore, 1) := by decide +kernel
theorem dX1_sumSets_82 : decode cX1_sumSets 82 = .ok (.aload_n 0, 1) := by decide +kernel
theorem dX1_sumSets_83 : decode cX1_sumSets 83 = .ok (.getfield 22, 3) := by decide +kernel
theorem dX1_sumSets_86 : decode cX1_sumSets 86 = .ok (.iload 6, 2) := by decide +kernel
theorem dX1_sumSets_88 : decode cX1_sumSets 88 = .ok (.iload 5, 2) := by decide +kernel
theorem dX1_sumSets_90 : decode cX1_sumSets 90 = .ok (.iadd, 1) := by decide +kernel
theorem dX1_sumSets_91 : decode cX1_sumSets 91 = .ok (.aload_n 0, 1) := by decide +kernel
theorem dX1_sumSets_92 : decode cX1_sumSets 92 = .ok (.getfield 22, 3) := by decide +kernel
theorem dX1_sumSets_95 : decode cX1_sumSets 95 = .ok (.iload 6, 2) := by decide +kernel
theorem dX1_sumSets_97 : decode cX1_sumSets 97 = .ok (.iaload, 1) := by decide +kernel
theorem dX1_sumSets_98 : decode cX1_sumSets 98 = .ok (.iload_n 3, 1) := by decide +kernel
theorem dX1_sumSets_99 : decode cX1_sumSets 99 = .ok (.iadd, 1) := by decide +kernel
theorem dX1_sumSets_100 : decode cX1_sumSets 100 = .ok (.iastore, 1) := by decide +kernel
theorem dX1_sumSets_101 : decode cX1_sumSets 101 = .ok (.iinc 6 1, 3) := by decide +kernel
theorem dX1_sumSets_104 : decode cX1_sumSets 104 = .ok (.goto (-49), 3) := by decide +kernel
theorem dX1_sumSets_107 : decode cX1_sumSets 107 = .ok (.iinc 2 1, 3) := by decide +kernel
theorem dX1_sumSets_110 : decode cX1_sumSets 110 = .ok (.goto (-94), 3) := by decide +kernel
theorem dX1_sumSets_113 : decode cX1_sumSets 113 = .ok (.return_, 1) := by decide +kernel
theorem dX1_leastWin_0 : decode cX1_leastWin 0 = .ok (.ldc 107, 2) := by decide +kernel
theorem dX1_leastWin_2 : decode cX1_leastWin 2 = .ok (.istore_n 3, 1) := by decide +kernel
theorem dX1_leastWin_3 : decode cX1_leastWin 3 = .ok (.iconst 0, 1) := by decide +kernel
theorem dX1_leastWin_4 : decode cX1_leastWin 4 = .ok (.istore 4, 2) := by decide +kernel
theorem dX1_leastWin_6 : decode cX1_leastWin 6 = .ok (.iload 4, 2) := by decide +kernel
theorem dX1_leastWin_8 : decode cX1_leastWin 8 = .ok (.aload_n 0, 1) := by decide +kernel
theorem dX1_leastWin_9 : decode cX1_leastWin 9 = .ok (.getfield 70, 3) := by decide +kernel
theorem dX1_leastWin_12 : decode cX1_leastWin 12 = .ok (.if_icmp .ge 54, 3) := by decide +kernel
theorem dX1_leastWin_15 : decode cX1_leastWin 15 = .ok (.aload_n 0, 1) := by decide +kernel
theorem dX1_leastWin_16 : decode cX1_leastWin 16 = .ok (.getfield 15, 3) := by decide +kernel
theorem dX1_leastWin_19 : decode cX1_leastWin 19 = .ok (.iload 4, 2) := by decide +kernel
theorem dX1_leastWin_21 : decode cX1_leastWin 21 = .ok (.iaload, 1) := by decide +kernel
theorem dX1_leastWin_22 : decode cX1_leastWin 22 = .ok (.iload_n 1, 1) := by decide +kernel
theorem dX1_leastWin_23 : decode cX1_leastWin 23 = .ok (.iand, 1) := by decide +kernel
theorem dX1_leastWin_24 : decode cX1_leastWin 24 = .ok (.istore 5, 2) := by decide +kernel
theorem dX1_leastWin_26 : decode cX1_leastWin 26 = .ok (.aload_n 0, 1) := by decide +kernel
theorem dX1_leastWin_27 : decode cX1_leastWin 27 = .ok (.getfield 19, 3) := by decide +kernel
theorem dX1_leastWin_30 : decode cX1_leastWin 30 = .ok (.iload 5, 2) := by decide +kernel
theorem dX1_leastWin_32 : decode cX1_leastWin 32 = .ok (.iaload, 1) := by decide +kernel
theorem dX1_leastWin_33 : decode cX1_leastWin 33 = .ok (.aload_n 0, 1) := by decide +kernel
theorem dX1_leastWin_34 : decode cX1_leastWin 34 = .ok (.getfield 22, 3) := by decide +kernel
theorem dX1_leastWin_37 : decode cX1_leastWin 37 = .ok (.iload_n 1, 1) := by decide +kernel
theorem dX1_leastWin_38 : decode cX1_leastWin 38 = .ok (.iload 5, 2) := by decide +kernel
theorem dX1_leastWin_40 : decode cX1_leastWin 40 = .ok (.isub, 1) := by decide +kernel
theorem dX1_leastWin_41 : decode cX1_leastWin 41 = .ok (.iaload, 1) := by decide +kernel
theorem dX1_leastWin_42 : decode cX1_leastWin 42 = .ok (.isub, 1) := by decide +kernel
theorem dX1_leastWin_43 : decode cX1_leastWin 43 = .ok (.istore 6, 2) := by decide +kernel
theorem dX1_leastWin_45 : decode cX1_leastWin 45 = .ok (.iload 6, 2) := by decide +kernel
theorem dX1_leastWin_47 : decode cX1_leastWin 47 = .ok (.iload_n 2, 1) := by decide +kernel
theorem dX1_leastWin_48 : decode cX1_leastWin 48 = .ok (.if_icmp .ge 5, 3) := by decide +kernel
theorem dX1_leastWin_51 : decode cX1_leastWin 51 = .ok (.iconst 0, 1) := by decide +kernel
theorem dX1_leastWin_52 : decode cX1_leastWin 52 = .ok (.ireturn, 1) := by decide +kernel
theorem dX1_leastWin_53 : decode cX1_leastWin 53 = .ok (.iload_n 3, 1) := by decide +kernel
theorem dX1_leastWin_54 : decode cX1_leastWin 54 = .ok (.iload 6, 2) := by decide +kernel
theorem dX1_leastWin_56 : decode cX1_leastWin 56 = .ok (.invokestatic 82, 3) := by decide +kernel
theorem dX1_leastWin_59 : decode cX1_leastWin 59 = .ok (.istore_n 3, 1) := by decide +kernel
theorem dX1_leastWin_60 : decode cX1_leastWin 60 = .ok (.iinc 4 1, 3) := by decide +kernel
theorem dX1_leastWin_63 : decode cX1_leastWin 63 = .ok (.goto (-57), 3) := by decide +kernel
theorem dX1_leastWin_66 : decode cX1_leastWin 66 = .ok (.iload_n 3, 1) := by decide +kernel
theorem dX1_leastWin_67 : decode cX1_leastWin 67 = .ok (.ireturn, 1) := by decide +kernel
theorem dX2_init_0 : decode cX2_init 0 = .ok (.aload_n 0, 1) := by decide +kernel
theorem dX2_init_1 : decode cX2_init 1 = .ok (.invokespecial 3, 3) := by decide +kernel
theorem dX2_init_4 : decode cX2_init 4 = .ok (.aload_n 0, 1) := by decide +kernel
theorem dX2_init_5 : decode cX2_init 5 = .ok (.sipush 128, 3) := by decide +kernel
theorem dX2_init_8 : decode cX2_init 8 = .ok (.newarray .boolean, 2) := by decide +kernel
theorem dX2_init_10 : decode cX2_init 10 = .ok (.putfield 9, 3) := by decide +kernel
theorem dX2_init_13 : decode cX2_init 13 = .ok (.aload_n 0, 1) := by decide +kernel
theorem dX2_init_14 : decode cX2_init 14 = .ok (.sipush 128, 3) := by decide +kernel
theorem dX2_init_17 : decode cX2_init 17 = .ok (.newarray .long, 2) := by decide +kernel
theorem dX2_init_19 : decode cX2_init 19 = .ok (.putfield 15, 3) := by decide +kernel
theorem dX2_init_22 : decode cX2_init 22 = .ok (.aload_n 0, 1) := by decide +kernel
theorem dX2_init_23 : decode cX2_init 23 = .ok (.iconst 1, 1) := by decide +kernel
theorem dX2_init_24 : decode cX2_init 24 = .ok (.putfield 19, 3) := by decide +kernel
theorem dX2_init_27 : decode cX2_init 27 = .ok (.return_, 1) := by decide +kernel
set_option maxRecDepth 20000 in
theorem ggX2_weigh_X2_weighByFinds : GoodIn wsX2_weigh wsX2_weighByFinds := goodIn_r _ [9, 3, 10, 11, 8, 12, 13, 14, 15, 16, 17, 18, 19, 20, 21, 30, 31, 32, 33, 34, 35, 36, 37] (by decide +kernel) (by decide +kernel)
set_option maxRecDepth 20000 in
theorem gX2_weigh_X2_weighByFinds : GoodIn wsX2_weigh (wsV RX2 23 RX2 yX2_weighByFinds wsX2_weighByFinds) := goodIn_app (goodIn_of _ (by decide +kernel)) ggX2_weigh_X2_weighByFinds
set_option maxRecDepth 20000 in
theorem ggX2_weigh_X2_keepsAll : GoodIn wsX2_weigh wsX2_keepsAll := goodIn_r _ [24, 13, 14, 15, 16, 17, 18, 19, 20, 21, 25, 26, 27, 28, 29, 34, 35, 36, 37] (by decide +kernel) (by decide +kernel)
set_option maxRecDepth 20000 in
theorem gX2_weigh_X2_keepsAll : GoodIn wsX2_weigh (va_wsS RX2 31 yX2_keepsAll wsX2_keepsAll) := goodIn_app (goodIn_of _ (by decide +kernel)) ggX2_weigh_X2_keepsAll
theorem dX2_weigh_0 : decode cX2_weigh 0 = .ok (.aload_n 0, 1) := by decide +kernel
theorem dX2_weigh_1 : decode cX2_weigh 1 = .ok (.aload_n 2, 1) := by decide +kernel
theorem dX2_weigh_2 : decode cX2_weigh 2 = .ok (.invokevirtual 23, 3) := by decide +kernel
theorem dX2_weigh_5 : decode cX2_weigh 5 = .ok (.aload_n 0, 1) := by decide +kernel
theorem dX2_weigh_6 : decode cX2_weigh 6 = .ok (.lconst 0, 1) := by decide +kernel
theorem dX2_weigh_7 : decode cX2_weigh 7 = .ok (.putfield 27, 3) := by decide +kernel
theorem dX2_weigh_10 : decode cX2_weigh 10 = .ok (.iconst 0, 1) := by decide +kernel
theorem dX2_weigh_11 : decode cX2_weigh 11 = .ok (.istore_n 3, 1) := by decide +kernel
theorem dX2_weigh_12 : decode cX2_weigh 12 = .ok (.iload_n 3, 1) := by decide +kernel
theorem dX2_weigh_13 : decode cX2_weigh 13 = .ok (.sipush 128, 3) := by decide +kernel
theorem dX2_weigh_16 : decode cX2_weigh 16 = .ok (.if_icmp .ge 51, 3) := by decide +kernel
theorem dX2_weigh_19 : decode cX2_weigh 19 = .ok (.aload_n 0, 1) := by decide +kernel
theorem dX2_weigh_20 : decode cX2_weigh 20 = .ok (.getfield 9, 3) := by decide +kernel
theorem dX2_weigh_23 : decode cX2_weigh 23 = .ok (.iload_n 3, 1) := by decide +kernel
theorem dX2_weigh_24 : decode cX2_weigh 24 = .ok (.aload_n 1, 1) := by decide +kernel
theorem dX2_weigh_25 : decode cX2_weigh 25 = .ok (.iload_n 3, 1) := by decide +kernel
theorem dX2_weigh_26 : decode cX2_weigh 26 = .ok (.invokestatic 31, 3) := by decide +kernel
theorem dX2_weigh_29 : decode cX2_weigh 29 = .ok (.bastore, 1) := by decide +kernel
theorem dX2_weigh_30 : decode cX2_weigh 30 = .ok (.aload_n 0, 1) := by decide +kernel
theorem dX2_weigh_31 : decode cX2_weigh 31 = .ok (.getfield 9, 3) := by decide +kernel
theorem dX2_weigh_34 : decode cX2_weigh 34 = .ok (.iload_n 3, 1) := by decide +kernel
theorem dX2_weigh_35 : decode cX2_weigh 35 = .ok (.baload, 1) := by decide +kernel
theorem dX2_weigh_36 : decode cX2_weigh 36 = .ok (.ifCond .ne 10, 3) := by decide +kernel
theorem dX2_weigh_39 : decode cX2_weigh 39 = .ok (.aload_n 0, 1) := by decide +kernel
theorem dX2_weigh_40 : decode cX2_weigh 40 = .ok (.getfield 15, 3) := by decide +kernel
theorem dX2_weigh_43 : decode cX2_weigh 43 = .ok (.iload_n 3, 1) := by decide +kernel
theorem dX2_weigh_44 : decode cX2_weigh 44 = .ok (.lconst 0, 1) := by decide +kernel
theorem dX2_weigh_45 : decode cX2_weigh 45 = .ok (.lastore, 1) := by decide +kernel
theorem dX2_weigh_46 : decode cX2_weigh 46 = .ok (.aload_n 0, 1) := by decide +kernel
theorem dX2_weigh_47 : decode cX2_weigh 47 = .ok (.dup, 1) := by decide +kernel
theorem dX2_weigh_48 : decode cX2_weigh 48 = .ok (.getfield 27, 3) := by decide +kernel
theorem dX2_weigh_51 : decode cX2_weigh 51 = .ok (.aload_n 0, 1) := by decide +kernel
theorem dX2_weigh_52 : decode cX2_weigh 52 = .ok (.getfield 15, 3) := by decide +kernel
theorem dX2_weigh_55 : decode cX2_weigh 55 = .ok (.iload_n 3, 1) := by decide +kernel
theorem dX2_weigh_56 : decode cX2_weigh 56 = .ok (.laload, 1) := by decide +kernel
theorem dX2_weigh_57 : decode cX2_weigh 57 = .ok (.ladd, 1) := by decide +kernel
theorem dX2_weigh_58 : decode cX2_weigh 58 = .ok (.putfield 27, 3) := by decide +kernel
theorem dX2_weigh_61 : decode cX2_weigh 61 = .ok (.iinc 3 1, 3) := by decide +kernel
theorem dX2_weigh_64 : decode cX2_weigh 64 = .ok (.goto (-52), 3) := by decide +kernel
theorem dX2_weigh_67 : decode cX2_weigh 67 = .ok (.aload_n 0, 1) := by decide +kernel
theorem dX2_weigh_68 : decode cX2_weigh 68 = .ok (.iconst 0, 1) := by decide +kernel
theorem dX2_weigh_69 : decode cX2_weigh 69 = .ok (.putfield 19, 3) := by decide +kernel
theorem dX2_weigh_72 : decode cX2_weigh 72 = .ok (.return_, 1) := by decide +kernel
set_option maxRecDepth 20000 in
theorem ggX2_weighByFinds_X2_productFor : GoodIn wsX2_weighByFinds wsX2_productFor := goodIn_r _ [5, 6, 7, 8, 9, 10, 11, 12, 13, 14, 19, 20, 21, 22] (by decide +kernel) (by decide +kernel)
set_option maxRecDepth 20000 in
theorem gX2_weighByFinds_X2_productFor : GoodIn wsX2_weighByFinds (va_wsS RX2 35 yX2_productFor wsX2_productFor) := goodIn_app (goodIn_of _ (by decide +kernel)) ggX2_weighByFinds_X2_productFor
theorem dX2_weighByFinds_0 : decode cX2_weighByFinds 0 = .ok (.aload_n 0, 1) := by decide +kernel
theorem dX2_weighByFinds_1 : decode cX2_weighByFinds 1 = .ok (.getfield 15, 3) := by decide +kernel
theorem dX2_weighByFinds_4 : decode cX2_weighByFinds 4 = .ok (.iconst 0, 1) := by decide +kernel
theorem dX2_weighByFinds_5 : decode cX2_weighByFinds 5 = .ok (.lconst 1, 1) := by decide +kernel
theorem dX2_weighByFinds_6 : decode cX2_weighByFinds 6 = .ok (.lastore, 1) := by decide +kernel
theorem dX2_weighByFinds_7 : decode cX2_weighByFinds 7 = .ok (.iconst 0, 1) := by decide +kernel
theorem dX2_weighByFinds_8 : decode cX2_weighByFinds 8 = .ok (.istore_n 2, 1) := by decide +kernel
theorem dX2_weighByFinds_9 : decode cX2_weighByFinds 9 = .ok (.iload_n 2, 1) := by decide +kernel
theorem dX2_weighByFinds_10 : decode cX2_weighByFinds 10 = .ok (.bipush 7, 2) := by decide +kernel
theorem dX2_weighByFinds_12 : decode cX2_weighByFinds 12 = .ok (.if_icmp .ge 81, 3) := by decide +kernel
theorem dX2_weighByFinds_15 : decode cX2_weighByFinds 15 = .ok (.aload_n 1, 1) := by decide +kernel
theorem dX2_weighByFinds_16 : decode cX2_weighByFinds 16 = .ok (.iload_n 2, 1) := by decide +kernel
theorem dX2_weighByFinds_17 : decode cX2_weighByFinds 17 = .ok (.iconst 1, 1) := by decide +kernel
theorem dX2_weighByFinds_18 : decode cX2_weighByFinds 18 = .ok (.invokestatic 35, 3) := by decide +kernel
theorem dX2_weighByFinds_21 : decode cX2_weighByFinds 21 = .ok (.lstore_n 3, 1) := by decide +kernel
theorem dX2_weighByFinds_22 : decode cX2_weighByFinds 22 = .ok (.aload_n 1, 1) := by decide +kernel
theorem dX2_weighByFinds_23 : decode cX2_weighByFinds 23 = .ok (.iload_n 2, 1) := by decide +kernel
theorem dX2_weighByFinds_24 : decode cX2_weighByFinds 24 = .ok (.iconst 0, 1) := by decide +kernel
theorem dX2_weighByFinds_25 : decode cX2_weighByFinds 25 = .ok (.invokestatic 35, 3) := by decide +kernel
theorem dX2_weighByFinds_28 : decode cX2_weighByFinds 28 = .ok (.lstore 5, 2) := by decide +kernel
theorem dX2_weighByFinds_30 : decode cX2_weighByFinds 30 = .ok (.iconst 1, 1) := by decide +kernel
theorem dX2_weighByFinds_31 : decode cX2_weighByFinds 31 = .ok (.iload_n 2, 1) := by decide +kernel
theorem dX2_weighByFinds_32 : decode cX2_weighByFinds 32 = .ok (.ishl, 1) := by decide +kernel
theorem dX2_weighByFinds_33 : decode cX2_weighByFinds 33 = .ok (.istore 7, 2) := by decide +kernel
theorem dX2_weighByFinds_35 : decode cX2_weighByFinds 35 = .ok (.iconst 0, 1) := by decide +kernel
theorem dX2_weighByFinds_36 : decode cX2_weighByFinds 36 = .ok (.istore 8, 2) := by decide +kernel
theorem dX2_weighByFinds_38 : decode cX2_weighByFinds 38 = .ok (.iload 8, 2) := by decide +kernel
theorem dX2_weighByFinds_40 : decode cX2_weighByFinds 40 = .ok (.iload 7, 2) := by decide +kernel
theorem dX2_weighByFinds_42 : decode cX2_weighByFinds 42 = .ok (.if_icmp .ge 45, 3) := by decide +kernel
theorem dX2_weighByFinds_45 : decode cX2_weighByFinds 45 = .ok (.aload_n 0, 1) := by decide +kernel
theorem dX2_weighByFinds_46 : decode cX2_weighByFinds 46 = .ok (.getfield 15, 3) := by decide +kernel
theorem dX2_weighByFinds_49 : decode cX2_weighByFinds 49 = .ok (.iload 8, 2) := by decide +kernel
theorem dX2_weighByFinds_51 : decode cX2_weighByFinds 51 = .ok (.iload 7, 2) := by decide +kernel
theorem dX2_weighByFinds_53 : decode cX2_weighByFinds 53 = .ok (.iadd, 1) := by decide +kernel
theorem dX2_weighByFinds_54 : decode cX2_weighByFinds 54 = .ok (.aload_n 0, 1) := by decide +kernel
theorem dX2_weighByFinds_55 : decode cX2_weighByFinds 55 = .ok (.getfield 15, 3) := by decide +kernel
theorem dX2_weighByFinds_58 : decode cX2_weighByFinds 58 = .ok (.iload 8, 2) := by decide +kernel
theorem dX2_weighByFinds_60 : decode cX2_weighByFinds 60 = .ok (.laload, 1) := by decide +kernel
theorem dX2_weighByFinds_61 : decode cX2_weighByFinds 61 = .ok (.lload_n 3, 1) := by decide +kernel
theorem dX2_weighByFinds_62 : decode cX2_weighByFinds 62 = .ok (.lmul, 1) := by decide +kernel
theorem dX2_weighByFinds_63 : decode cX2_weighByFinds 63 = .ok (.lastore, 1) := by decide +kernel
theorem dX2_weighByFinds_64 : decode cX2_weighByFinds 64 = .ok (.aload_n 0, 1) := by decide +kernel
theorem dX2_weighByFinds_65 : decode cX2_weighByFinds 65 = .ok (.getfield 15, 3) := by decide +kernel
theorem dX2_weighByFinds_68 : decode cX2_weighByFinds 68 = .ok (.iload 8, 2) := by decide +kernel
theorem dX2_weighByFinds_70 : decode cX2_weighByFinds 70 = .ok (.aload_n 0, 1) := by decide +kernel
theorem dX2_weighByFinds_71 : decode cX2_weighByFinds 71 = .ok (.getfield 15, 3) := by decide +kernel
theorem dX2_weighByFinds_74 : decode cX2_weighByFinds 74 = .ok (.iload 8, 2) := by decide +kernel
theorem dX2_weighByFinds_76 : decode cX2_weighByFinds 76 = .ok (.laload, 1) := by decide +kernel
theorem dX2_weighByFinds_77 : decode cX2_weighByFinds 77 = .ok (.lload 5, 2) := by decide +kernel
theorem dX2_weighByFinds_79 : decode cX2_weighByFinds 79 = .ok (.lmul, 1) := by decide +kernel
theorem dX2_weighByFinds_80 : decode cX2_weighByFinds 80 = .ok (.lastore, 1) := by decide +kernel
theorem dX2_weighByFinds_81 : decode cX2_weighByFinds 81 = .ok (.iinc 8 1, 3) := by decide +kernel
theorem dX2_weighByFinds_84 : decode cX2_weighByFinds 84 = .ok (.goto (-46), 3) := by decide +kernel
theorem dX2_weighByFinds_87 : decode cX2_weighByFinds 87 = .ok (.iinc 2 1, 3) := by decide +kernel
theorem dX2_weighByFinds_90 : decode cX2_weighByFinds 90 = .ok (.goto (-81), 3) := by decide +kernel
theorem dX2_weighByFinds_93 : decode cX2_weighByFinds 93 = .ok (.return_, 1) := by decide +kernel
set_option maxRecDepth 20000 in
theorem ggX2_productFor_X6_cell : GoodIn wsX2_productFor wsX6_cell := goodIn_r _ [6, 7, 8, 9, 10, 11, 12, 13] (by decide +kernel) (by decide +kernel)
set_option maxRecDepth 20000 in
theorem gX2_productFor_X6_cell : GoodIn wsX2_productFor (wsV RX2 45 RX6 yX6_cell wsX6_cell) := goodIn_app (goodIn_of _ (by decide +kernel)) ggX2_productFor_X6_cell
theorem dX2_productFor_0 : decode cX2_productFor 0 = .ok (.lconst 1, 1) := by decide +kernel
theorem dX2_productFor_1 : decode cX2_productFor 1 = .ok (.lstore_n 3, 1) := by decide +kernel
theorem dX2_productFor_2 : decode cX2_productFor 2 = .ok (.iconst 0, 1) := by decide +kernel
theorem dX2_productFor_3 : decode cX2_productFor 3 = .ok (.istore 5, 2) := by decide +kernel
theorem dX2_productFor_5 : decode cX2_productFor 5 = .ok (.iload 5, 2) := by decide +kernel
theorem dX2_productFor_7 : decode cX2_productFor 7 = .ok (.aload_n 0, 1) := by decide +kernel
theorem dX2_productFor_8 : decode cX2_productFor 8 = .ok (.getfield 39, 3) := by decide +kernel
theorem dX2_productFor_11 : decode cX2_productFor 11 = .ok (.if_icmp .ge 55, 3) := by decide +kernel
theorem dX2_productFor_14 : decode cX2_productFor 14 = .ok (.aload_n 0, 1) := by decide +kernel
theorem dX2_productFor_15 : decode cX2_productFor 15 = .ok (.iload 5, 2) := by decide +kernel
theorem dX2_productFor_17 : decode cX2_productFor 17 = .ok (.iconst 0, 1) := by decide +kernel
theorem dX2_productFor_18 : decode cX2_productFor 18 = .ok (.invokevirtual 45, 3) := by decide +kernel
theorem dX2_productFor_21 : decode cX2_productFor 21 = .ok (.iload_n 1, 1) := by decide +kernel
theorem dX2_productFor_22 : decode cX2_productFor 22 = .ok (.if_icmp .ne 38, 3) := by decide +kernel
theorem dX2_productFor_25 : decode cX2_productFor 25 = .ok (.aload_n 0, 1) := by decide +kernel
theorem dX2_productFor_26 : decode cX2_productFor 26 = .ok (.iload 5, 2) := by decide +kernel
theorem dX2_productFor_28 : decode cX2_productFor 28 = .ok (.iconst 2, 1) := by decide +kernel
theorem dX2_productFor_29 : decode cX2_productFor 29 = .ok (.invokevirtual 45, 3) := by decide +kernel
theorem dX2_productFor_32 : decode cX2_productFor 32 = .ok (.istore 6, 2) := by decide +kernel
theorem dX2_productFor_34 : decode cX2_productFor 34 = .ok (.lload_n 3, 1) := by decide +kernel
theorem dX2_productFor_35 : decode cX2_productFor 35 = .ok (.aload_n 0, 1) := by decide +kernel
theorem dX2_productFor_36 : decode cX2_productFor 36 = .ok (.iload 5, 2) := by decide +kernel
theorem dX2_productFor_38 : decode cX2_productFor 38 = .ok (.iconst 1, 1) := by decide +kernel
theorem dX2_productFor_39 : decode cX2_productFor 39 = .ok (.invokevirtual 45, 3) := by decide +kernel
theorem dX2_productFor_42 : decode cX2_productFor 42 = .ok (.iload_n 2, 1) := by decide +kernel
theorem dX2_productFor_43 : decode cX2_productFor 43 = .ok (.if_icmp .ne 9, 3) := by decide +kernel
theorem dX2_productFor_46 : decode cX2_productFor 46 = .ok (.iload 6, 2) := by decide +kernel
theorem dX2_productFor_48 : decode cX2_productFor 48 = .ok (.i2l, 1) := by decide +kernel
theorem dX2_productFor_49 : decode cX2_productFor 49 = .ok (.goto 9, 3) := by decide +kernel
theorem dX2_productFor_52 : decode cX2_productFor 52 = .ok (.bipush 10, 2) := by decide +kernel
theorem dX2_productFor_54 : decode cX2_productFor 54 = .ok (.iload 6, 2) := by decide +kernel
theorem dX2_productFor_56 : decode cX2_productFor 56 = .ok (.isub, 1) := by decide +kernel
theorem dX2_productFor_57 : decode cX2_productFor 57 = .ok (.i2l, 1) := by decide +kernel
theorem dX2_productFor_58 : decode cX2_productFor 58 = .ok (.lmul, 1) := by decide +kernel
theorem dX2_productFor_59 : decode cX2_productFor 59 = .ok (.lstore_n 3, 1) := by decide +kernel
theorem dX2_productFor_60 : decode cX2_productFor 60 = .ok (.iinc 5 1, 3) := by decide +kernel
theorem dX2_productFor_63 : decode cX2_productFor 63 = .ok (.goto (-58), 3) := by decide +kernel
theorem dX2_productFor_66 : decode cX2_productFor 66 = .ok (.lload_n 3, 1) := by decide +kernel
theorem dX2_productFor_67 : decode cX2_productFor 67 = .ok (.lreturn, 1) := by decide +kernel
set_option maxRecDepth 20000 in
theorem ggX2_keepsAll_X6_cell : GoodIn wsX2_keepsAll wsX6_cell := goodIn_r _ [6, 7, 8, 9, 15, 16, 17, 18] (by decide +kernel) (by decide +kernel)
set_option maxRecDepth 20000 in
theorem gX2_keepsAll_X6_cell : GoodIn wsX2_keepsAll (wsV RX2 45 RX6 yX6_cell wsX6_cell) := goodIn_app (goodIn_of _ (by decide +kernel)) ggX2_keepsAll_X6_cell
set_option maxRecDepth 20000 in
theorem ggX2_keepsAll_X7_wasSo : GoodIn wsX2_keepsAll wsX7_wasSo := goodIn_r _ [12] (by decide +kernel) (by decide +kernel)
set_option maxRecDepth 20000 in
theorem gX2_keepsAll_X7_wasSo_n49 : GoodIn wsX2_keepsAll (wsX7_wasSo) := ggX2_keepsAll_X7_wasSo
set_option maxRecDepth 20000 in
theorem ggX2_keepsAll_X7_lawKept : GoodIn wsX2_keepsAll wsX7_lawKept := goodIn_r _ [14] (by decide +kernel) (by decide +kernel)
set_option maxRecDepth 20000 in
theorem gX2_keepsAll_X7_lawKept_n53 : GoodIn wsX2_keepsAll (wsX7_lawKept) := ggX2_keepsAll_X7_lawKept
theorem dX2_keepsAll_0 : decode cX2_keepsAll 0 = .ok (.iconst 0, 1) := by decide +kernel
theorem dX2_keepsAll_1 : decode cX2_keepsAll 1 = .ok (.istore_n 2, 1) := by decide +kernel
theorem dX2_keepsAll_2 : decode cX2_keepsAll 2 = .ok (.iload_n 2, 1) := by decide +kernel
theorem dX2_keepsAll_3 : decode cX2_keepsAll 3 = .ok (.aload_n 0, 1) := by decide +kernel
theorem dX2_keepsAll_4 : decode cX2_keepsAll 4 = .ok (.getfield 39, 3) := by decide +kernel
theorem dX2_keepsAll_7 : decode cX2_keepsAll 7 = .ok (.if_icmp .ge 49, 3) := by decide +kernel
theorem dX2_keepsAll_10 : decode cX2_keepsAll 10 = .ok (.iload_n 1, 1) := by decide +kernel
theorem dX2_keepsAll_11 : decode cX2_keepsAll 11 = .ok (.aload_n 0, 1) := by decide +kernel
theorem dX2_keepsAll_12 : decode cX2_keepsAll 12 = .ok (.iload_n 2, 1) := by decide +kernel
theorem dX2_keepsAll_13 : decode cX2_keepsAll 13 = .ok (.iconst 1, 1) := by decide +kernel
theorem dX2_keepsAll_14 : decode cX2_keepsAll 14 = .ok (.invokevirtual 45, 3) := by decide +kernel
theorem dX2_keepsAll_17 : decode cX2_keepsAll 17 = .ok (.invokestatic 49, 3) := by decide +kernel
theorem dX2_keepsAll_20 : decode cX2_keepsAll 20 = .ok (.istore_n 3, 1) := by decide +kernel
theorem dX2_keepsAll_21 : decode cX2_keepsAll 21 = .ok (.iload_n 1, 1) := by decide +kernel
theorem dX2_keepsAll_22 : decode cX2_keepsAll 22 = .ok (.aload_n 0, 1) := by decide +kernel
theorem dX2_keepsAll_23 : decode cX2_keepsAll 23 = .ok (.iload_n 2, 1) := by decide +kernel
theorem dX2_keepsAll_24 : decode cX2_keepsAll 24 = .ok (.iconst 2, 1) := by decide +kernel
theorem dX2_keepsAll_25 : decode cX2_keepsAll 25 = .ok (.invokevirtual 45, 3) := by decide +kernel
theorem dX2_keepsAll_28 : decode cX2_keepsAll 28 = .ok (.invokestatic 49, 3) := by decide +kernel
theorem dX2_keepsAll_31 : decode cX2_keepsAll 31 = .ok (.istore 4, 2) := by decide +kernel
theorem dX2_keepsAll_33 : decode cX2_keepsAll 33 = .ok (.aload_n 0, 1) := by decide +kernel
theorem dX2_keepsAll_34 : decode cX2_keepsAll 34 = .ok (.iload_n 2, 1) := by decide +kernel
theorem dX2_keepsAll_35 : decode cX2_keepsAll 35 = .ok (.iconst 0, 1) := by decide +kernel
theorem dX2_keepsAll_36 : decode cX2_keepsAll 36 = .ok (.invokevirtual 45, 3) := by decide +kernel
theorem dX2_keepsAll_39 : decode cX2_keepsAll 39 = .ok (.iload_n 3, 1) := by decide +kernel
theorem dX2_keepsAll_40 : decode cX2_keepsAll 40 = .ok (.iload 4, 2) := by decide +kernel
theorem dX2_keepsAll_42 : decode cX2_keepsAll 42 = .ok (.invokestatic 53, 3) := by decide +kernel
theorem dX2_keepsAll_45 : decode cX2_keepsAll 45 = .ok (.ifCond .ne 5, 3) := by decide +kernel
theorem dX2_keepsAll_48 : decode cX2_keepsAll 48 = .ok (.iconst 0, 1) := by decide +kernel
theorem dX2_keepsAll_49 : decode cX2_keepsAll 49 = .ok (.ireturn, 1) := by decide +kernel
theorem dX2_keepsAll_50 : decode cX2_keepsAll 50 = .ok (.iinc 2 1, 3) := by decide +kernel
theorem dX2_keepsAll_53 : decode cX2_keepsAll 53 = .ok (.goto (-51), 3) := by decide +kernel
theorem dX2_keepsAll_56 : decode cX2_keepsAll 56 = .ok (.iconst 1, 1) := by decide +kernel
theorem dX2_keepsAll_57 : decode cX2_keepsAll 57 = .ok (.ireturn, 1) := by decide +kernel
theorem dX2_fits_0 : decode cX2_fits 0 = .ok (.aload_n 0, 1) := by decide +kernel
theorem dX2_fits_1 : decode cX2_fits 1 = .ok (.getfield 27, 3) := by decide +kernel
theorem dX2_fits_4 : decode cX2_fits 4 = .ok (.lconst 0, 1) := by decide +kernel
theorem dX2_fits_5 : decode cX2_fits 5 = .ok (.lcmp, 1) := by decide +kernel
theorem dX2_fits_6 : decode cX2_fits 6 = .ok (.ifCond .le 7, 3) := by decide +kernel
theorem dX2_fits_9 : decode cX2_fits 9 = .ok (.iconst 1, 1) := by decide +kernel
theorem dX2_fits_10 : decode cX2_fits 10 = .ok (.goto 4, 3) := by decide +kernel
theorem dX2_fits_13 : decode cX2_fits 13 = .ok (.iconst 0, 1) := by decide +kernel
theorem dX2_fits_14 : decode cX2_fits 14 = .ok (.ireturn, 1) := by decide +kernel
theorem dX2_howManyPossible_0 : decode cX2_howManyPossible 0 = .ok (.iconst 0, 1) := by decide +kernel
theorem dX2_howManyPossible_1 : decode cX2_howManyPossible 1 = .ok (.istore_n 1, 1) := by decide +kernel
theorem dX2_howManyPossible_2 : decode cX2_howManyPossible 2 = .ok (.iconst 0, 1) := by decide +kernel
theorem dX2_howManyPossible_3 : decode cX2_howManyPossible 3 = .ok (.istore_n 2, 1) := by decide +kernel
theorem dX2_howManyPossible_4 : decode cX2_howManyPossible 4 = .ok (.iload_n 2, 1) := by decide +kernel
theorem dX2_howManyPossible_5 : decode cX2_howManyPossible 5 = .ok (.sipush 128, 3) := by decide +kernel
theorem dX2_howManyPossible_8 : decode cX2_howManyPossible 8 = .ok (.if_icmp .ge 21, 3) := by decide +kernel
theorem dX2_howManyPossible_11 : decode cX2_howManyPossible 11 = .ok (.aload_n 0, 1) := by decide +kernel
theorem dX2_howManyPossible_12 : decode cX2_howManyPossible 12 = .ok (.getfield 9, 3) := by decide +kernel
theorem dX2_howManyPossible_15 : decode cX2_howManyPossible 15 = .ok (.iload_n 2, 1) := by decide +kernel
theorem dX2_howManyPossible_16 : decode cX2_howManyPossible 16 = .ok (.baload, 1) := by decide +kernel
theorem dX2_howManyPossible_17 : decode cX2_howManyPossible 17 = .ok (.ifCond .eq 6, 3) := by decide +kernel
theorem dX2_howManyPossible_20 : decode cX2_howManyPossible 20 = .ok (.iinc 1 1, 3) := by decide +kernel
theorem dX2_howManyPossible_23 : decode cX2_howManyPossible 23 = .ok (.iinc 2 1, 3) := by decide +kernel
theorem dX2_howManyPossible_26 : decode cX2_howManyPossible 26 = .ok (.goto (-22), 3) := by decide +kernel
theorem dX2_howManyPossible_29 : decode cX2_howManyPossible 29 = .ok (.iload_n 1, 1) := by decide +kernel
theorem dX2_howManyPossible_30 : decode cX2_howManyPossible 30 = .ok (.ireturn, 1) := by decide +kernel
theorem dX2_possibleAt_0 : decode cX2_possibleAt 0 = .ok (.iconst 0, 1) := by decide +kernel
theorem dX2_possibleAt_1 : decode cX2_possibleAt 1 = .ok (.istore_n 2, 1) := by decide +kernel
theorem dX2_possibleAt_2 : decode cX2_possibleAt 2 = .ok (.iconst 0, 1) := by decide +kernel
theorem dX2_possibleAt_3 : decode cX2_possibleAt 3 = .ok (.istore_n 3, 1) := by decide +kernel
theorem dX2_possibleAt_4 : decode cX2_possibleAt 4 = .ok (.iload_n 3, 1) := by decide +kernel
theorem dX2_possibleAt_5 : decode cX2_possibleAt 5 = .ok (.sipush 128, 3) := by decide +kernel
theorem dX2_possibleAt_8 : decode cX2_possibleAt 8 = .ok (.if_icmp .ge 28, 3) := by decide +kernel
theorem dX2_possibleAt_11 : decode cX2_possibleAt 11 = .ok (.aload_n 0, 1) := by decide +kernel
theorem dX2_possibleAt_12 : decode cX2_possibleAt 12 = .ok (.getfield 9, 3) := by decide +kernel
theorem dX2_possibleAt_15 : decode cX2_possibleAt 15 = .ok (.iload_n 3, 1) := by decide +kernel
theorem dX2_possibleAt_16 : decode cX2_possibleAt 16 = .ok (.baload, 1) := by decide +kernel
theorem dX2_possibleAt_17 : decode cX2_possibleAt 17 = .ok (.ifCond .eq 13, 3) := by decide +kernel
theorem dX2_possibleAt_20 : decode cX2_possibleAt 20 = .ok (.iload_n 2, 1) := by decide +kernel
theorem dX2_possibleAt_21 : decode cX2_possibleAt 21 = .ok (.iload_n 1, 1) := by decide +kernel
theorem dX2_possibleAt_22 : decode cX2_possibleAt 22 = .ok (.if_icmp .ne 5, 3) := by decide +kernel
theorem dX2_possibleAt_25 : decode cX2_possibleAt 25 = .ok (.iload_n 3, 1) := by decide +kernel
theorem dX2_possibleAt_26 : decode cX2_possibleAt 26 = .ok (.ireturn, 1) := by decide +kernel
theorem dX2_possibleAt_27 : decode cX2_possibleAt 27 = .ok (.iinc 2 1, 3) := by decide +kernel
theorem dX2_possibleAt_30 : decode cX2_possibleAt 30 = .ok (.iinc 3 1, 3) := by decide +kernel
theorem dX2_possibleAt_33 : decode cX2_possibleAt 33 = .ok (.goto (-29), 3) := by decide +kernel
theorem dX2_possibleAt_36 : decode cX2_possibleAt 36 = .ok (.iconst (-1), 1) := by decide +kernel
theorem dX2_possibleAt_37 : decode cX2_possibleAt 37 = .ok (.ireturn, 1) := by decide +kernel
theorem dX2_mostWeight_0 : decode cX2_mostWeight 0 = .ok (.iconst (-1), 1) := by decide +kernel
theorem dX2_mostWeight_1 : decode cX2_mostWeight 1 = .ok (.istore_n 1, 1) := by decide +kernel
theorem dX2_mostWeight_2 : decode cX2_mostWeight 2 = .ok (.lconst 0, 1) := by decide +kernel
theorem dX2_mostWeight_3 : decode cX2_mostWeight 3 = .ok (.lstore_n 2, 1) := by decide +kernel
theorem dX2_mostWeight_4 : decode cX2_mostWeight 4 = .ok (.iconst 0, 1) := by decide +kernel
theorem dX2_mostWeight_5 : decode cX2_mostWeight 5 = .ok (.istore 4, 2) := by decide +kernel
theorem dX2_mostWeight_7 : decode cX2_mostWeight 7 = .ok (.iload 4, 2) := by decide +kernel
theorem dX2_mostWeight_9 : decode cX2_mostWeight 9 = .ok (.sipush 128, 3) := by decide +kernel
theorem dX2_mostWeight_12 : decode cX2_mostWeight 12 = .ok (.if_icmp .ge 32, 3) := by decide +kernel
theorem dX2_mostWeight_15 : decode cX2_mostWeight 15 = .ok (.aload_n 0, 1) := by decide +kernel
theorem dX2_mostWeight_16 : decode cX2_mostWeight 16 = .ok (.getfield 15, 3) := by decide +kernel
theorem dX2_mostWeight_19 : decode cX2_mostWeight 19 = .ok (.iload 4, 2) := by decide +kernel
theorem dX2_mostWeight_21 : decode cX2_mostWeight 21 = .ok (.laload, 1) := by decide +kernel
theorem dX2_mostWeight_22 : decode cX2_mostWeight 22 = .ok (.lload_n 2, 1) := by decide +kernel
theorem dX2_mostWeight_23 : decode cX2_mostWeight 23 = .ok (.lcmp, 1) := by decide +kernel
theorem dX2_mostWeight_24 : decode cX2_mostWeight 24 = .ok (.ifCond .le 14, 3) := by decide +kernel
theorem dX2_mostWeight_27 : decode cX2_mostWeight 27 = .ok (.aload_n 0, 1) := by decide +kernel
theorem dX2_mostWeight_28 : decode cX2_mostWeight 28 = .ok (.getfield 15, 3) := by decide +kernel
theorem dX2_mostWeight_31 : decode cX2_mostWeight 31 = .ok (.iload 4, 2) := by decide +kernel
theorem dX2_mostWeight_33 : decode cX2_mostWeight 33 = .ok (.laload, 1) := by decide +kernel
theorem dX2_mostWeight_34 : decode cX2_mostWeight 34 = .ok (.lstore_n 2, 1) := by decide +kernel
theorem dX2_mostWeight_35 : decode cX2_mostWeight 35 = .ok (.iload 4, 2) := by decide +kernel
theorem dX2_mostWeight_37 : decode cX2_mostWeight 37 = .ok (.istore_n 1, 1) := by decide +kernel
theorem dX2_mostWeight_38 : decode cX2_mostWeight 38 = .ok (.iinc 4 1, 3) := by decide +kernel
theorem dX2_mostWeight_41 : decode cX2_mostWeight 41 = .ok (.goto (-34), 3) := by decide +kernel
theorem dX2_mostWeight_44 : decode cX2_mostWeight 44 = .ok (.iload_n 1, 1) := by decide +kernel
theorem dX2_mostWeight_45 : decode cX2_mostWeight 45 = .ok (.ireturn, 1) := by decide +kernel
set_option maxRecDepth 20000 in
theorem ggX2_verdict_X7_claimHolds : GoodIn wsX2_verdict wsX7_claimHolds := goodIn_r _ [4, 5, 6, 3, 7] (by decide +kernel) (by decide +kernel)
set_option maxRecDepth 20000 in
theorem gX2_verdict_X7_claimHolds_n57 : GoodIn wsX2_verdict (wsX7_claimHolds) := ggX2_verdict_X7_claimHolds
theorem dX2_verdict_0 : decode cX2_verdict 0 = .ok (.iconst 0, 1) := by decide +kernel
theorem dX2_verdict_1 : decode cX2_verdict 1 = .ok (.istore 4, 2) := by decide +kernel
theorem dX2_verdict_3 : decode cX2_verdict 3 = .ok (.iconst 0, 1) := by decide +kernel
theorem dX2_verdict_4 : decode cX2_verdict 4 = .ok (.istore 5, 2) := by decide +kernel
theorem dX2_verdict_6 : decode cX2_verdict 6 = .ok (.iconst 0, 1) := by decide +kernel
theorem dX2_verdict_7 : decode cX2_verdict 7 = .ok (.istore 6, 2) := by decide +kernel
theorem dX2_verdict_9 : decode cX2_verdict 9 = .ok (.iload 6, 2) := by decide +kernel
theorem dX2_verdict_11 : decode cX2_verdict 11 = .ok (.sipush 128, 3) := by decide +kernel
theorem dX2_verdict_14 : decode cX2_verdict 14 = .ok (.if_icmp .ge 65, 3) := by decide +kernel
theorem dX2_verdict_17 : decode cX2_verdict 17 = .ok (.aload_n 0, 1) := by decide +kernel
theorem dX2_verdict_18 : decode cX2_verdict 18 = .ok (.getfield 15, 3) := by decide +kernel
theorem dX2_verdict_21 : decode cX2_verdict 21 = .ok (.iload 6, 2) := by decide +kernel
theorem dX2_verdict_23 : decode cX2_verdict 23 = .ok (.laload, 1) := by decide +kernel
theorem dX2_verdict_24 : decode cX2_verdict 24 = .ok (.lconst 0, 1) := by decide +kernel
theorem dX2_verdict_25 : decode cX2_verdict 25 = .ok (.lcmp, 1) := by decide +kernel
theorem dX2_verdict_26 : decode cX2_verdict 26 = .ok (.ifCond .le 47, 3) := by decide +kernel
theorem dX2_verdict_29 : decode cX2_verdict 29 = .ok (.iload_n 1, 1) := by decide +kernel
theorem dX2_verdict_30 : decode cX2_verdict 30 = .ok (.iload_n 2, 1) := by decide +kernel
theorem dX2_verdict_31 : decode cX2_verdict 31 = .ok (.iload_n 3, 1) := by decide +kernel
theorem dX2_verdict_32 : decode cX2_verdict 32 = .ok (.iload 6, 2) := by decide +kernel
theorem dX2_verdict_34 : decode cX2_verdict 34 = .ok (.invokestatic 57, 3) := by decide +kernel
theorem dX2_verdict_37 : decode cX2_verdict 37 = .ok (.istore 7, 2) := by decide +kernel
theorem dX2_verdict_39 : decode cX2_verdict 39 = .ok (.iload 4, 2) := by decide +kernel
theorem dX2_verdict_41 : decode cX2_verdict 41 = .ok (.ifCond .ne 8, 3) := by decide +kernel
theorem dX2_verdict_44 : decode cX2_verdict 44 = .ok (.iload 7, 2) := by decide +kernel
theorem dX2_verdict_46 : decode cX2_verdict 46 = .ok (.ifCond .eq 7, 3) := by decide +kernel
theorem dX2_verdict_49 : decode cX2_verdict 49 = .ok (.iconst 1, 1) := by decide +kernel
theorem dX2_verdict_50 : decode cX2_verdict 50 = .ok (.goto 4, 3) := by decide +kernel
theorem dX2_verdict_53 : decode cX2_verdict 53 = .ok (.iconst 0, 1) := by decide +kernel
theorem dX2_verdict_54 : decode cX2_verdict 54 = .ok (.istore 4, 2) := by decide +kernel
theorem dX2_verdict_56 : decode cX2_verdict 56 = .ok (.iload 5, 2) := by decide +kernel
theorem dX2_verdict_58 : decode cX2_verdict 58 = .ok (.ifCond .ne 8, 3) := by decide +kernel
theorem dX2_verdict_61 : decode cX2_verdict 61 = .ok (.iload 7, 2) := by decide +kernel
theorem dX2_verdict_63 : decode cX2_verdict 63 = .ok (.ifCond .ne 7, 3) := by decide +kernel
theorem dX2_verdict_66 : decode cX2_verdict 66 = .ok (.iconst 1, 1) := by decide +kernel
theorem dX2_verdict_67 : decode cX2_verdict 67 = .ok (.goto 4, 3) := by decide +kernel
theorem dX2_verdict_70 : decode cX2_verdict 70 = .ok (.iconst 0, 1) := by decide +kernel
theorem dX2_verdict_71 : decode cX2_verdict 71 = .ok (.istore 5, 2) := by decide +kernel
theorem dX2_verdict_73 : decode cX2_verdict 73 = .ok (.iinc 6 1, 3) := by decide +kernel
theorem dX2_verdict_76 : decode cX2_verdict 76 = .ok (.goto (-67), 3) := by decide +kernel
theorem dX2_verdict_79 : decode cX2_verdict 79 = .ok (.iload 4, 2) := by decide +kernel
theorem dX2_verdict_81 : decode cX2_verdict 81 = .ok (.ifCond .eq 10, 3) := by decide +kernel
theorem dX2_verdict_84 : decode cX2_verdict 84 = .ok (.iload 5, 2) := by decide +kernel
theorem dX2_verdict_86 : decode cX2_verdict 86 = .ok (.ifCond .eq 5, 3) := by decide +kernel
theorem dX2_verdict_89 : decode cX2_verdict 89 = .ok (.iconst 2, 1) := by decide +kernel
theorem dX2_verdict_90 : decode cX2_verdict 90 = .ok (.ireturn, 1) := by decide +kernel
theorem dX2_verdict_91 : decode cX2_verdict 91 = .ok (.iload 4, 2) := by decide +kernel
theorem dX2_verdict_93 : decode cX2_verdict 93 = .ok (.ifCond .eq 5, 3) := by decide +kernel
theorem dX2_verdict_96 : decode cX2_verdict 96 = .ok (.iconst 1, 1) := by decide +kernel
theorem dX2_verdict_97 : decode cX2_verdict 97 = .ok (.ireturn, 1) := by decide +kernel
theorem dX2_verdict_98 : decode cX2_verdict 98 = .ok (.iload 5, 2) := by decide +kernel
theorem dX2_verdict_100 : decode cX2_verdict 100 = .ok (.ifCond .eq 7, 3) := by decide +kernel
theorem dX2_verdict_103 : decode cX2_verdict 103 = .ok (.iconst 0, 1) := by decide +kernel
theorem dX2_verdict_104 : decode cX2_verdict 104 = .ok (.goto 4, 3) := by decide +kernel
theorem dX2_verdict_107 : decode cX2_verdict 107 = .ok (.iconst (-1), 1) := by decide +kernel
theorem dX2_verdict_108 : decode cX2_verdict 108 = .ok (.ireturn, 1) := by decide +kernel
set_option maxRecDepth 20000 in
theorem ggX2_held_X7_claimHolds : GoodIn wsX2_held wsX7_claimHolds := goodIn_r _ [4, 5, 6, 3, 7] (by decide +kernel) (by decide +kernel)
set_option maxRecDepth 20000 in
theorem gX2_held_X7_claimHolds_n57 : GoodIn wsX2_held (wsX7_claimHolds) := ggX2_held_X7_claimHolds
theorem dX2_held_0 : decode cX2_held 0 = .ok (.lconst 0, 1) := by decide +kernel
theorem dX2_held_1 : decode cX2_held 1 = .ok (.lstore 4, 2) := by decide +kernel
theorem dX2_held_3 : decode cX2_held 3 = .ok (.iconst 0, 1) := by decide +kernel
theorem dX2_held_4 : decode cX2_held 4 = .ok (.istore 6, 2) := by decide +kernel
theorem dX2_held_6 : decode cX2_held 6 = .ok (.iload 6, 2) := by decide +kernel
theorem dX2_held_8 : decode cX2_held 8 = .ok (.sipush 128, 3) := by decide +kernel
theorem dX2_held_11 : decode cX2_held 11 = .ok (.if_icmp .ge 44, 3) := by decide +kernel
theorem dX2_held_14 : decode cX2_held 14 = .ok (.aload_n 0, 1) := by decide +kernel
theorem dX2_held_15 : decode cX2_held 15 = .ok (.getfield 15, 3) := by decide +kernel
theorem dX2_held_18 : decode cX2_held 18 = .ok (.iload 6, 2) := by decide +kernel
theorem dX2_held_20 : decode cX2_held 20 = .ok (.laload, 1) := by decide +kernel
theorem dX2_held_21 : decode cX2_held 21 = .ok (.lconst 0, 1) := by decide +kernel
theorem dX2_held_22 : decode cX2_held 22 = .ok (.lcmp, 1) := by decide +kernel
theorem dX2_held_23 : decode cX2_held 23 = .ok (.ifCond .le 26, 3) := by decide +kernel
theorem dX2_held_26 : decode cX2_held 26 = .ok (.iload_n 1, 1) := by decide +kernel
theorem dX2_held_27 : decode cX2_held 27 = .ok (.iload_n 2, 1) := by decide +kernel
theorem dX2_held_28 : decode cX2_held 28 = .ok (.iload_n 3, 1) := by decide +kernel
theorem dX2_held_29 : decode cX2_held 29 = .ok (.iload 6, 2) := by decide +kernel
theorem dX2_held_31 : decode cX2_held 31 = .ok (.invokestatic 57, 3) := by decide +kernel
theorem dX2_held_34 : decode cX2_held 34 = .ok (.ifCond .eq 15, 3) := by decide +kernel
theorem dX2_held_37 : decode cX2_held 37 = .ok (.lload 4, 2) := by decide +kernel
theorem dX2_held_39 : decode cX2_held 39 = .ok (.aload_n 0, 1) := by decide +kernel
theorem dX2_held_40 : decode cX2_held 40 = .ok (.getfield 15, 3) := by decide +kernel
theorem dX2_held_43 : decode cX2_held 43 = .ok (.iload 6, 2) := by decide +kernel
theorem dX2_held_45 : decode cX2_held 45 = .ok (.laload, 1) := by decide +kernel
theorem dX2_held_46 : decode cX2_held 46 = .ok (.ladd, 1) := by decide +kernel
theorem dX2_held_47 : decode cX2_held 47 = .ok (.lstore 4, 2) := by decide +kernel
theorem dX2_held_49 : decode cX2_held 49 = .ok (.iinc 6 1, 3) := by decide +kernel
theorem dX2_held_52 : decode cX2_held 52 = .ok (.goto (-46), 3) := by decide +kernel
theorem dX2_held_55 : decode cX2_held 55 = .ok (.lload 4, 2) := by decide +kernel
theorem dX2_held_57 : decode cX2_held 57 = .ok (.lreturn, 1) := by decide +kernel
set_option maxRecDepth 20000 in
theorem ggX2_totalIf_X7_shareOfTen : GoodIn wsX2_totalIf wsX7_shareOfTen := goodIn_r _ [4, 5, 6, 3, 7] (by decide +kernel) (by decide +kernel)
set_option maxRecDepth 20000 in
theorem gX2_totalIf_X7_shareOfTen_n61 : GoodIn wsX2_totalIf (wsX7_shareOfTen) := ggX2_totalIf_X7_shareOfTen
theorem dX2_totalIf_0 : decode cX2_totalIf 0 = .ok (.lconst 0, 1) := by decide +kernel
theorem dX2_totalIf_1 : decode cX2_totalIf 1 = .ok (.lstore 4, 2) := by decide +kernel
theorem dX2_totalIf_3 : decode cX2_totalIf 3 = .ok (.iconst 0, 1) := by decide +kernel
theorem dX2_totalIf_4 : decode cX2_totalIf 4 = .ok (.istore 6, 2) := by decide +kernel
theorem dX2_totalIf_6 : decode cX2_totalIf 6 = .ok (.iload 6, 2) := by decide +kernel
theorem dX2_totalIf_8 : decode cX2_totalIf 8 = .ok (.sipush 128, 3) := by decide +kernel
theorem dX2_totalIf_11 : decode cX2_totalIf 11 = .ok (.if_icmp .ge 31, 3) := by decide +kernel
theorem dX2_totalIf_14 : decode cX2_totalIf 14 = .ok (.lload 4, 2) := by decide +kernel
theorem dX2_totalIf_16 : decode cX2_totalIf 16 = .ok (.aload_n 0, 1) := by decide +kernel
theorem dX2_totalIf_17 : decode cX2_totalIf 17 = .ok (.getfield 15, 3) := by decide +kernel
theorem dX2_totalIf_20 : decode cX2_totalIf 20 = .ok (.iload 6, 2) := by decide +kernel
theorem dX2_totalIf_22 : decode cX2_totalIf 22 = .ok (.laload, 1) := by decide +kernel
theorem dX2_totalIf_23 : decode cX2_totalIf 23 = .ok (.iload 6, 2) := by decide +kernel
theorem dX2_totalIf_25 : decode cX2_totalIf 25 = .ok (.iload_n 1, 1) := by decide +kernel
theorem dX2_totalIf_26 : decode cX2_totalIf 26 = .ok (.iload_n 2, 1) := by decide +kernel
theorem dX2_totalIf_27 : decode cX2_totalIf 27 = .ok (.iload_n 3, 1) := by decide +kernel
theorem dX2_totalIf_28 : decode cX2_totalIf 28 = .ok (.invokestatic 61, 3) := by decide +kernel
theorem dX2_totalIf_31 : decode cX2_totalIf 31 = .ok (.i2l, 1) := by decide +kernel
theorem dX2_totalIf_32 : decode cX2_totalIf 32 = .ok (.lmul, 1) := by decide +kernel
theorem dX2_totalIf_33 : decode cX2_totalIf 33 = .ok (.ladd, 1) := by decide +kernel
theorem dX2_totalIf_34 : decode cX2_totalIf 34 = .ok (.lstore 4, 2) := by decide +kernel
theorem dX2_totalIf_36 : decode cX2_totalIf 36 = .ok (.iinc 6 1, 3) := by decide +kernel
theorem dX2_totalIf_39 : decode cX2_totalIf 39 = .ok (.goto (-33), 3) := by decide +kernel
theorem dX2_totalIf_42 : decode cX2_totalIf 42 = .ok (.lload 4, 2) := by decide +kernel
theorem dX2_totalIf_44 : decode cX2_totalIf 44 = .ok (.lreturn, 1) := by decide +kernel
set_option maxRecDepth 20000 in
theorem ggX2_heldIf_X7_claimHolds : GoodIn wsX2_heldIf wsX7_claimHolds := goodIn_r _ [4, 5, 6, 3, 7] (by decide +kernel) (by decide +kernel)
set_option maxRecDepth 20000 in
theorem gX2_heldIf_X7_claimHolds_n57 : GoodIn wsX2_heldIf (wsX7_claimHolds) := ggX2_heldIf_X7_claimHolds
set_option maxRecDepth 20000 in
theorem ggX2_heldIf_X7_shareOfTen : GoodIn wsX2_heldIf wsX7_shareOfTen := goodIn_r _ [9, 5, 6, 3, 7] (by decide +kernel) (by decide +kernel)
set_option maxRecDepth 20000 in
theorem gX2_heldIf_X7_shareOfTen_n61 : GoodIn wsX2_heldIf (wsX7_shareOfTen) := ggX2_heldIf_X7_shareOfTen
theorem dX2_heldIf_0 : decode cX2_heldIf 0 = .ok (.lconst 0, 1) := by decide +kernel
theorem dX2_heldIf_1 : decode cX2_heldIf 1 = .ok (.lstore 7, 2) := by decide +kernel
theorem dX2_heldIf_3 : decode cX2_heldIf 3 = .ok (.iconst 0, 1) := by decide +kernel
theorem dX2_heldIf_4 : decode cX2_heldIf 4 = .ok (.istore 9, 2) := by decide +kernel
theorem dX2_heldIf_6 : decode cX2_heldIf 6 = .ok (.iload 9, 2) := by decide +kernel
theorem dX2_heldIf_8 : decode cX2_heldIf 8 = .ok (.sipush 128, 3) := by decide +kernel
theorem dX2_heldIf_11 : decode cX2_heldIf 11 = .ok (.if_icmp .ge 57, 3) := by decide +kernel
theorem dX2_heldIf_14 : decode cX2_heldIf 14 = .ok (.aload_n 0, 1) := by decide +kernel
theorem dX2_heldIf_15 : decode cX2_heldIf 15 = .ok (.getfield 15, 3) := by decide +kernel
theorem dX2_heldIf_18 : decode cX2_heldIf 18 = .ok (.iload 9, 2) := by decide +kernel
theorem dX2_heldIf_20 : decode cX2_heldIf 20 = .ok (.laload, 1) := by decide +kernel
theorem dX2_heldIf_21 : decode cX2_heldIf 21 = .ok (.lconst 0, 1) := by decide +kernel
theorem dX2_heldIf_22 : decode cX2_heldIf 22 = .ok (.lcmp, 1) := by decide +kernel
theorem dX2_heldIf_23 : decode cX2_heldIf 23 = .ok (.ifCond .le 39, 3) := by decide +kernel
theorem dX2_heldIf_26 : decode cX2_heldIf 26 = .ok (.iload_n 1, 1) := by decide +kernel
theorem dX2_heldIf_27 : decode cX2_heldIf 27 = .ok (.iload_n 2, 1) := by decide +kernel
theorem dX2_heldIf_28 : decode cX2_heldIf 28 = .ok (.iload_n 3, 1) := by decide +kernel
theorem dX2_heldIf_29 : decode cX2_heldIf 29 = .ok (.iload 9, 2) := by decide +kernel
theorem dX2_heldIf_31 : decode cX2_heldIf 31 = .ok (.invokestatic 57, 3) := by decide +kernel
theorem dX2_heldIf_34 : decode cX2_heldIf 34 = .ok (.ifCond .eq 28, 3) := by decide +kernel
theorem dX2_heldIf_37 : decode cX2_heldIf 37 = .ok (.lload 7, 2) := by decide +kernel
theorem dX2_heldIf_39 : decode cX2_heldIf 39 = .ok (.aload_n 0, 1) := by decide +kernel
theorem dX2_heldIf_40 : decode cX2_heldIf 40 = .ok (.getfield 15, 3) := by decide +kernel
theorem dX2_heldIf_43 : decode cX2_heldIf 43 = .ok (.iload 9, 2) := by decide +kernel
theorem dX2_heldIf_45 : decode cX2_heldIf 45 = .ok (.laload, 1) := by decide +kernel
theorem dX2_heldIf_46 : decode cX2_heldIf 46 = .ok (.iload 9, 2) := by decide +kernel
theorem dX2_heldIf_48 : decode cX2_heldIf 48 = .ok (.iload 4, 2) := by decide +kernel
theorem dX2_heldIf_50 : decode cX2_heldIf 50 = .ok (.iload 5, 2) := by decide +kernel
theorem dX2_heldIf_52 : decode cX2_heldIf 52 = .ok (.iload 6, 2) := by decide +kernel
theorem dX2_heldIf_54 : decode cX2_heldIf 54 = .ok (.invokestatic 61, 3) := by decide +kernel
theorem dX2_heldIf_57 : decode cX2_heldIf 57 = .ok (.i2l, 1) := by decide +kernel
theorem dX2_heldIf_58 : decode cX2_heldIf 58 = .ok (.lmul, 1) := by decide +kernel
theorem dX2_heldIf_59 : decode cX2_heldIf 59 = .ok (.ladd, 1) := by decide +kernel
theorem dX2_heldIf_60 : decode cX2_heldIf 60 = .ok (.lstore 7, 2) := by decide +kernel
theorem dX2_heldIf_62 : decode cX2_heldIf 62 = .ok (.iinc 9 1, 3) := by decide +kernel
theorem dX2_heldIf_65 : decode cX2_heldIf 65 = .ok (.goto (-59), 3) := by decide +kernel
theorem dX2_heldIf_68 : decode cX2_heldIf 68 = .ok (.lload 7, 2) := by decide +kernel
theorem dX2_heldIf_70 : decode cX2_heldIf 70 = .ok (.lreturn, 1) := by decide +kernel
theorem dX2_listFitting_0 : decode cX2_listFitting 0 = .ok (.iconst 0, 1) := by decide +kernel
theorem dX2_listFitting_1 : decode cX2_listFitting 1 = .ok (.istore_n 2, 1) := by decide +kernel
theorem dX2_listFitting_2 : decode cX2_listFitting 2 = .ok (.iconst 0, 1) := by decide +kernel
theorem dX2_listFitting_3 : decode cX2_listFitting 3 = .ok (.istore_n 3, 1) := by decide +kernel
theorem dX2_listFitting_4 : decode cX2_listFitting 4 = .ok (.iload_n 3, 1) := by decide +kernel
theorem dX2_listFitting_5 : decode cX2_listFitting 5 = .ok (.sipush 128, 3) := by decide +kernel
theorem dX2_listFitting_8 : decode cX2_listFitting 8 = .ok (.if_icmp .ge 33, 3) := by decide +kernel
theorem dX2_listFitting_11 : decode cX2_listFitting 11 = .ok (.aload_n 0, 1) := by decide +kernel
theorem dX2_listFitting_12 : decode cX2_listFitting 12 = .ok (.getfield 15, 3) := by decide +kernel
theorem dX2_listFitting_15 : decode cX2_listFitting 15 = .ok (.iload_n 3, 1) := by decide +kernel
theorem dX2_listFitting_16 : decode cX2_listFitting 16 = .ok (.laload, 1) := by decide +kernel
theorem dX2_listFitting_17 : decode cX2_listFitting 17 = .ok (.lconst 0, 1) := by decide +kernel
theorem dX2_listFitting_18 : decode cX2_listFitting 18 = .ok (.lcmp, 1) := by decide +kernel
theorem dX2_listFitting_19 : decode cX2_listFitting 19 = .ok (.ifCond .le 16, 3) := by decide +kernel
theorem dX2_listFitting_22 : decode cX2_listFitting 22 = .ok (.iload_n 2, 1) := by decide +kernel
theorem dX2_listFitting_23 : decode cX2_listFitting 23 = .ok (.aload_n 1, 1) := by decide +kernel
theorem dX2_listFitting_24 : decode cX2_listFitting 24 = .ok (.arraylength, 1) := by decide +kernel
theorem dX2_listFitting_25 : decode cX2_listFitting 25 = .ok (.if_icmp .ge 10, 3) := by decide +kernel
theorem dX2_listFitting_28 : decode cX2_listFitting 28 = .ok (.aload_n 1, 1) := by decide +kernel
theorem dX2_listFitting_29 : decode cX2_listFitting 29 = .ok (.iload_n 2, 1) := by decide +kernel
theorem dX2_listFitting_30 : decode cX2_listFitting 30 = .ok (.iload_n 3, 1) := by decide +kernel
theorem dX2_listFitting_31 : decode cX2_listFitting 31 = .ok (.iastore, 1) := by decide +kernel
theorem dX2_listFitting_32 : decode cX2_listFitting 32 = .ok (.iinc 2 1, 3) := by decide +kernel
theorem dX2_listFitting_35 : decode cX2_listFitting 35 = .ok (.iinc 3 1, 3) := by decide +kernel
theorem dX2_listFitting_38 : decode cX2_listFitting 38 = .ok (.goto (-34), 3) := by decide +kernel
theorem dX2_listFitting_41 : decode cX2_listFitting 41 = .ok (.iload_n 2, 1) := by decide +kernel
theorem dX2_listFitting_42 : decode cX2_listFitting 42 = .ok (.ireturn, 1) := by decide +kernel
set_option maxRecDepth 20000 in
theorem ggX2_fewestInTheWay_X2_inTheWay : GoodIn wsX2_fewestInTheWay wsX2_inTheWay := goodIn_r _ [5, 6, 7, 8, 9, 10, 11, 12, 13, 14, 15, 16, 17, 18, 19, 20, 38, 39, 40, 41] (by decide +kernel) (by decide +kernel)
set_option maxRecDepth 20000 in
theorem gX2_fewestInTheWay_X2_inTheWay : GoodIn wsX2_fewestInTheWay (va_wsS RX2 65 yX2_inTheWay wsX2_inTheWay) := goodIn_app (goodIn_of _ (by decide +kernel)) ggX2_fewestInTheWay_X2_inTheWay
set_option maxRecDepth 20000 in
theorem ggX2_fewestInTheWay_X2_isFewer : GoodIn wsX2_fewestInTheWay wsX2_isFewer := goodIn_r _ [23, 24, 25, 26, 27, 28, 29, 30, 31, 32, 33] (by decide +kernel) (by decide +kernel)
set_option maxRecDepth 20000 in
theorem gX2_fewestInTheWay_X2_isFewer : GoodIn wsX2_fewestInTheWay (va_wsS RX2 69 yX2_isFewer wsX2_isFewer) := goodIn_app (goodIn_of _ (by decide +kernel)) ggX2_fewestInTheWay_X2_isFewer
theorem dX2_fewestInTheWay_0 : decode cX2_fewestInTheWay 0 = .ok (.iconst (-1), 1) := by decide +kernel
theorem dX2_fewestInTheWay_1 : decode cX2_fewestInTheWay 1 = .ok (.istore_n 2, 1) := by decide +kernel
theorem dX2_fewestInTheWay_2 : decode cX2_fewestInTheWay 2 = .ok (.iconst 0, 1) := by decide +kernel
theorem dX2_fewestInTheWay_3 : decode cX2_fewestInTheWay 3 = .ok (.istore_n 3, 1) := by decide +kernel
theorem dX2_fewestInTheWay_4 : decode cX2_fewestInTheWay 4 = .ok (.iload_n 3, 1) := by decide +kernel
theorem dX2_fewestInTheWay_5 : decode cX2_fewestInTheWay 5 = .ok (.sipush 128, 3) := by decide +kernel
theorem dX2_fewestInTheWay_8 : decode cX2_fewestInTheWay 8 = .ok (.if_icmp .ge 42, 3) := by decide +kernel
theorem dX2_fewestInTheWay_11 : decode cX2_fewestInTheWay 11 = .ok (.aload_n 0, 1) := by decide +kernel
theorem dX2_fewestInTheWay_12 : decode cX2_fewestInTheWay 12 = .ok (.getfield 9, 3) := by decide +kernel
theorem dX2_fewestInTheWay_15 : decode cX2_fewestInTheWay 15 = .ok (.iload_n 3, 1) := by decide +kernel
theorem dX2_fewestInTheWay_16 : decode cX2_fewestInTheWay 16 = .ok (.baload, 1) := by decide +kernel
theorem dX2_fewestInTheWay_17 : decode cX2_fewestInTheWay 17 = .ok (.ifCond .eq 27, 3) := by decide +kernel
theorem dX2_fewestInTheWay_20 : decode cX2_fewestInTheWay 20 = .ok (.aload_n 1, 1) := by decide +kernel
theorem dX2_fewestInTheWay_21 : decode cX2_fewestInTheWay 21 = .ok (.iload_n 3, 1) := by decide +kernel
theorem dX2_fewestInTheWay_22 : decode cX2_fewestInTheWay 22 = .ok (.invokestatic 65, 3) := by decide +kernel
theorem dX2_fewestInTheWay_25 : decode cX2_fewestInTheWay 25 = .ok (.istore 4, 2) := by decide +kernel
theorem dX2_fewestInTheWay_27 : decode cX2_fewestInTheWay 27 = .ok (.iload_n 2, 1) := by decide +kernel
theorem dX2_fewestInTheWay_28 : decode cX2_fewestInTheWay 28 = .ok (.iconst (-1), 1) := by decide +kernel
theorem dX2_fewestInTheWay_29 : decode cX2_fewestInTheWay 29 = .ok (.if_icmp .eq 12, 3) := by decide +kernel
theorem dX2_fewestInTheWay_32 : decode cX2_fewestInTheWay 32 = .ok (.iload 4, 2) := by decide +kernel
theorem dX2_fewestInTheWay_34 : decode cX2_fewestInTheWay 34 = .ok (.iload_n 2, 1) := by decide +kernel
theorem dX2_fewestInTheWay_35 : decode cX2_fewestInTheWay 35 = .ok (.invokestatic 69, 3) := by decide +kernel
theorem dX2_fewestInTheWay_38 : decode cX2_fewestInTheWay 38 = .ok (.ifCond .eq 6, 3) := by decide +kernel
theorem dX2_fewestInTheWay_41 : decode cX2_fewestInTheWay 41 = .ok (.iload 4, 2) := by decide +kernel
theorem dX2_fewestInTheWay_43 : decode cX2_fewestInTheWay 43 = .ok (.istore_n 2, 1) := by decide +kernel
theorem dX2_fewestInTheWay_44 : decode cX2_fewestInTheWay 44 = .ok (.iinc 3 1, 3) := by decide +kernel
theorem dX2_fewestInTheWay_47 : decode cX2_fewestInTheWay 47 = .ok (.goto (-43), 3) := by decide +kernel
theorem dX2_fewestInTheWay_50 : decode cX2_fewestInTheWay 50 = .ok (.iload_n 2, 1) := by decide +kernel
theorem dX2_fewestInTheWay_51 : decode cX2_fewestInTheWay 51 = .ok (.ireturn, 1) := by decide +kernel
set_option maxRecDepth 20000 in
theorem ggX2_isFewer_J6_bitCount_0f7a4 : GoodIn wsX2_isFewer wsJ6_bitCount_0f7a4 := goodIn_r _ [4, 5, 6, 7] (by decide +kernel) (by decide +kernel)
set_option maxRecDepth 20000 in
theorem gX2_isFewer_J6_bitCount_0f7a4 : GoodIn wsX2_isFewer (va_wsS RX2 72 yJ6_bitCount_0f7a4 wsJ6_bitCount_0f7a4) := goodIn_app (goodIn_of _ (by decide +kernel)) ggX2_isFewer_J6_bitCount_0f7a4
set_option maxRecDepth 20000 in
theorem ggX2_isFewer_J6_compare_7cf53 : GoodIn wsX2_isFewer wsJ6_compare_7cf53 := goodIn_r _ [10] (by decide +kernel) (by decide +kernel)
set_option maxRecDepth 20000 in
theorem gX2_isFewer_J6_compare_7cf53 : GoodIn wsX2_isFewer (va_wsS RX2 78 yJ6_compare_7cf53 wsJ6_compare_7cf53) := goodIn_app (goodIn_of _ (by decide +kernel)) ggX2_isFewer_J6_compare_7cf53
theorem dX2_isFewer_0 : decode cX2_isFewer 0 = .ok (.iload_n 0, 1) := by decide +kernel
theorem dX2_isFewer_1 : decode cX2_isFewer 1 = .ok (.invokestatic 72, 3) := by decide +kernel
theorem dX2_isFewer_4 : decode cX2_isFewer 4 = .ok (.iload_n 1, 1) := by decide +kernel
theorem dX2_isFewer_5 : decode cX2_isFewer 5 = .ok (.invokestatic 72, 3) := by decide +kernel
theorem dX2_isFewer_8 : decode cX2_isFewer 8 = .ok (.invokestatic 78, 3) := by decide +kernel
theorem dX2_isFewer_11 : decode cX2_isFewer 11 = .ok (.istore_n 2, 1) := by decide +kernel
theorem dX2_isFewer_12 : decode cX2_isFewer 12 = .ok (.iload_n 2, 1) := by decide +kernel
theorem dX2_isFewer_13 : decode cX2_isFewer 13 = .ok (.ifCond .lt 12, 3) := by decide +kernel
theorem dX2_isFewer_16 : decode cX2_isFewer 16 = .ok (.iload_n 2, 1) := by decide +kernel
theorem dX2_isFewer_17 : decode cX2_isFewer 17 = .ok (.ifCond .ne 12, 3) := by decide +kernel
theorem dX2_isFewer_20 : decode cX2_isFewer 20 = .ok (.iload_n 0, 1) := by decide +kernel
theorem dX2_isFewer_21 : decode cX2_isFewer 21 = .ok (.iload_n 1, 1) := by decide +kernel
theorem dX2_isFewer_22 : decode cX2_isFewer 22 = .ok (.if_icmp .ge 7, 3) := by decide +kernel
theorem dX2_isFewer_25 : decode cX2_isFewer 25 = .ok (.iconst 1, 1) := by decide +kernel
theorem dX2_isFewer_26 : decode cX2_isFewer 26 = .ok (.goto 4, 3) := by decide +kernel
theorem dX2_isFewer_29 : decode cX2_isFewer 29 = .ok (.iconst 0, 1) := by decide +kernel
theorem dX2_isFewer_30 : decode cX2_isFewer 30 = .ok (.ireturn, 1) := by decide +kernel
set_option maxRecDepth 20000 in
theorem ggX2_inTheWay_X6_cell : GoodIn wsX2_inTheWay wsX6_cell := goodIn_r _ [6, 7, 8, 9, 16, 17, 18, 19] (by decide +kernel) (by decide +kernel)
set_option maxRecDepth 20000 in
theorem gX2_inTheWay_X6_cell : GoodIn wsX2_inTheWay (wsV RX2 45 RX6 yX6_cell wsX6_cell) := goodIn_app (goodIn_of _ (by decide +kernel)) ggX2_inTheWay_X6_cell
set_option maxRecDepth 20000 in
theorem ggX2_inTheWay_X7_shareOfTen : GoodIn wsX2_inTheWay wsX7_shareOfTen := goodIn_r _ [12, 13, 14, 11, 15] (by decide +kernel) (by decide +kernel)
set_option maxRecDepth 20000 in
theorem gX2_inTheWay_X7_shareOfTen_n61 : GoodIn wsX2_inTheWay (wsX7_shareOfTen) := ggX2_inTheWay_X7_shareOfTen
theorem dX2_inTheWay_0 : decode cX2_inTheWay 0 = .ok (.iconst 0, 1) := by decide +kernel
theorem dX2_inTheWay_1 : decode cX2_inTheWay 1 = .ok (.istore_n 2, 1) := by decide +kernel
theorem dX2_inTheWay_2 : decode cX2_inTheWay 2 = .ok (.iconst 0, 1) := by decide +kernel
theorem dX2_inTheWay_3 : decode cX2_inTheWay 3 = .ok (.istore_n 3, 1) := by decide +kernel
theorem dX2_inTheWay_4 : decode cX2_inTheWay 4 = .ok (.iload_n 3, 1) := by decide +kernel
theorem dX2_inTheWay_5 : decode cX2_inTheWay 5 = .ok (.aload_n 0, 1) := by decide +kernel
theorem dX2_inTheWay_6 : decode cX2_inTheWay 6 = .ok (.getfield 39, 3) := by decide +kernel
theorem dX2_inTheWay_9 : decode cX2_inTheWay 9 = .ok (.if_icmp .ge 40, 3) := by decide +kernel
theorem dX2_inTheWay_12 : decode cX2_inTheWay 12 = .ok (.iload_n 1, 1) := by decide +kernel
theorem dX2_inTheWay_13 : decode cX2_inTheWay 13 = .ok (.aload_n 0, 1) := by decide +kernel
theorem dX2_inTheWay_14 : decode cX2_inTheWay 14 = .ok (.iload_n 3, 1) := by decide +kernel
theorem dX2_inTheWay_15 : decode cX2_inTheWay 15 = .ok (.iconst 0, 1) := by decide +kernel
theorem dX2_inTheWay_16 : decode cX2_inTheWay 16 = .ok (.invokevirtual 45, 3) := by decide +kernel
theorem dX2_inTheWay_19 : decode cX2_inTheWay 19 = .ok (.aload_n 0, 1) := by decide +kernel
theorem dX2_inTheWay_20 : decode cX2_inTheWay 20 = .ok (.iload_n 3, 1) := by decide +kernel
theorem dX2_inTheWay_21 : decode cX2_inTheWay 21 = .ok (.iconst 1, 1) := by decide +kernel
theorem dX2_inTheWay_22 : decode cX2_inTheWay 22 = .ok (.invokevirtual 45, 3) := by decide +kernel
theorem dX2_inTheWay_25 : decode cX2_inTheWay 25 = .ok (.aload_n 0, 1) := by decide +kernel
theorem dX2_inTheWay_26 : decode cX2_inTheWay 26 = .ok (.iload_n 3, 1) := by decide +kernel
theorem dX2_inTheWay_27 : decode cX2_inTheWay 27 = .ok (.iconst 2, 1) := by decide +kernel
theorem dX2_inTheWay_28 : decode cX2_inTheWay 28 = .ok (.invokevirtual 45, 3) := by decide +kernel
theorem dX2_inTheWay_31 : decode cX2_inTheWay 31 = .ok (.invokestatic 61, 3) := by decide +kernel
theorem dX2_inTheWay_34 : decode cX2_inTheWay 34 = .ok (.ifCond .ne 9, 3) := by decide +kernel
theorem dX2_inTheWay_37 : decode cX2_inTheWay 37 = .ok (.iload_n 2, 1) := by decide +kernel
theorem dX2_inTheWay_38 : decode cX2_inTheWay 38 = .ok (.iconst 1, 1) := by decide +kernel
theorem dX2_inTheWay_39 : decode cX2_inTheWay 39 = .ok (.iload_n 3, 1) := by decide +kernel
theorem dX2_inTheWay_40 : decode cX2_inTheWay 40 = .ok (.ishl, 1) := by decide +kernel
theorem dX2_inTheWay_41 : decode cX2_inTheWay 41 = .ok (.ior, 1) := by decide +kernel
theorem dX2_inTheWay_42 : decode cX2_inTheWay 42 = .ok (.istore_n 2, 1) := by decide +kernel
theorem dX2_inTheWay_43 : decode cX2_inTheWay 43 = .ok (.iinc 3 1, 3) := by decide +kernel
theorem dX2_inTheWay_46 : decode cX2_inTheWay 46 = .ok (.goto (-42), 3) := by decide +kernel
theorem dX2_inTheWay_49 : decode cX2_inTheWay 49 = .ok (.iload_n 2, 1) := by decide +kernel
theorem dX2_inTheWay_50 : decode cX2_inTheWay 50 = .ok (.ireturn, 1) := by decide +kernel
theorem dX3_init_0 : decode cX3_init 0 = .ok (.aload_n 0, 1) := by decide +kernel
theorem dX3_init_1 : decode cX3_init 1 = .ok (.invokespecial 3, 3) := by decide +kernel
theorem dX3_init_4 : decode cX3_init 4 = .ok (.aload_n 0, 1) := by decide +kernel
theorem dX3_init_5 : decode cX3_init 5 = .ok (.sipush 150, 3) := by decide +kernel
theorem dX3_init_8 : decode cX3_init 8 = .ok (.newarray .byte, 2) := by decide +kernel
theorem dX3_init_10 : decode cX3_init 10 = .ok (.putfield 9, 3) := by decide +kernel
theorem dX3_init_13 : decode cX3_init 13 = .ok (.aload_n 0, 1) := by decide +kernel
theorem dX3_init_14 : decode cX3_init 14 = .ok (.iconst 5, 1) := by decide +kernel
theorem dX3_init_15 : decode cX3_init 15 = .ok (.newarray .int, 2) := by decide +kernel
theorem dX3_init_17 : decode cX3_init 17 = .ok (.putfield 17, 3) := by decide +kernel
theorem dX3_init_20 : decode cX3_init 20 = .ok (.return_, 1) := by decide +kernel
theorem dX3_append_0 : decode cX3_append 0 = .ok (.aload_n 0, 1) := by decide +kernel
theorem dX3_append_1 : decode cX3_append 1 = .ok (.getfield 21, 3) := by decide +kernel
theorem dX3_append_4 : decode cX3_append 4 = .ok (.sipush 150, 3) := by decide +kernel
theorem dX3_append_7 : decode cX3_append 7 = .ok (.if_icmp .ge 24, 3) := by decide +kernel
theorem dX3_append_10 : decode cX3_append 10 = .ok (.aload_n 0, 1) := by decide +kernel
theorem dX3_append_11 : decode cX3_append 11 = .ok (.getfield 9, 3) := by decide +kernel
theorem dX3_append_14 : decode cX3_append 14 = .ok (.aload_n 0, 1) := by decide +kernel
theorem dX3_append_15 : decode cX3_append 15 = .ok (.getfield 21, 3) := by decide +kernel
theorem dX3_append_18 : decode cX3_append 18 = .ok (.iload_n 1, 1) := by decide +kernel
theorem dX3_append_19 : decode cX3_append 19 = .ok (.i2b, 1) := by decide +kernel
theorem dX3_append_20 : decode cX3_append 20 = .ok (.bastore, 1) := by decide +kernel
theorem dX3_append_21 : decode cX3_append 21 = .ok (.aload_n 0, 1) := by decide +kernel
theorem dX3_append_22 : decode cX3_append 22 = .ok (.dup, 1) := by decide +kernel
theorem dX3_append_23 : decode cX3_append 23 = .ok (.getfield 21, 3) := by decide +kernel
theorem dX3_append_26 : decode cX3_append 26 = .ok (.iconst 1, 1) := by decide +kernel
theorem dX3_append_27 : decode cX3_append 27 = .ok (.iadd, 1) := by decide +kernel
theorem dX3_append_28 : decode cX3_append 28 = .ok (.putfield 21, 3) := by decide +kernel
theorem dX3_append_31 : decode cX3_append 31 = .ok (.return_, 1) := by decide +kernel
set_option maxRecDepth 20000 in
theorem ggX3_readInto_X5_empty : GoodIn wsX3_readInto wsX5_empty := goodIn_r _ [7, 8, 9, 10, 11, 12, 13, 14, 15, 16, 17, 18, 132, 133, 134, 135, 136, 137, 138, 139, 140, 141, 142] (by decide +kernel) (by decide +kernel)
set_option maxRecDepth 20000 in
theorem gX3_readInto_X5_empty : GoodIn wsX3_readInto (wsV RX3 25 RX5 yX5_empty wsX5_empty) := goodIn_app (goodIn_of _ (by decide +kernel)) ggX3_readInto_X5_empty
set_option maxRecDepth 20000 in
theorem ggX3_readInto_X3_takeToken : GoodIn wsX3_readInto wsX3_takeToken := goodIn_r _ [23, 1, 24, 25, 26, 2, 27, 28, 22, 29, 30, 31, 32, 33, 34, 35, 36, 126, 127, 128, 129, 130, 131] (by decide +kernel) (by decide +kernel)
set_option maxRecDepth 20000 in
theorem gX3_readInto_X3_takeToken : GoodIn wsX3_readInto (wsV RX3 33 RX3 yX3_takeToken wsX3_takeToken) := goodIn_app (goodIn_of _ (by decide +kernel)) ggX3_readInto_X3_takeToken
set_option maxRecDepth 20000 in
theorem ggX3_readInto_X3_readItem : GoodIn wsX3_readInto wsX3_readItem := goodIn_r _ [40, 2, 41, 42, 43, 44, 45, 46, 47, 48, 49, 22, 50, 1, 24, 25, 26, 51, 52, 53, 54, 55, 56, 57, 58, 59, 60, 61, 62, 63, 64, 65, 66, 67, 68, 69, 70, 71, 72, 73, 74, 75, 76, 77, 78, 79, 80, 81, 82, 83, 84, 85, 86, 87, 88, 89, 90, 91, 92, 93, 94, 95, 96, 97, 98, 99, 19, 20, 21, 23, 27, 28, 29, 30, 31, 32, 33, 34, 35, 36, 100, 101, 102, 103, 104, 105, 106, 107, 16, 108, 18, 109, 110, 111, 112, 113, 114, 115, 116, 117, 118, 119, 120, 121, 122, 123, 124, 125, 126, 127, 128, 129, 130, 131, 132, 133, 134, 135, 136, 137, 138, 139, 140, 141, 142] (by decide +kernel) (by decide +kernel)
set_option maxRecDepth 20000 in
theorem gX3_readInto_X3_readItem : GoodIn wsX3_readInto (wsV RX3 39 RX3 yX3_readItem wsX3_readItem) := goodIn_app (goodIn_of _ (by decide +kernel)) ggX3_readInto_X3_readItem
theorem dX3_readInto_0 : decode cX3_readInto 0 = .ok (.aload_n 1, 1) := by decide +kernel
theorem dX3_readInto_1 : decode cX3_readInto 1 = .ok (.invokevirtual 25, 3) := by decide +kernel
theorem dX3_readInto_4 : decode cX3_readInto 4 = .ok (.aload_n 0, 1) := by decide +kernel
theorem dX3_readInto_5 : decode cX3_readInto 5 = .ok (.iconst 0, 1) := by decide +kernel
theorem dX3_readInto_6 : decode cX3_readInto 6 = .ok (.putfield 30, 3) := by decide +kernel
theorem dX3_readInto_9 : decode cX3_readInto 9 = .ok (.iconst 0, 1) := by decide +kernel
theorem dX3_readInto_10 : decode cX3_readInto 10 = .ok (.istore_n 2, 1) := by decide +kernel
theorem dX3_readInto_11 : decode cX3_readInto 11 = .ok (.iload_n 2, 1) := by decide +kernel
theorem dX3_readInto_12 : decode cX3_readInto 12 = .ok (.sipush 150, 3) := by decide +kernel
theorem dX3_readInto_15 : decode cX3_readInto 15 = .ok (.if_icmp .gt 49, 3) := by decide +kernel
theorem dX3_readInto_18 : decode cX3_readInto 18 = .ok (.aload_n 0, 1) := by decide +kernel
theorem dX3_readInto_19 : decode cX3_readInto 19 = .ok (.invokevirtual 33, 3) := by decide +kernel
theorem dX3_readInto_22 : decode cX3_readInto 22 = .ok (.aload_n 0, 1) := by decide +kernel
theorem dX3_readInto_23 : decode cX3_readInto 23 = .ok (.getfield 36, 3) := by decide +kernel
theorem dX3_readInto_26 : decode cX3_readInto 26 = .ok (.ifCond .ne 13, 3) := by decide +kernel
theorem dX3_readInto_29 : decode cX3_readInto 29 = .ok (.iload_n 2, 1) := by decide +kernel
theorem dX3_readInto_30 : decode cX3_readInto 30 = .ok (.ifCond .ne 7, 3) := by decide +kernel
theorem dX3_readInto_33 : decode cX3_readInto 33 = .ok (.iconst (-1), 1) := by decide +kernel
theorem dX3_readInto_34 : decode cX3_readInto 34 = .ok (.goto 4, 3) := by decide +kernel
theorem dX3_readInto_37 : decode cX3_readInto 37 = .ok (.iload_n 2, 1) := by decide +kernel
theorem dX3_readInto_38 : decode cX3_readInto 38 = .ok (.ireturn, 1) := by decide +kernel
theorem dX3_readInto_39 : decode cX3_readInto 39 = .ok (.aload_n 0, 1) := by decide +kernel
theorem dX3_readInto_40 : decode cX3_readInto 40 = .ok (.aload_n 1, 1) := by decide +kernel
theorem dX3_readInto_41 : decode cX3_readInto 41 = .ok (.iload_n 2, 1) := by decide +kernel
theorem dX3_readInto_42 : decode cX3_readInto 42 = .ok (.ifCond .ne 7, 3) := by decide +kernel
theorem dX3_readInto_45 : decode cX3_readInto 45 = .ok (.iconst 1, 1) := by decide +kernel
theorem dX3_readInto_46 : decode cX3_readInto 46 = .ok (.goto 4, 3) := by decide +kernel
theorem dX3_readInto_49 : decode cX3_readInto 49 = .ok (.iconst 0, 1) := by decide +kernel
theorem dX3_readInto_50 : decode cX3_readInto 50 = .ok (.invokevirtual 39, 3) := by decide +kernel
theorem dX3_readInto_53 : decode cX3_readInto 53 = .ok (.ifCond .ne 5, 3) := by decide +kernel
theorem dX3_readInto_56 : decode cX3_readInto 56 = .ok (.iconst (-1), 1) := by decide +kernel
theorem dX3_readInto_57 : decode cX3_readInto 57 = .ok (.ireturn, 1) := by decide +kernel
theorem dX3_readInto_58 : decode cX3_readInto 58 = .ok (.iinc 2 1, 3) := by decide +kernel
theorem dX3_readInto_61 : decode cX3_readInto 61 = .ok (.goto (-50), 3) := by decide +kernel
theorem dX3_readInto_64 : decode cX3_readInto 64 = .ok (.iconst (-1), 1) := by decide +kernel
theorem dX3_readInto_65 : decode cX3_readInto 65 = .ok (.ireturn, 1) := by decide +kernel
set_option maxRecDepth 20000 in
theorem ggX3_readItem_X3_isWord : GoodIn wsX3_readItem wsX3_isWord := goodIn_r _ [12, 13, 14, 15, 16, 17, 18, 19, 20, 21, 22, 23, 24, 25, 26, 27, 28, 29, 30, 31, 32, 33, 34, 35, 36, 37, 38, 39, 40, 41, 42, 43, 44, 45, 46, 47, 48, 49, 50, 51, 52, 53, 54, 55, 56, 57, 58, 59, 60, 61, 62, 63, 64, 65, 108, 109, 110, 111, 112, 113] (by decide +kernel) (by decide +kernel)
set_option maxRecDepth 20000 in
theorem gX3_readItem_X3_isWord : GoodIn wsX3_readItem (wsV RX3 45 RX3 yX3_isWord wsX3_isWord) := goodIn_app (goodIn_of _ (by decide +kernel)) ggX3_readItem_X3_isWord
set_option maxRecDepth 20000 in
theorem ggX3_readItem_X3_takeToken : GoodIn wsX3_readItem wsX3_takeToken := goodIn_r _ [69, 13, 14, 15, 16, 1, 70, 71, 11, 72, 73, 74, 75, 76, 77, 78, 79, 108, 109, 110, 111, 112, 113] (by decide +kernel) (by decide +kernel)
set_option maxRecDepth 20000 in
theorem gX3_readItem_X3_takeToken : GoodIn wsX3_readItem (wsV RX3 33 RX3 yX3_takeToken wsX3_takeToken) := goodIn_app (goodIn_of _ (by decide +kernel)) ggX3_readItem_X3_takeToken
set_option maxRecDepth 20000 in
theorem ggX3_readItem_X3_readRow : GoodIn wsX3_readItem wsX3_readRow := goodIn_r _ [83, 84, 1, 85, 86, 87, 88, 89, 90, 91, 66, 67, 68, 11, 69, 13, 14, 15, 16, 70, 71, 72, 73, 74, 75, 76, 77, 78, 79, 92, 93, 94, 95, 96, 97, 98, 99, 100, 101, 102, 103, 104, 105, 106, 107, 108, 109, 110, 111, 112, 113, 121, 122, 123, 124] (by decide +kernel) (by decide +kernel)
set_option maxRecDepth 20000 in
theorem gX3_readItem_X3_readRow : GoodIn wsX3_readItem (wsV RX3 58 RX3 yX3_readRow wsX3_readRow) := goodIn_app (goodIn_of _ (by decide +kernel)) ggX3_readItem_X3_readRow
theorem dX3_readItem_0 : decode cX3_readItem 0 = .ok (.aload_n 0, 1) := by decide +kernel
theorem dX3_readItem_1 : decode cX3_readItem 1 = .ok (.getfield 36, 3) := by decide +kernel
theorem dX3_readItem_4 : decode cX3_readItem 4 = .ok (.iconst 1, 1) := by decide +kernel
theorem dX3_readItem_5 : decode cX3_readItem 5 = .ok (.if_icmp .ne 13, 3) := by decide +kernel
theorem dX3_readItem_8 : decode cX3_readItem 8 = .ok (.iload_n 2, 1) := by decide +kernel
theorem dX3_readItem_9 : decode cX3_readItem 9 = .ok (.aload_n 0, 1) := by decide +kernel
theorem dX3_readItem_10 : decode cX3_readItem 10 = .ok (.ldc 43, 2) := by decide +kernel
theorem dX3_readItem_12 : decode cX3_readItem 12 = .ok (.invokevirtual 45, 3) := by decide +kernel
theorem dX3_readItem_15 : decode cX3_readItem 15 = .ok (.if_icmp .eq 5, 3) := by decide +kernel
theorem dX3_readItem_18 : decode cX3_readItem 18 = .ok (.iconst 0, 1) := by decide +kernel
theorem dX3_readItem_19 : decode cX3_readItem 19 = .ok (.ireturn, 1) := by decide +kernel
theorem dX3_readItem_20 : decode cX3_readItem 20 = .ok (.iload_n 2, 1) := by decide +kernel
theorem dX3_readItem_21 : decode cX3_readItem 21 = .ok (.ifCond .eq 21, 3) := by decide +kernel
theorem dX3_readItem_24 : decode cX3_readItem 24 = .ok (.aload_n 0, 1) := by decide +kernel
theorem dX3_readItem_25 : decode cX3_readItem 25 = .ok (.invokevirtual 33, 3) := by decide +kernel
theorem dX3_readItem_28 : decode cX3_readItem 28 = .ok (.aload_n 0, 1) := by decide +kernel
theorem dX3_readItem_29 : decode cX3_readItem 29 = .ok (.getfield 36, 3) := by decide +kernel
theorem dX3_readItem_32 : decode cX3_readItem 32 = .ok (.iconst 3, 1) := by decide +kernel
theorem dX3_readItem_33 : decode cX3_readItem 33 = .ok (.if_icmp .ne 7, 3) := by decide +kernel
theorem dX3_readItem_36 : decode cX3_readItem 36 = .ok (.iconst 1, 1) := by decide +kernel
theorem dX3_readItem_37 : decode cX3_readItem 37 = .ok (.goto 4, 3) := by decide +kernel
theorem dX3_readItem_40 : decode cX3_readItem 40 = .ok (.iconst 0, 1) := by decide +kernel
theorem dX3_readItem_41 : decode cX3_readItem 41 = .ok (.ireturn, 1) := by decide +kernel
theorem dX3_readItem_42 : decode cX3_readItem 42 = .ok (.aload_n 0, 1) := by decide +kernel
theorem dX3_readItem_43 : decode cX3_readItem 43 = .ok (.ldc 49, 2) := by decide +kernel
theorem dX3_readItem_45 : decode cX3_readItem 45 = .ok (.invokevirtual 45, 3) := by decide +kernel
theorem dX3_readItem_48 : decode cX3_readItem 48 = .ok (.ifCond .eq 15, 3) := by decide +kernel
theorem dX3_readItem_51 : decode cX3_readItem 51 = .ok (.aload_n 0, 1) := by decide +kernel
theorem dX3_readItem_52 : decode cX3_readItem 52 = .ok (.aload_n 1, 1) := by decide +kernel
theorem dX3_readItem_53 : decode cX3_readItem 53 = .ok (.getfield 51, 3) := by decide +kernel
theorem dX3_readItem_56 : decode cX3_readItem 56 = .ok (.getstatic 55, 3) := by decide +kernel
theorem dX3_readItem_59 : decode cX3_readItem 59 = .ok (.invokevirtual 58, 3) := by decide +kernel
theorem dX3_readItem_62 : decode cX3_readItem 62 = .ok (.ireturn, 1) := by decide +kernel
theorem dX3_readItem_63 : decode cX3_readItem 63 = .ok (.aload_n 0, 1) := by decide +kernel
theorem dX3_readItem_64 : decode cX3_readItem 64 = .ok (.ldc 62, 2) := by decide +kernel
theorem dX3_readItem_66 : decode cX3_readItem 66 = .ok (.invokevirtual 45, 3) := by decide +kernel
theorem dX3_readItem_69 : decode cX3_readItem 69 = .ok (.ifCond .eq 15, 3) := by decide +kernel
theorem dX3_readItem_72 : decode cX3_readItem 72 = .ok (.aload_n 0, 1) := by decide +kernel
theorem dX3_readItem_73 : decode cX3_readItem 73 = .ok (.aload_n 1, 1) := by decide +kernel
theorem dX3_readItem_74 : decode cX3_readItem 74 = .ok (.getfield 64, 3) := by decide +kernel
theorem dX3_readItem_77 : decode cX3_readItem 77 = .ok (.getstatic 67, 3) := by decide +kernel
theorem dX3_readItem_80 : decode cX3_readItem 80 = .ok (.invokevirtual 58, 3) := by decide +kernel
theorem dX3_readItem_83 : decode cX3_readItem 83 = .ok (.ireturn, 1) := by decide +kernel
theorem dX3_readItem_84 : decode cX3_readItem 84 = .ok (.aload_n 0, 1) := by decide +kernel
theorem dX3_readItem_85 : decode cX3_readItem 85 = .ok (.ldc 70, 2) := by decide +kernel
theorem dX3_readItem_87 : decode cX3_readItem 87 = .ok (.invokevirtual 45, 3) := by decide +kernel
theorem dX3_readItem_90 : decode cX3_readItem 90 = .ok (.ifCond .eq 21, 3) := by decide +kernel
theorem dX3_readItem_93 : decode cX3_readItem 93 = .ok (.aload_n 0, 1) := by decide +kernel
theorem dX3_readItem_94 : decode cX3_readItem 94 = .ok (.aload_n 1, 1) := by decide +kernel
theorem dX3_readItem_95 : decode cX3_readItem 95 = .ok (.getfield 72, 3) := by decide +kernel
theorem dX3_readItem_98 : decode cX3_readItem 98 = .ok (.getstatic 75, 3) := by decide +kernel
theorem dX3_readItem_101 : decode cX3_readItem 101 = .ok (.invokevirtual 58, 3) := by decide +kernel
theorem dX3_readItem_104 : decode cX3_readItem 104 = .ok (.ifCond .eq 7, 3) := by decide +kernel
theorem dX3_readItem_107 : decode cX3_readItem 107 = .ok (.iconst 1, 1) := by decide +kernel
theorem dX3_readItem_108 : decode cX3_readItem 108 = .ok (.goto 4, 3) := by decide +kernel
theorem dX3_readItem_111 : decode cX3_readItem 111 = .ok (.iconst 0, 1) := by decide +kernel
theorem dX3_readItem_112 : decode cX3_readItem 112 = .ok (.ireturn, 1) := by decide +kernel
set_option maxRecDepth 20000 in
theorem ggX3_readRow_X6_isFull : GoodIn wsX3_readRow wsX6_isFull := goodIn_r _ [7, 8, 9, 51, 52, 53, 54] (by decide +kernel) (by decide +kernel)
set_option maxRecDepth 20000 in
theorem gX3_readRow_X6_isFull : GoodIn wsX3_readRow (wsV RX3 78 RX6 yX6_isFull wsX6_isFull) := goodIn_app (goodIn_of _ (by decide +kernel)) ggX3_readRow_X6_isFull
set_option maxRecDepth 20000 in
theorem ggX3_readRow_X3_takeToken : GoodIn wsX3_readRow wsX3_takeToken := goodIn_r _ [14, 15, 16, 17, 18, 2, 19, 20, 13, 21, 22, 23, 24, 25, 26, 27, 28, 45, 46, 47, 48, 49, 50] (by decide +kernel) (by decide +kernel)
set_option maxRecDepth 20000 in
theorem gX3_readRow_X3_takeToken : GoodIn wsX3_readRow (wsV RX3 33 RX3 yX3_takeToken wsX3_takeToken) := goodIn_app (goodIn_of _ (by decide +kernel)) ggX3_readRow_X3_takeToken
set_option maxRecDepth 20000 in
theorem ggX3_readRow_X3_numberHere : GoodIn wsX3_readRow wsX3_numberHere := goodIn_r _ [32, 16, 15, 17, 18, 45, 46, 47, 48, 49, 50] (by decide +kernel) (by decide +kernel)
set_option maxRecDepth 20000 in
theorem gX3_readRow_X3_numberHere : GoodIn wsX3_readRow (wsV RX3 82 RX3 yX3_numberHere wsX3_numberHere) := goodIn_app (goodIn_of _ (by decide +kernel)) ggX3_readRow_X3_numberHere
set_option maxRecDepth 20000 in
theorem ggX3_readRow_X6_addThree : GoodIn wsX3_readRow wsX6_addThree := goodIn_r _ [36, 37, 8, 38, 39, 4, 5, 6, 7, 9, 51, 52, 53, 54] (by decide +kernel) (by decide +kernel)
set_option maxRecDepth 20000 in
theorem gX3_readRow_X6_addThree : GoodIn wsX3_readRow (wsV RX3 86 RX6 yX6_addThree wsX6_addThree) := goodIn_app (goodIn_of _ (by decide +kernel)) ggX3_readRow_X6_addThree
set_option maxRecDepth 20000 in
theorem ggX3_readRow_X6_addFive : GoodIn wsX3_readRow wsX6_addFive := goodIn_r _ [43, 37, 8, 38, 39, 4, 5, 6, 7, 9, 44, 34, 35, 36, 51, 52, 53, 54] (by decide +kernel) (by decide +kernel)
set_option maxRecDepth 20000 in
theorem gX3_readRow_X6_addFive : GoodIn wsX3_readRow (wsV RX3 90 RX6 yX6_addFive wsX6_addFive) := goodIn_app (goodIn_of _ (by decide +kernel)) ggX3_readRow_X6_addFive
theorem dX3_readRow_0 : decode cX3_readRow 0 = .ok (.aload_n 1, 1) := by decide +kernel
theorem dX3_readRow_1 : decode cX3_readRow 1 = .ok (.invokevirtual 78, 3) := by decide +kernel
theorem dX3_readRow_4 : decode cX3_readRow 4 = .ok (.ifCond .eq 5, 3) := by decide +kernel
theorem dX3_readRow_7 : decode cX3_readRow 7 = .ok (.iconst 0, 1) := by decide +kernel
theorem dX3_readRow_8 : decode cX3_readRow 8 = .ok (.ireturn, 1) := by decide +kernel
theorem dX3_readRow_9 : decode cX3_readRow 9 = .ok (.iconst 0, 1) := by decide +kernel
theorem dX3_readRow_10 : decode cX3_readRow 10 = .ok (.istore_n 3, 1) := by decide +kernel
theorem dX3_readRow_11 : decode cX3_readRow 11 = .ok (.iload_n 3, 1) := by decide +kernel
theorem dX3_readRow_12 : decode cX3_readRow 12 = .ok (.aload_n 2, 1) := by decide +kernel
theorem dX3_readRow_13 : decode cX3_readRow 13 = .ok (.arraylength, 1) := by decide +kernel
theorem dX3_readRow_14 : decode cX3_readRow 14 = .ok (.if_icmp .ge 66, 3) := by decide +kernel
theorem dX3_readRow_17 : decode cX3_readRow 17 = .ok (.iload_n 3, 1) := by decide +kernel
theorem dX3_readRow_18 : decode cX3_readRow 18 = .ok (.aload_n 0, 1) := by decide +kernel
theorem dX3_readRow_19 : decode cX3_readRow 19 = .ok (.getfield 17, 3) := by decide +kernel
theorem dX3_readRow_22 : decode cX3_readRow 22 = .ok (.arraylength, 1) := by decide +kernel
theorem dX3_readRow_23 : decode cX3_readRow 23 = .ok (.if_icmp .ge 57, 3) := by decide +kernel
theorem dX3_readRow_26 : decode cX3_readRow 26 = .ok (.aload_n 0, 1) := by decide +kernel
theorem dX3_readRow_27 : decode cX3_readRow 27 = .ok (.invokevirtual 33, 3) := by decide +kernel
theorem dX3_readRow_30 : decode cX3_readRow 30 = .ok (.aload_n 0, 1) := by decide +kernel
theorem dX3_readRow_31 : decode cX3_readRow 31 = .ok (.getfield 36, 3) := by decide +kernel
theorem dX3_readRow_34 : decode cX3_readRow 34 = .ok (.iconst 2, 1) := by decide +kernel
theorem dX3_readRow_35 : decode cX3_readRow 35 = .ok (.if_icmp .eq 5, 3) := by decide +kernel
theorem dX3_readRow_38 : decode cX3_readRow 38 = .ok (.iconst 0, 1) := by decide +kernel
theorem dX3_readRow_39 : decode cX3_readRow 39 = .ok (.ireturn, 1) := by decide +kernel
theorem dX3_readRow_40 : decode cX3_readRow 40 = .ok (.aload_n 0, 1) := by decide +kernel
theorem dX3_readRow_41 : decode cX3_readRow 41 = .ok (.invokevirtual 82, 3) := by decide +kernel
theorem dX3_readRow_44 : decode cX3_readRow 44 = .ok (.istore 4, 2) := by decide +kernel
theorem dX3_readRow_46 : decode cX3_readRow 46 = .ok (.iload 4, 2) := by decide +kernel
theorem dX3_readRow_48 : decode cX3_readRow 48 = .ok (.aload_n 2, 1) := by decide +kernel
theorem dX3_readRow_49 : decode cX3_readRow 49 = .ok (.iload_n 3, 1) := by decide +kernel
theorem dX3_readRow_50 : decode cX3_readRow 50 = .ok (.iaload, 1) := by decide +kernel
theorem dX3_readRow_51 : decode cX3_readRow 51 = .ok (.if_icmp .gt 13, 3) := by decide +kernel
theorem dX3_readRow_54 : decode cX3_readRow 54 = .ok (.iload_n 3, 1) := by decide +kernel
theorem dX3_readRow_55 : decode cX3_readRow 55 = .ok (.iconst 3, 1) := by decide +kernel
theorem dX3_readRow_56 : decode cX3_readRow 56 = .ok (.if_icmp .ne 10, 3) := by decide +kernel
theorem dX3_readRow_59 : decode cX3_readRow 59 = .ok (.iload 4, 2) := by decide +kernel
theorem dX3_readRow_61 : decode cX3_readRow 61 = .ok (.ifCond .ne 5, 3) := by decide +kernel
theorem dX3_readRow_64 : decode cX3_readRow 64 = .ok (.iconst 0, 1) := by decide +kernel
theorem dX3_readRow_65 : decode cX3_readRow 65 = .ok (.ireturn, 1) := by decide +kernel
theorem dX3_readRow_66 : decode cX3_readRow 66 = .ok (.aload_n 0, 1) := by decide +kernel
theorem dX3_readRow_67 : decode cX3_readRow 67 = .ok (.getfield 17, 3) := by decide +kernel
theorem dX3_readRow_70 : decode cX3_readRow 70 = .ok (.iload_n 3, 1) := by decide +kernel
theorem dX3_readRow_71 : decode cX3_readRow 71 = .ok (.iload 4, 2) := by decide +kernel
theorem dX3_readRow_73 : decode cX3_readRow 73 = .ok (.iastore, 1) := by decide +kernel
theorem dX3_readRow_74 : decode cX3_readRow 74 = .ok (.iinc 3 1, 3) := by decide +kernel
theorem dX3_readRow_77 : decode cX3_readRow 77 = .ok (.goto (-66), 3) := by decide +kernel
theorem dX3_readRow_80 : decode cX3_readRow 80 = .ok (.aload_n 0, 1) := by decide +kernel
theorem dX3_readRow_81 : decode cX3_readRow 81 = .ok (.invokevirtual 33, 3) := by decide +kernel
theorem dX3_readRow_84 : decode cX3_readRow 84 = .ok (.aload_n 0, 1) := by decide +kernel
theorem dX3_readRow_85 : decode cX3_readRow 85 = .ok (.getfield 36, 3) := by decide +kernel
theorem dX3_readRow_88 : decode cX3_readRow 88 = .ok (.iconst 3, 1) := by decide +kernel
theorem dX3_readRow_89 : decode cX3_readRow 89 = .ok (.if_icmp .eq 5, 3) := by decide +kernel
theorem dX3_readRow_92 : decode cX3_readRow 92 = .ok (.iconst 0, 1) := by decide +kernel
theorem dX3_readRow_93 : decode cX3_readRow 93 = .ok (.ireturn, 1) := by decide +kernel
theorem dX3_readRow_94 : decode cX3_readRow 94 = .ok (.aload_n 2, 1) := by decide +kernel
theorem dX3_readRow_95 : decode cX3_readRow 95 = .ok (.arraylength, 1) := by decide +kernel
theorem dX3_readRow_96 : decode cX3_readRow 96 = .ok (.iconst 3, 1) := by decide +kernel
theorem dX3_readRow_97 : decode cX3_readRow 97 = .ok (.if_icmp .ne 28, 3) := by decide +kernel
theorem dX3_readRow_100 : decode cX3_readRow 100 = .ok (.aload_n 1, 1) := by decide +kernel
theorem dX3_readRow_101 : decode cX3_readRow 101 = .ok (.aload_n 0, 1) := by decide +kernel
theorem dX3_readRow_102 : decode cX3_readRow 102 = .ok (.getfield 17, 3) := by decide +kernel
theorem dX3_readRow_105 : decode cX3_readRow 105 = .ok (.iconst 0, 1) := by decide +kernel
theorem dX3_readRow_106 : decode cX3_readRow 106 = .ok (.iaload, 1) := by decide +kernel
theorem dX3_readRow_107 : decode cX3_readRow 107 = .ok (.aload_n 0, 1) := by decide +kernel
theorem dX3_readRow_108 : decode cX3_readRow 108 = .ok (.getfield 17, 3) := by decide +kernel
theorem dX3_readRow_111 : decode cX3_readRow 111 = .ok (.iconst 1, 1) := by decide +kernel
theorem dX3_readRow_112 : decode cX3_readRow 112 = .ok (.iaload, 1) := by decide +kernel
theorem dX3_readRow_113 : decode cX3_readRow 113 = .ok (.aload_n 0, 1) := by decide +kernel
theorem dX3_readRow_114 : decode cX3_readRow 114 = .ok (.getfield 17, 3) := by decide +kernel
theorem dX3_readRow_117 : decode cX3_readRow 117 = .ok (.iconst 2, 1) := by decide +kernel
theorem dX3_readRow_118 : decode cX3_readRow 118 = .ok (.iaload, 1) := by decide +kernel
theorem dX3_readRow_119 : decode cX3_readRow 119 = .ok (.invokevirtual 86, 3) := by decide +kernel
theorem dX3_readRow_122 : decode cX3_readRow 122 = .ok (.goto 37, 3) := by decide +kernel
theorem dX3_readRow_125 : decode cX3_readRow 125 = .ok (.aload_n 1, 1) := by decide +kernel
theorem dX3_readRow_126 : decode cX3_readRow 126 = .ok (.aload_n 0, 1) := by decide +kernel
theorem dX3_readRow_127 : decode cX3_readRow 127 = .ok (.getfield 17, 3) := by decide +kernel
theorem dX3_readRow_130 : decode cX3_readRow 130 = .ok (.iconst 0, 1) := by decide +kernel
theorem dX3_readRow_131 : decode cX3_readRow 131 = .ok (.iaload, 1) := by decide +kernel
theorem dX3_readRow_132 : decode cX3_readRow 132 = .ok (.aload_n 0, 1) := by decide +kernel
theorem dX3_readRow_133 : decode cX3_readRow 133 = .ok (.getfield 17, 3) := by decide +kernel
theorem dX3_readRow_136 : decode cX3_readRow 136 = .ok (.iconst 1, 1) := by decide +kernel
theorem dX3_readRow_137 : decode cX3_readRow 137 = .ok (.iaload, 1) := by decide +kernel
theorem dX3_readRow_138 : decode cX3_readRow 138 = .ok (.aload_n 0, 1) := by decide +kernel
theorem dX3_readRow_139 : decode cX3_readRow 139 = .ok (.getfield 17, 3) := by decide +kernel
theorem dX3_readRow_142 : decode cX3_readRow 142 = .ok (.iconst 2, 1) := by decide +kernel
theorem dX3_readRow_143 : decode cX3_readRow 143 = .ok (.iaload, 1) := by decide +kernel
theorem dX3_readRow_144 : decode cX3_readRow 144 = .ok (.aload_n 0, 1) := by decide +kernel
theorem dX3_readRow_145 : decode cX3_readRow 145 = .ok (.getfield 17, 3) := by decide +kernel
theorem dX3_readRow_148 : decode cX3_readRow 148 = .ok (.iconst 3, 1) := by decide +kernel
theorem dX3_readRow_149 : decode cX3_readRow 149 = .ok (.iaload, 1) := by decide +kernel
theorem dX3_readRow_150 : decode cX3_readRow 150 = .ok (.aload_n 0, 1) := by decide +kernel
theorem dX3_readRow_151 : decode cX3_readRow 151 = .ok (.getfield 17, 3) := by decide +kernel
theorem dX3_readRow_154 : decode cX3_readRow 154 = .ok (.iconst 4, 1) := by decide +kernel
theorem dX3_readRow_155 : decode cX3_readRow 155 = .ok (.iaload, 1) := by decide +kernel
theorem dX3_readRow_156 : decode cX3_readRow 156 = .ok (.invokevirtual 90, 3) := by decide +kernel
theorem dX3_readRow_159 : decode cX3_readRow 159 = .ok (.iconst 1, 1) := by decide +kernel
theorem dX3_readRow_160 : decode cX3_readRow 160 = .ok (.ireturn, 1) := by decide +kernel
set_option maxRecDepth 20000 in
theorem ggX3_takeToken_X3_isLetter : GoodIn wsX3_takeToken wsX3_isLetter := goodIn_r _ [9] (by decide +kernel) (by decide +kernel)
set_option maxRecDepth 20000 in
theorem gX3_takeToken_X3_isLetter : GoodIn wsX3_takeToken (va_wsS RX3 97 yX3_isLetter wsX3_isLetter) := goodIn_app (goodIn_of _ (by decide +kernel)) ggX3_takeToken_X3_isLetter
set_option maxRecDepth 20000 in
theorem ggX3_takeToken_X3_endOfRun : GoodIn wsX3_takeToken wsX3_endOfRun := goodIn_r _ [13, 2, 3, 4, 6, 7, 8, 9, 14, 15, 16, 17, 18, 19, 20, 21, 22] (by decide +kernel) (by decide +kernel)
set_option maxRecDepth 20000 in
theorem gX3_takeToken_X3_endOfRun : GoodIn wsX3_takeToken (wsV RX3 101 RX3 yX3_endOfRun wsX3_endOfRun) := goodIn_app (goodIn_of _ (by decide +kernel)) ggX3_takeToken_X3_endOfRun
set_option maxRecDepth 20000 in
theorem ggX3_takeToken_X3_isFigure : GoodIn wsX3_takeToken wsX3_isFigure := goodIn_r _ [16] (by decide +kernel) (by decide +kernel)
set_option maxRecDepth 20000 in
theorem gX3_takeToken_X3_isFigure : GoodIn wsX3_takeToken (va_wsS RX3 105 yX3_isFigure wsX3_isFigure) := goodIn_app (goodIn_of _ (by decide +kernel)) ggX3_takeToken_X3_isFigure
theorem dX3_takeToken_0 : decode cX3_takeToken 0 = .ok (.aload_n 0, 1) := by decide +kernel
theorem dX3_takeToken_1 : decode cX3_takeToken 1 = .ok (.aload_n 0, 1) := by decide +kernel
theorem dX3_takeToken_2 : decode cX3_takeToken 2 = .ok (.getfield 30, 3) := by decide +kernel
theorem dX3_takeToken_5 : decode cX3_takeToken 5 = .ok (.putfield 94, 3) := by decide +kernel
theorem dX3_takeToken_8 : decode cX3_takeToken 8 = .ok (.aload_n 0, 1) := by decide +kernel
theorem dX3_takeToken_9 : decode cX3_takeToken 9 = .ok (.getfield 30, 3) := by decide +kernel
theorem dX3_takeToken_12 : decode cX3_takeToken 12 = .ok (.istore_n 1, 1) := by decide +kernel
theorem dX3_takeToken_13 : decode cX3_takeToken 13 = .ok (.iload_n 1, 1) := by decide +kernel
theorem dX3_takeToken_14 : decode cX3_takeToken 14 = .ok (.aload_n 0, 1) := by decide +kernel
theorem dX3_takeToken_15 : decode cX3_takeToken 15 = .ok (.getfield 21, 3) := by decide +kernel
theorem dX3_takeToken_18 : decode cX3_takeToken 18 = .ok (.if_icmp .ge 27, 3) := by decide +kernel
theorem dX3_takeToken_21 : decode cX3_takeToken 21 = .ok (.aload_n 0, 1) := by decide +kernel
theorem dX3_takeToken_22 : decode cX3_takeToken 22 = .ok (.getfield 9, 3) := by decide +kernel
theorem dX3_takeToken_25 : decode cX3_takeToken 25 = .ok (.iload_n 1, 1) := by decide +kernel
theorem dX3_takeToken_26 : decode cX3_takeToken 26 = .ok (.baload, 1) := by decide +kernel
theorem dX3_takeToken_27 : decode cX3_takeToken 27 = .ok (.bipush 32, 2) := by decide +kernel
theorem dX3_takeToken_29 : decode cX3_takeToken 29 = .ok (.if_icmp .ne 16, 3) := by decide +kernel
theorem dX3_takeToken_32 : decode cX3_takeToken 32 = .ok (.aload_n 0, 1) := by decide +kernel
theorem dX3_takeToken_33 : decode cX3_takeToken 33 = .ok (.iload_n 1, 1) := by decide +kernel
theorem dX3_takeToken_34 : decode cX3_takeToken 34 = .ok (.iconst 1, 1) := by decide +kernel
theorem dX3_takeToken_35 : decode cX3_takeToken 35 = .ok (.iadd, 1) := by decide +kernel
theorem dX3_takeToken_36 : decode cX3_takeToken 36 = .ok (.putfield 94, 3) := by decide +kernel
theorem dX3_takeToken_39 : decode cX3_takeToken 39 = .ok (.iinc 1 1, 3) := by decide +kernel
theorem dX3_takeToken_42 : decode cX3_takeToken 42 = .ok (.goto (-29), 3) := by decide +kernel
theorem dX3_takeToken_45 : decode cX3_takeToken 45 = .ok (.aload_n 0, 1) := by decide +kernel
theorem dX3_takeToken_46 : decode cX3_takeToken 46 = .ok (.getfield 94, 3) := by decide +kernel
theorem dX3_takeToken_49 : decode cX3_takeToken 49 = .ok (.aload_n 0, 1) := by decide +kernel
theorem dX3_takeToken_50 : decode cX3_takeToken 50 = .ok (.getfield 21, 3) := by decide +kernel
theorem dX3_takeToken_53 : decode cX3_takeToken 53 = .ok (.if_icmp .lt 17, 3) := by decide +kernel
theorem dX3_takeToken_56 : decode cX3_takeToken 56 = .ok (.aload_n 0, 1) := by decide +kernel
theorem dX3_takeToken_57 : decode cX3_takeToken 57 = .ok (.aload_n 0, 1) := by decide +kernel
theorem dX3_takeToken_58 : decode cX3_takeToken 58 = .ok (.getfield 94, 3) := by decide +kernel
theorem dX3_takeToken_61 : decode cX3_takeToken 61 = .ok (.putfield 30, 3) := by decide +kernel
theorem dX3_takeToken_64 : decode cX3_takeToken 64 = .ok (.aload_n 0, 1) := by decide +kernel
theorem dX3_takeToken_65 : decode cX3_takeToken 65 = .ok (.iconst 0, 1) := by decide +kernel
theorem dX3_takeToken_66 : decode cX3_takeToken 66 = .ok (.putfield 36, 3) := by decide +kernel
theorem dX3_takeToken_69 : decode cX3_takeToken 69 = .ok (.return_, 1) := by decide +kernel
theorem dX3_takeToken_70 : decode cX3_takeToken 70 = .ok (.aload_n 0, 1) := by decide +kernel
theorem dX3_takeToken_71 : decode cX3_takeToken 71 = .ok (.getfield 9, 3) := by decide +kernel
theorem dX3_takeToken_74 : decode cX3_takeToken 74 = .ok (.aload_n 0, 1) := by decide +kernel
theorem dX3_takeToken_75 : decode cX3_takeToken 75 = .ok (.getfield 94, 3) := by decide +kernel
theorem dX3_takeToken_78 : decode cX3_takeToken 78 = .ok (.baload, 1) := by decide +kernel
theorem dX3_takeToken_79 : decode cX3_takeToken 79 = .ok (.invokestatic 97, 3) := by decide +kernel
theorem dX3_takeToken_82 : decode cX3_takeToken 82 = .ok (.ifCond .eq 20, 3) := by decide +kernel
theorem dX3_takeToken_85 : decode cX3_takeToken 85 = .ok (.aload_n 0, 1) := by decide +kernel
theorem dX3_takeToken_86 : decode cX3_takeToken 86 = .ok (.aload_n 0, 1) := by decide +kernel
theorem dX3_takeToken_87 : decode cX3_takeToken 87 = .ok (.iconst 1, 1) := by decide +kernel
theorem dX3_takeToken_88 : decode cX3_takeToken 88 = .ok (.invokevirtual 101, 3) := by decide +kernel
theorem dX3_takeToken_91 : decode cX3_takeToken 91 = .ok (.putfield 30, 3) := by decide +kernel
theorem dX3_takeToken_94 : decode cX3_takeToken 94 = .ok (.aload_n 0, 1) := by decide +kernel
theorem dX3_takeToken_95 : decode cX3_takeToken 95 = .ok (.iconst 1, 1) := by decide +kernel
theorem dX3_takeToken_96 : decode cX3_takeToken 96 = .ok (.putfield 36, 3) := by decide +kernel
theorem dX3_takeToken_99 : decode cX3_takeToken 99 = .ok (.goto 85, 3) := by decide +kernel
theorem dX3_takeToken_102 : decode cX3_takeToken 102 = .ok (.aload_n 0, 1) := by decide +kernel
theorem dX3_takeToken_103 : decode cX3_takeToken 103 = .ok (.getfield 9, 3) := by decide +kernel
theorem dX3_takeToken_106 : decode cX3_takeToken 106 = .ok (.aload_n 0, 1) := by decide +kernel
theorem dX3_takeToken_107 : decode cX3_takeToken 107 = .ok (.getfield 94, 3) := by decide +kernel
theorem dX3_takeToken_110 : decode cX3_takeToken 110 = .ok (.baload, 1) := by decide +kernel
theorem dX3_takeToken_111 : decode cX3_takeToken 111 = .ok (.invokestatic 105, 3) := by decide +kernel
theorem dX3_takeToken_114 : decode cX3_takeToken 114 = .ok (.ifCond .eq 37, 3) := by decide +kernel
theorem dX3_takeToken_117 : decode cX3_takeToken 117 = .ok (.aload_n 0, 1) := by decide +kernel
theorem dX3_takeToken_118 : decode cX3_takeToken 118 = .ok (.aload_n 0, 1) := by decide +kernel
theorem dX3_takeToken_119 : decode cX3_takeToken 119 = .ok (.iconst 2, 1) := by decide +kernel
theorem dX3_takeToken_120 : decode cX3_takeToken 120 = .ok (.invokevirtual 101, 3) := by decide +kernel
theorem dX3_takeToken_123 : decode cX3_takeToken 123 = .ok (.putfield 30, 3) := by decide +kernel
theorem dX3_takeToken_126 : decode cX3_takeToken 126 = .ok (.aload_n 0, 1) := by decide +kernel
theorem dX3_takeToken_127 : decode cX3_takeToken 127 = .ok (.aload_n 0, 1) := by decide +kernel
theorem dX3_takeToken_128 : decode cX3_takeToken 128 = .ok (.getfield 30, 3) := by decide +kernel
theorem dX3_takeToken_131 : decode cX3_takeToken 131 = .ok (.aload_n 0, 1) := by decide +kernel
theorem dX3_takeToken_132 : decode cX3_takeToken 132 = .ok (.getfield 94, 3) := by decide +kernel
theorem dX3_takeToken_135 : decode cX3_takeToken 135 = .ok (.isub, 1) := by decide +kernel
theorem dX3_takeToken_136 : decode cX3_takeToken 136 = .ok (.iconst 2, 1) := by decide +kernel
theorem dX3_takeToken_137 : decode cX3_takeToken 137 = .ok (.if_icmp .le 7, 3) := by decide +kernel
theorem dX3_takeToken_140 : decode cX3_takeToken 140 = .ok (.iconst 4, 1) := by decide +kernel
theorem dX3_takeToken_141 : decode cX3_takeToken 141 = .ok (.goto 4, 3) := by decide +kernel
theorem dX3_takeToken_144 : decode cX3_takeToken 144 = .ok (.iconst 2, 1) := by decide +kernel
theorem dX3_takeToken_145 : decode cX3_takeToken 145 = .ok (.putfield 36, 3) := by decide +kernel
theorem dX3_takeToken_148 : decode cX3_takeToken 148 = .ok (.goto 36, 3) := by decide +kernel
theorem dX3_takeToken_151 : decode cX3_takeToken 151 = .ok (.aload_n 0, 1) := by decide +kernel
theorem dX3_takeToken_152 : decode cX3_takeToken 152 = .ok (.aload_n 0, 1) := by decide +kernel
theorem dX3_takeToken_153 : decode cX3_takeToken 153 = .ok (.getfield 94, 3) := by decide +kernel
theorem dX3_takeToken_156 : decode cX3_takeToken 156 = .ok (.iconst 1, 1) := by decide +kernel
theorem dX3_takeToken_157 : decode cX3_takeToken 157 = .ok (.iadd, 1) := by decide +kernel
theorem dX3_takeToken_158 : decode cX3_takeToken 158 = .ok (.putfield 30, 3) := by decide +kernel
theorem dX3_takeToken_161 : decode cX3_takeToken 161 = .ok (.aload_n 0, 1) := by decide +kernel
theorem dX3_takeToken_162 : decode cX3_takeToken 162 = .ok (.aload_n 0, 1) := by decide +kernel
theorem dX3_takeToken_163 : decode cX3_takeToken 163 = .ok (.getfield 9, 3) := by decide +kernel
theorem dX3_takeToken_166 : decode cX3_takeToken 166 = .ok (.aload_n 0, 1) := by decide +kernel
theorem dX3_takeToken_167 : decode cX3_takeToken 167 = .ok (.getfield 94, 3) := by decide +kernel
theorem dX3_takeToken_170 : decode cX3_takeToken 170 = .ok (.baload, 1) := by decide +kernel
theorem dX3_takeToken_171 : decode cX3_takeToken 171 = .ok (.bipush 59, 2) := by decide +kernel
theorem dX3_takeToken_173 : decode cX3_takeToken 173 = .ok (.if_icmp .ne 7, 3) := by decide +kernel
theorem dX3_takeToken_176 : decode cX3_takeToken 176 = .ok (.iconst 3, 1) := by decide +kernel
theorem dX3_takeToken_177 : decode cX3_takeToken 177 = .ok (.goto 4, 3) := by decide +kernel
theorem dX3_takeToken_180 : decode cX3_takeToken 180 = .ok (.iconst 4, 1) := by decide +kernel
theorem dX3_takeToken_181 : decode cX3_takeToken 181 = .ok (.putfield 36, 3) := by decide +kernel
theorem dX3_takeToken_184 : decode cX3_takeToken 184 = .ok (.return_, 1) := by decide +kernel
set_option maxRecDepth 20000 in
theorem ggX3_endOfRun_X3_isLetter : GoodIn wsX3_endOfRun wsX3_isLetter := goodIn_r _ [7] (by decide +kernel) (by decide +kernel)
set_option maxRecDepth 20000 in
theorem gX3_endOfRun_X3_isLetter : GoodIn wsX3_endOfRun (va_wsS RX3 97 yX3_isLetter wsX3_isLetter) := goodIn_app (goodIn_of _ (by decide +kernel)) ggX3_endOfRun_X3_isLetter
set_option maxRecDepth 20000 in
theorem ggX3_endOfRun_X3_isFigure : GoodIn wsX3_endOfRun wsX3_isFigure := goodIn_r _ [10] (by decide +kernel) (by decide +kernel)
set_option maxRecDepth 20000 in
theorem gX3_endOfRun_X3_isFigure : GoodIn wsX3_endOfRun (va_wsS RX3 105 yX3_isFigure wsX3_isFigure) := goodIn_app (goodIn_of _ (by decide +kernel)) ggX3_endOfRun_X3_isFigure
theorem dX3_endOfRun_0 : decode cX3_endOfRun 0 = .ok (.aload_n 0, 1) := by decide +kernel
theorem dX3_endOfRun_1 : decode cX3_endOfRun 1 = .ok (.getfield 94, 3) := by decide +kernel
theorem dX3_endOfRun_4 : decode cX3_endOfRun 4 = .ok (.istore_n 2, 1) := by decide +kernel
theorem dX3_endOfRun_5 : decode cX3_endOfRun 5 = .ok (.iload_n 2, 1) := by decide +kernel
theorem dX3_endOfRun_6 : decode cX3_endOfRun 6 = .ok (.aload_n 0, 1) := by decide +kernel
theorem dX3_endOfRun_7 : decode cX3_endOfRun 7 = .ok (.getfield 21, 3) := by decide +kernel
theorem dX3_endOfRun_10 : decode cX3_endOfRun 10 = .ok (.if_icmp .ge 41, 3) := by decide +kernel
theorem dX3_endOfRun_13 : decode cX3_endOfRun 13 = .ok (.iload_n 1, 1) := by decide +kernel
theorem dX3_endOfRun_14 : decode cX3_endOfRun 14 = .ok (.iconst 1, 1) := by decide +kernel
theorem dX3_endOfRun_15 : decode cX3_endOfRun 15 = .ok (.if_icmp .ne 18, 3) := by decide +kernel
theorem dX3_endOfRun_18 : decode cX3_endOfRun 18 = .ok (.aload_n 0, 1) := by decide +kernel
theorem dX3_endOfRun_19 : decode cX3_endOfRun 19 = .ok (.getfield 9, 3) := by decide +kernel
theorem dX3_endOfRun_22 : decode cX3_endOfRun 22 = .ok (.iload_n 2, 1) := by decide +kernel
theorem dX3_endOfRun_23 : decode cX3_endOfRun 23 = .ok (.baload, 1) := by decide +kernel
theorem dX3_endOfRun_24 : decode cX3_endOfRun 24 = .ok (.invokestatic 97, 3) := by decide +kernel
theorem dX3_endOfRun_27 : decode cX3_endOfRun 27 = .ok (.ifCond .eq 24, 3) := by decide +kernel
theorem dX3_endOfRun_30 : decode cX3_endOfRun 30 = .ok (.goto 15, 3) := by decide +kernel
theorem dX3_endOfRun_33 : decode cX3_endOfRun 33 = .ok (.aload_n 0, 1) := by decide +kernel
theorem dX3_endOfRun_34 : decode cX3_endOfRun 34 = .ok (.getfield 9, 3) := by decide +kernel
theorem dX3_endOfRun_37 : decode cX3_endOfRun 37 = .ok (.iload_n 2, 1) := by decide +kernel
theorem dX3_endOfRun_38 : decode cX3_endOfRun 38 = .ok (.baload, 1) := by decide +kernel
theorem dX3_endOfRun_39 : decode cX3_endOfRun 39 = .ok (.invokestatic 105, 3) := by decide +kernel
theorem dX3_endOfRun_42 : decode cX3_endOfRun 42 = .ok (.ifCond .eq 9, 3) := by decide +kernel
theorem dX3_endOfRun_45 : decode cX3_endOfRun 45 = .ok (.iinc 2 1, 3) := by decide +kernel
theorem dX3_endOfRun_48 : decode cX3_endOfRun 48 = .ok (.goto (-43), 3) := by decide +kernel
theorem dX3_endOfRun_51 : decode cX3_endOfRun 51 = .ok (.iload_n 2, 1) := by decide +kernel
theorem dX3_endOfRun_52 : decode cX3_endOfRun 52 = .ok (.ireturn, 1) := by decide +kernel
theorem dX3_numberHere_0 : decode cX3_numberHere 0 = .ok (.iconst 0, 1) := by decide +kernel
theorem dX3_numberHere_1 : decode cX3_numberHere 1 = .ok (.istore_n 1, 1) := by decide +kernel
theorem dX3_numberHere_2 : decode cX3_numberHere 2 = .ok (.aload_n 0, 1) := by decide +kernel
theorem dX3_numberHere_3 : decode cX3_numberHere 3 = .ok (.getfield 94, 3) := by decide +kernel
theorem dX3_numberHere_6 : decode cX3_numberHere 6 = .ok (.istore_n 2, 1) := by decide +kernel
theorem dX3_numberHere_7 : decode cX3_numberHere 7 = .ok (.iload_n 2, 1) := by decide +kernel
theorem dX3_numberHere_8 : decode cX3_numberHere 8 = .ok (.aload_n 0, 1) := by decide +kernel
theorem dX3_numberHere_9 : decode cX3_numberHere 9 = .ok (.getfield 30, 3) := by decide +kernel
theorem dX3_numberHere_12 : decode cX3_numberHere 12 = .ok (.if_icmp .ge 32, 3) := by decide +kernel
theorem dX3_numberHere_15 : decode cX3_numberHere 15 = .ok (.iload_n 2, 1) := by decide +kernel
theorem dX3_numberHere_16 : decode cX3_numberHere 16 = .ok (.aload_n 0, 1) := by decide +kernel
theorem dX3_numberHere_17 : decode cX3_numberHere 17 = .ok (.getfield 21, 3) := by decide +kernel
theorem dX3_numberHere_20 : decode cX3_numberHere 20 = .ok (.if_icmp .ge 24, 3) := by decide +kernel
theorem dX3_numberHere_23 : decode cX3_numberHere 23 = .ok (.bipush 10, 2) := by decide +kernel
theorem dX3_numberHere_25 : decode cX3_numberHere 25 = .ok (.iload_n 1, 1) := by decide +kernel
theorem dX3_numberHere_26 : decode cX3_numberHere 26 = .ok (.imul, 1) := by decide +kernel
theorem dX3_numberHere_27 : decode cX3_numberHere 27 = .ok (.aload_n 0, 1) := by decide +kernel
theorem dX3_numberHere_28 : decode cX3_numberHere 28 = .ok (.getfield 9, 3) := by decide +kernel
theorem dX3_numberHere_31 : decode cX3_numberHere 31 = .ok (.iload_n 2, 1) := by decide +kernel
theorem dX3_numberHere_32 : decode cX3_numberHere 32 = .ok (.baload, 1) := by decide +kernel
theorem dX3_numberHere_33 : decode cX3_numberHere 33 = .ok (.iadd, 1) := by decide +kernel
theorem dX3_numberHere_34 : decode cX3_numberHere 34 = .ok (.bipush 48, 2) := by decide +kernel
theorem dX3_numberHere_36 : decode cX3_numberHere 36 = .ok (.isub, 1) := by decide +kernel
theorem dX3_numberHere_37 : decode cX3_numberHere 37 = .ok (.istore_n 1, 1) := by decide +kernel
theorem dX3_numberHere_38 : decode cX3_numberHere 38 = .ok (.iinc 2 1, 3) := by decide +kernel
theorem dX3_numberHere_41 : decode cX3_numberHere 41 = .ok (.goto (-34), 3) := by decide +kernel
theorem dX3_numberHere_44 : decode cX3_numberHere 44 = .ok (.iload_n 1, 1) := by decide +kernel
theorem dX3_numberHere_45 : decode cX3_numberHere 45 = .ok (.ireturn, 1) := by decide +kernel
set_option maxRecDepth 20000 in
theorem ggX3_isWord_J0_length_8abf5 : GoodIn wsX3_isWord wsJ0_length_8abf5 := goodIn_r _ [9, 10, 11, 12, 13, 8, 14, 15, 16] (by decide +kernel) (by decide +kernel)
set_option maxRecDepth 20000 in
theorem gX3_isWord_J0_length_8abf5 : GoodIn wsX3_isWord (wsV RX3 108 RJ0 yJ0_length_8abf5 wsJ0_length_8abf5) := goodIn_app (goodIn_of _ (by decide +kernel)) ggX3_isWord_J0_length_8abf5
set_option maxRecDepth 20000 in
theorem ggX3_isWord_J0_charAt_5068e : GoodIn wsX3_isWord wsJ0_charAt_5068e := goodIn_r _ [20, 10, 21, 22, 23, 8, 24, 15, 16, 25, 26, 27, 28, 29, 30, 31, 32, 33, 34, 35, 36, 37, 38, 39, 40, 41, 42, 43, 44, 45, 46, 47, 48, 49, 50, 51, 52, 53] (by decide +kernel) (by decide +kernel)
set_option maxRecDepth 20000 in
theorem gX3_isWord_J0_charAt_5068e : GoodIn wsX3_isWord (wsV RX3 113 RJ0 yJ0_charAt_5068e wsJ0_charAt_5068e) := goodIn_app (goodIn_of _ (by decide +kernel)) ggX3_isWord_J0_charAt_5068e
theorem dX3_isWord_0 : decode cX3_isWord 0 = .ok (.aload_n 0, 1) := by decide +kernel
theorem dX3_isWord_1 : decode cX3_isWord 1 = .ok (.getfield 30, 3) := by decide +kernel
theorem dX3_isWord_4 : decode cX3_isWord 4 = .ok (.aload_n 0, 1) := by decide +kernel
theorem dX3_isWord_5 : decode cX3_isWord 5 = .ok (.getfield 94, 3) := by decide +kernel
theorem dX3_isWord_8 : decode cX3_isWord 8 = .ok (.isub, 1) := by decide +kernel
theorem dX3_isWord_9 : decode cX3_isWord 9 = .ok (.aload_n 1, 1) := by decide +kernel
theorem dX3_isWord_10 : decode cX3_isWord 10 = .ok (.invokevirtual 108, 3) := by decide +kernel
theorem dX3_isWord_13 : decode cX3_isWord 13 = .ok (.if_icmp .eq 5, 3) := by decide +kernel
theorem dX3_isWord_16 : decode cX3_isWord 16 = .ok (.iconst 0, 1) := by decide +kernel
theorem dX3_isWord_17 : decode cX3_isWord 17 = .ok (.ireturn, 1) := by decide +kernel
theorem dX3_isWord_18 : decode cX3_isWord 18 = .ok (.iconst 0, 1) := by decide +kernel
theorem dX3_isWord_19 : decode cX3_isWord 19 = .ok (.istore_n 2, 1) := by decide +kernel
theorem dX3_isWord_20 : decode cX3_isWord 20 = .ok (.iload_n 2, 1) := by decide +kernel
theorem dX3_isWord_21 : decode cX3_isWord 21 = .ok (.aload_n 1, 1) := by decide +kernel
theorem dX3_isWord_22 : decode cX3_isWord 22 = .ok (.invokevirtual 108, 3) := by decide +kernel
theorem dX3_isWord_25 : decode cX3_isWord 25 = .ok (.if_icmp .ge 43, 3) := by decide +kernel
theorem dX3_isWord_28 : decode cX3_isWord 28 = .ok (.aload_n 0, 1) := by decide +kernel
theorem dX3_isWord_29 : decode cX3_isWord 29 = .ok (.getfield 94, 3) := by decide +kernel
theorem dX3_isWord_32 : decode cX3_isWord 32 = .ok (.iload_n 2, 1) := by decide +kernel
theorem dX3_isWord_33 : decode cX3_isWord 33 = .ok (.iadd, 1) := by decide +kernel
theorem dX3_isWord_34 : decode cX3_isWord 34 = .ok (.aload_n 0, 1) := by decide +kernel
theorem dX3_isWord_35 : decode cX3_isWord 35 = .ok (.getfield 21, 3) := by decide +kernel
theorem dX3_isWord_38 : decode cX3_isWord 38 = .ok (.if_icmp .ge 30, 3) := by decide +kernel
theorem dX3_isWord_41 : decode cX3_isWord 41 = .ok (.aload_n 0, 1) := by decide +kernel
theorem dX3_isWord_42 : decode cX3_isWord 42 = .ok (.getfield 9, 3) := by decide +kernel
theorem dX3_isWord_45 : decode cX3_isWord 45 = .ok (.aload_n 0, 1) := by decide +kernel
theorem dX3_isWord_46 : decode cX3_isWord 46 = .ok (.getfield 94, 3) := by decide +kernel
theorem dX3_isWord_49 : decode cX3_isWord 49 = .ok (.iload_n 2, 1) := by decide +kernel
theorem dX3_isWord_50 : decode cX3_isWord 50 = .ok (.iadd, 1) := by decide +kernel
theorem dX3_isWord_51 : decode cX3_isWord 51 = .ok (.baload, 1) := by decide +kernel
theorem dX3_isWord_52 : decode cX3_isWord 52 = .ok (.aload_n 1, 1) := by decide +kernel
theorem dX3_isWord_53 : decode cX3_isWord 53 = .ok (.iload_n 2, 1) := by decide +kernel
theorem dX3_isWord_54 : decode cX3_isWord 54 = .ok (.invokevirtual 113, 3) := by decide +kernel
theorem dX3_isWord_57 : decode cX3_isWord 57 = .ok (.if_icmp .eq 5, 3) := by decide +kernel
theorem dX3_isWord_60 : decode cX3_isWord 60 = .ok (.iconst 0, 1) := by decide +kernel
theorem dX3_isWord_61 : decode cX3_isWord 61 = .ok (.ireturn, 1) := by decide +kernel
theorem dX3_isWord_62 : decode cX3_isWord 62 = .ok (.iinc 2 1, 3) := by decide +kernel
theorem dX3_isWord_65 : decode cX3_isWord 65 = .ok (.goto (-45), 3) := by decide +kernel
theorem dX3_isWord_68 : decode cX3_isWord 68 = .ok (.iconst 1, 1) := by decide +kernel
theorem dX3_isWord_69 : decode cX3_isWord 69 = .ok (.ireturn, 1) := by decide +kernel
theorem dX3_isLetter_0 : decode cX3_isLetter 0 = .ok (.iload_n 0, 1) := by decide +kernel
theorem dX3_isLetter_1 : decode cX3_isLetter 1 = .ok (.bipush 97, 2) := by decide +kernel
theorem dX3_isLetter_3 : decode cX3_isLetter 3 = .ok (.if_icmp .lt 13, 3) := by decide +kernel
theorem dX3_isLetter_6 : decode cX3_isLetter 6 = .ok (.iload_n 0, 1) := by decide +kernel
theorem dX3_isLetter_7 : decode cX3_isLetter 7 = .ok (.bipush 122, 2) := by decide +kernel
theorem dX3_isLetter_9 : decode cX3_isLetter 9 = .ok (.if_icmp .gt 7, 3) := by decide +kernel
theorem dX3_isLetter_12 : decode cX3_isLetter 12 = .ok (.iconst 1, 1) := by decide +kernel
theorem dX3_isLetter_13 : decode cX3_isLetter 13 = .ok (.goto 4, 3) := by decide +kernel
theorem dX3_isLetter_16 : decode cX3_isLetter 16 = .ok (.iconst 0, 1) := by decide +kernel
theorem dX3_isLetter_17 : decode cX3_isLetter 17 = .ok (.ireturn, 1) := by decide +kernel
theorem dX3_isFigure_0 : decode cX3_isFigure 0 = .ok (.iload_n 0, 1) := by decide +kernel
theorem dX3_isFigure_1 : decode cX3_isFigure 1 = .ok (.bipush 48, 2) := by decide +kernel
theorem dX3_isFigure_3 : decode cX3_isFigure 3 = .ok (.if_icmp .lt 13, 3) := by decide +kernel
theorem dX3_isFigure_6 : decode cX3_isFigure 6 = .ok (.iload_n 0, 1) := by decide +kernel
theorem dX3_isFigure_7 : decode cX3_isFigure 7 = .ok (.bipush 57, 2) := by decide +kernel
theorem dX3_isFigure_9 : decode cX3_isFigure 9 = .ok (.if_icmp .gt 7, 3) := by decide +kernel
theorem dX3_isFigure_12 : decode cX3_isFigure 12 = .ok (.iconst 1, 1) := by decide +kernel
theorem dX3_isFigure_13 : decode cX3_isFigure 13 = .ok (.goto 4, 3) := by decide +kernel
theorem dX3_isFigure_16 : decode cX3_isFigure 16 = .ok (.iconst 0, 1) := by decide +kernel
theorem dX3_isFigure_17 : decode cX3_isFigure 17 = .ok (.ireturn, 1) := by decide +kernel
theorem dX4_init_0 : decode cX4_init 0 = .ok (.aload_n 0, 1) := by decide +kernel
theorem dX4_init_1 : decode cX4_init 1 = .ok (.invokespecial 3, 3) := by decide +kernel
theorem dX4_init_4 : decode cX4_init 4 = .ok (.aload_n 0, 1) := by decide +kernel
theorem dX4_init_5 : decode cX4_init 5 = .ok (.sipush 128, 3) := by decide +kernel
theorem dX4_init_8 : decode cX4_init 8 = .ok (.newarray .int, 2) := by decide +kernel
theorem dX4_init_10 : decode cX4_init 10 = .ok (.putfield 9, 3) := by decide +kernel
theorem dX4_init_13 : decode cX4_init 13 = .ok (.return_, 1) := by decide +kernel
theorem dX4_begin_0 : decode cX4_begin 0 = .ok (.aload_n 0, 1) := by decide +kernel
theorem dX4_begin_1 : decode cX4_begin 1 = .ok (.iload_n 1, 1) := by decide +kernel
theorem dX4_begin_2 : decode cX4_begin 2 = .ok (.i2l, 1) := by decide +kernel
theorem dX4_begin_3 : decode cX4_begin 3 = .ok (.putfield 15, 3) := by decide +kernel
theorem dX4_begin_6 : decode cX4_begin 6 = .ok (.return_, 1) := by decide +kernel
theorem dX4_draw_0 : decode cX4_draw 0 = .ok (.aload_n 0, 1) := by decide +kernel
theorem dX4_draw_1 : decode cX4_draw 1 = .ok (.aload_n 0, 1) := by decide +kernel
theorem dX4_draw_2 : decode cX4_draw 2 = .ok (.getfield 15, 3) := by decide +kernel
theorem dX4_draw_5 : decode cX4_draw 5 = .ok (.ldc2_w 19, 3) := by decide +kernel
theorem dX4_draw_8 : decode cX4_draw 8 = .ok (.lmul, 1) := by decide +kernel
theorem dX4_draw_9 : decode cX4_draw 9 = .ok (.ldc2_w 21, 3) := by decide +kernel
theorem dX4_draw_12 : decode cX4_draw 12 = .ok (.ladd, 1) := by decide +kernel
theorem dX4_draw_13 : decode cX4_draw 13 = .ok (.ldc2_w 23, 3) := by decide +kernel
theorem dX4_draw_16 : decode cX4_draw 16 = .ok (.lrem, 1) := by decide +kernel
theorem dX4_draw_17 : decode cX4_draw 17 = .ok (.putfield 15, 3) := by decide +kernel
theorem dX4_draw_20 : decode cX4_draw 20 = .ok (.iload_n 1, 1) := by decide +kernel
theorem dX4_draw_21 : decode cX4_draw 21 = .ok (.iconst 1, 1) := by decide +kernel
theorem dX4_draw_22 : decode cX4_draw 22 = .ok (.if_icmp .ge 7, 3) := by decide +kernel
theorem dX4_draw_25 : decode cX4_draw 25 = .ok (.iconst 0, 1) := by decide +kernel
theorem dX4_draw_26 : decode cX4_draw 26 = .ok (.goto 15, 3) := by decide +kernel
theorem dX4_draw_29 : decode cX4_draw 29 = .ok (.aload_n 0, 1) := by decide +kernel
theorem dX4_draw_30 : decode cX4_draw 30 = .ok (.getfield 15, 3) := by decide +kernel
theorem dX4_draw_33 : decode cX4_draw 33 = .ok (.ldc2_w 25, 3) := by decide +kernel
theorem dX4_draw_36 : decode cX4_draw 36 = .ok (.ldiv, 1) := by decide +kernel
theorem dX4_draw_37 : decode cX4_draw 37 = .ok (.iload_n 1, 1) := by decide +kernel
theorem dX4_draw_38 : decode cX4_draw 38 = .ok (.i2l, 1) := by decide +kernel
theorem dX4_draw_39 : decode cX4_draw 39 = .ok (.lrem, 1) := by decide +kernel
theorem dX4_draw_40 : decode cX4_draw 40 = .ok (.l2i, 1) := by decide +kernel
theorem dX4_draw_41 : decode cX4_draw 41 = .ok (.ireturn, 1) := by decide +kernel
set_option maxRecDepth 20000 in
theorem ggX4_daysOnce_X2_listFitting : GoodIn wsX4_daysOnce wsX2_listFitting := goodIn_r _ [7, 8, 36, 37, 38, 39] (by decide +kernel) (by decide +kernel)
set_option maxRecDepth 20000 in
theorem gX4_daysOnce_X2_listFitting : GoodIn wsX4_daysOnce (wsV RX4 27 RX2 yX2_listFitting wsX2_listFitting) := goodIn_app (goodIn_of _ (by decide +kernel)) ggX4_daysOnce_X2_listFitting
set_option maxRecDepth 20000 in
theorem ggX4_daysOnce_X4_draw : GoodIn wsX4_daysOnce wsX4_draw := goodIn_r _ [13, 14, 15, 16, 17, 18, 33, 34, 35] (by decide +kernel) (by decide +kernel)
set_option maxRecDepth 20000 in
theorem gX4_daysOnce_X4_draw : GoodIn wsX4_daysOnce (wsV RX4 37 RX4 yX4_draw wsX4_draw) := goodIn_app (goodIn_of _ (by decide +kernel)) ggX4_daysOnce_X4_draw
set_option maxRecDepth 20000 in
theorem ggX4_daysOnce_X4_isOpen : GoodIn wsX4_daysOnce wsX4_isOpen := goodIn_r _ [22, 2, 1, 23, 24, 25, 26, 27, 28, 33, 34, 35] (by decide +kernel) (by decide +kernel)
set_option maxRecDepth 20000 in
theorem gX4_daysOnce_X4_isOpen : GoodIn wsX4_daysOnce (wsV RX4 41 RX4 yX4_isOpen wsX4_isOpen) := goodIn_app (goodIn_of _ (by decide +kernel)) ggX4_daysOnce_X4_isOpen
set_option maxRecDepth 20000 in
theorem ggX4_daysOnce_X7_wasSo : GoodIn wsX4_daysOnce wsX7_wasSo := goodIn_r _ [28] (by decide +kernel) (by decide +kernel)
set_option maxRecDepth 20000 in
theorem gX4_daysOnce_X7_wasSo_n45 : GoodIn wsX4_daysOnce (wsX7_wasSo) := ggX4_daysOnce_X7_wasSo
set_option maxRecDepth 20000 in
theorem ggX4_daysOnce_X4_narrow : GoodIn wsX4_daysOnce wsX4_narrow := goodIn_r _ [32, 2, 1, 27, 24, 28, 33, 34, 35] (by decide +kernel) (by decide +kernel)
set_option maxRecDepth 20000 in
theorem gX4_daysOnce_X4_narrow : GoodIn wsX4_daysOnce (wsV RX4 49 RX4 yX4_narrow wsX4_narrow) := goodIn_app (goodIn_of _ (by decide +kernel)) ggX4_daysOnce_X4_narrow
theorem dX4_daysOnce_0 : decode cX4_daysOnce 0 = .ok (.aload_n 0, 1) := by decide +kernel
theorem dX4_daysOnce_1 : decode cX4_daysOnce 1 = .ok (.aload_n 1, 1) := by decide +kernel
theorem dX4_daysOnce_2 : decode cX4_daysOnce 2 = .ok (.aload_n 0, 1) := by decide +kernel
theorem dX4_daysOnce_3 : decode cX4_daysOnce 3 = .ok (.getfield 9, 3) := by decide +kernel
theorem dX4_daysOnce_6 : decode cX4_daysOnce 6 = .ok (.invokevirtual 27, 3) := by decide +kernel
theorem dX4_daysOnce_9 : decode cX4_daysOnce 9 = .ok (.putfield 33, 3) := by decide +kernel
theorem dX4_daysOnce_12 : decode cX4_daysOnce 12 = .ok (.aload_n 0, 1) := by decide +kernel
theorem dX4_daysOnce_13 : decode cX4_daysOnce 13 = .ok (.aload_n 0, 1) := by decide +kernel
theorem dX4_daysOnce_14 : decode cX4_daysOnce 14 = .ok (.getfield 33, 3) := by decide +kernel
theorem dX4_daysOnce_17 : decode cX4_daysOnce 17 = .ok (.invokevirtual 37, 3) := by decide +kernel
theorem dX4_daysOnce_20 : decode cX4_daysOnce 20 = .ok (.istore 5, 2) := by decide +kernel
theorem dX4_daysOnce_22 : decode cX4_daysOnce 22 = .ok (.iload 5, 2) := by decide +kernel
theorem dX4_daysOnce_24 : decode cX4_daysOnce 24 = .ok (.ifCond .lt 12, 3) := by decide +kernel
theorem dX4_daysOnce_27 : decode cX4_daysOnce 27 = .ok (.iload 5, 2) := by decide +kernel
theorem dX4_daysOnce_29 : decode cX4_daysOnce 29 = .ok (.aload_n 0, 1) := by decide +kernel
theorem dX4_daysOnce_30 : decode cX4_daysOnce 30 = .ok (.getfield 33, 3) := by decide +kernel
theorem dX4_daysOnce_33 : decode cX4_daysOnce 33 = .ok (.if_icmp .lt 5, 3) := by decide +kernel
theorem dX4_daysOnce_36 : decode cX4_daysOnce 36 = .ok (.iconst 0, 1) := by decide +kernel
theorem dX4_daysOnce_37 : decode cX4_daysOnce 37 = .ok (.ireturn, 1) := by decide +kernel
theorem dX4_daysOnce_38 : decode cX4_daysOnce 38 = .ok (.aload_n 0, 1) := by decide +kernel
theorem dX4_daysOnce_39 : decode cX4_daysOnce 39 = .ok (.getfield 9, 3) := by decide +kernel
theorem dX4_daysOnce_42 : decode cX4_daysOnce 42 = .ok (.iload 5, 2) := by decide +kernel
theorem dX4_daysOnce_44 : decode cX4_daysOnce 44 = .ok (.iaload, 1) := by decide +kernel
theorem dX4_daysOnce_45 : decode cX4_daysOnce 45 = .ok (.istore 6, 2) := by decide +kernel
theorem dX4_daysOnce_47 : decode cX4_daysOnce 47 = .ok (.iconst 0, 1) := by decide +kernel
theorem dX4_daysOnce_48 : decode cX4_daysOnce 48 = .ok (.istore 7, 2) := by decide +kernel
theorem dX4_daysOnce_50 : decode cX4_daysOnce 50 = .ok (.iconst 0, 1) := by decide +kernel
theorem dX4_daysOnce_51 : decode cX4_daysOnce 51 = .ok (.istore 8, 2) := by decide +kernel
theorem dX4_daysOnce_53 : decode cX4_daysOnce 53 = .ok (.aload_n 0, 1) := by decide +kernel
theorem dX4_daysOnce_54 : decode cX4_daysOnce 54 = .ok (.iload_n 2, 1) := by decide +kernel
theorem dX4_daysOnce_55 : decode cX4_daysOnce 55 = .ok (.iload_n 3, 1) := by decide +kernel
theorem dX4_daysOnce_56 : decode cX4_daysOnce 56 = .ok (.iload 4, 2) := by decide +kernel
theorem dX4_daysOnce_58 : decode cX4_daysOnce 58 = .ok (.invokevirtual 41, 3) := by decide +kernel
theorem dX4_daysOnce_61 : decode cX4_daysOnce 61 = .ok (.istore 9, 2) := by decide +kernel
theorem dX4_daysOnce_63 : decode cX4_daysOnce 63 = .ok (.iload 8, 2) := by decide +kernel
theorem dX4_daysOnce_65 : decode cX4_daysOnce 65 = .ok (.bipush 40, 2) := by decide +kernel
theorem dX4_daysOnce_67 : decode cX4_daysOnce 67 = .ok (.if_icmp .ge 64, 3) := by decide +kernel
theorem dX4_daysOnce_70 : decode cX4_daysOnce 70 = .ok (.iload 9, 2) := by decide +kernel
theorem dX4_daysOnce_72 : decode cX4_daysOnce 72 = .ok (.ifCond .eq 59, 3) := by decide +kernel
theorem dX4_daysOnce_75 : decode cX4_daysOnce 75 = .ok (.aload_n 0, 1) := by decide +kernel
theorem dX4_daysOnce_76 : decode cX4_daysOnce 76 = .ok (.bipush 7, 2) := by decide +kernel
theorem dX4_daysOnce_78 : decode cX4_daysOnce 78 = .ok (.invokevirtual 37, 3) := by decide +kernel
theorem dX4_daysOnce_81 : decode cX4_daysOnce 81 = .ok (.istore 10, 2) := by decide +kernel
theorem dX4_daysOnce_83 : decode cX4_daysOnce 83 = .ok (.iload 7, 2) := by decide +kernel
theorem dX4_daysOnce_85 : decode cX4_daysOnce 85 = .ok (.iload 10, 2) := by decide +kernel
theorem dX4_daysOnce_87 : decode cX4_daysOnce 87 = .ok (.invokestatic 45, 3) := by decide +kernel
theorem dX4_daysOnce_90 : decode cX4_daysOnce 90 = .ok (.ifCond .ne 35, 3) := by decide +kernel
theorem dX4_daysOnce_93 : decode cX4_daysOnce 93 = .ok (.iload 7, 2) := by decide +kernel
theorem dX4_daysOnce_95 : decode cX4_daysOnce 95 = .ok (.iconst 1, 1) := by decide +kernel
theorem dX4_daysOnce_96 : decode cX4_daysOnce 96 = .ok (.iload 10, 2) := by decide +kernel
theorem dX4_daysOnce_98 : decode cX4_daysOnce 98 = .ok (.ishl, 1) := by decide +kernel
theorem dX4_daysOnce_99 : decode cX4_daysOnce 99 = .ok (.ior, 1) := by decide +kernel
theorem dX4_daysOnce_100 : decode cX4_daysOnce 100 = .ok (.istore 7, 2) := by decide +kernel
theorem dX4_daysOnce_102 : decode cX4_daysOnce 102 = .ok (.aload_n 0, 1) := by decide +kernel
theorem dX4_daysOnce_103 : decode cX4_daysOnce 103 = .ok (.iload 10, 2) := by decide +kernel
theorem dX4_daysOnce_105 : decode cX4_daysOnce 105 = .ok (.iload 6, 2) := by decide +kernel
theorem dX4_daysOnce_107 : decode cX4_daysOnce 107 = .ok (.iload 10, 2) := by decide +kernel
theorem dX4_daysOnce_109 : decode cX4_daysOnce 109 = .ok (.invokestatic 45, 3) := by decide +kernel
theorem dX4_daysOnce_112 : decode cX4_daysOnce 112 = .ok (.invokevirtual 49, 3) := by decide +kernel
theorem dX4_daysOnce_115 : decode cX4_daysOnce 115 = .ok (.aload_n 0, 1) := by decide +kernel
theorem dX4_daysOnce_116 : decode cX4_daysOnce 116 = .ok (.iload_n 2, 1) := by decide +kernel
theorem dX4_daysOnce_117 : decode cX4_daysOnce 117 = .ok (.iload_n 3, 1) := by decide +kernel
theorem dX4_daysOnce_118 : decode cX4_daysOnce 118 = .ok (.iload 4, 2) := by decide +kernel
theorem dX4_daysOnce_120 : decode cX4_daysOnce 120 = .ok (.invokevirtual 41, 3) := by decide +kernel
theorem dX4_daysOnce_123 : decode cX4_daysOnce 123 = .ok (.istore 9, 2) := by decide +kernel
theorem dX4_daysOnce_125 : decode cX4_daysOnce 125 = .ok (.iinc 8 1, 3) := by decide +kernel
theorem dX4_daysOnce_128 : decode cX4_daysOnce 128 = .ok (.goto (-65), 3) := by decide +kernel
theorem dX4_daysOnce_131 : decode cX4_daysOnce 131 = .ok (.iload 8, 2) := by decide +kernel
theorem dX4_daysOnce_133 : decode cX4_daysOnce 133 = .ok (.ireturn, 1) := by decide +kernel
set_option maxRecDepth 20000 in
theorem ggX4_narrow_X7_wasSo : GoodIn wsX4_narrow wsX7_wasSo := goodIn_r _ [5] (by decide +kernel) (by decide +kernel)
set_option maxRecDepth 20000 in
theorem gX4_narrow_X7_wasSo_n45 : GoodIn wsX4_narrow (wsX7_wasSo) := ggX4_narrow_X7_wasSo
theorem dX4_narrow_0 : decode cX4_narrow 0 = .ok (.iconst 0, 1) := by decide +kernel
theorem dX4_narrow_1 : decode cX4_narrow 1 = .ok (.istore_n 3, 1) := by decide +kernel
theorem dX4_narrow_2 : decode cX4_narrow 2 = .ok (.iconst 0, 1) := by decide +kernel
theorem dX4_narrow_3 : decode cX4_narrow 3 = .ok (.istore 4, 2) := by decide +kernel
theorem dX4_narrow_5 : decode cX4_narrow 5 = .ok (.iload 4, 2) := by decide +kernel
theorem dX4_narrow_7 : decode cX4_narrow 7 = .ok (.aload_n 0, 1) := by decide +kernel
theorem dX4_narrow_8 : decode cX4_narrow 8 = .ok (.getfield 33, 3) := by decide +kernel
theorem dX4_narrow_11 : decode cX4_narrow 11 = .ok (.if_icmp .ge 40, 3) := by decide +kernel
theorem dX4_narrow_14 : decode cX4_narrow 14 = .ok (.aload_n 0, 1) := by decide +kernel
theorem dX4_narrow_15 : decode cX4_narrow 15 = .ok (.getfield 9, 3) := by decide +kernel
theorem dX4_narrow_18 : decode cX4_narrow 18 = .ok (.iload 4, 2) := by decide +kernel
theorem dX4_narrow_20 : decode cX4_narrow 20 = .ok (.iaload, 1) := by decide +kernel
theorem dX4_narrow_21 : decode cX4_narrow 21 = .ok (.iload_n 1, 1) := by decide +kernel
theorem dX4_narrow_22 : decode cX4_narrow 22 = .ok (.invokestatic 45, 3) := by decide +kernel
theorem dX4_narrow_25 : decode cX4_narrow 25 = .ok (.iload_n 2, 1) := by decide +kernel
theorem dX4_narrow_26 : decode cX4_narrow 26 = .ok (.if_icmp .ne 19, 3) := by decide +kernel
theorem dX4_narrow_29 : decode cX4_narrow 29 = .ok (.aload_n 0, 1) := by decide +kernel
theorem dX4_narrow_30 : decode cX4_narrow 30 = .ok (.getfield 9, 3) := by decide +kernel
theorem dX4_narrow_33 : decode cX4_narrow 33 = .ok (.iload_n 3, 1) := by decide +kernel
theorem dX4_narrow_34 : decode cX4_narrow 34 = .ok (.aload_n 0, 1) := by decide +kernel
theorem dX4_narrow_35 : decode cX4_narrow 35 = .ok (.getfield 9, 3) := by decide +kernel
theorem dX4_narrow_38 : decode cX4_narrow 38 = .ok (.iload 4, 2) := by decide +kernel
theorem dX4_narrow_40 : decode cX4_narrow 40 = .ok (.iaload, 1) := by decide +kernel
theorem dX4_narrow_41 : decode cX4_narrow 41 = .ok (.iastore, 1) := by decide +kernel
theorem dX4_narrow_42 : decode cX4_narrow 42 = .ok (.iinc 3 1, 3) := by decide +kernel
theorem dX4_narrow_45 : decode cX4_narrow 45 = .ok (.iinc 4 1, 3) := by decide +kernel
theorem dX4_narrow_48 : decode cX4_narrow 48 = .ok (.goto (-43), 3) := by decide +kernel
theorem dX4_narrow_51 : decode cX4_narrow 51 = .ok (.aload_n 0, 1) := by decide +kernel
theorem dX4_narrow_52 : decode cX4_narrow 52 = .ok (.iload_n 3, 1) := by decide +kernel
theorem dX4_narrow_53 : decode cX4_narrow 53 = .ok (.putfield 33, 3) := by decide +kernel
theorem dX4_narrow_56 : decode cX4_narrow 56 = .ok (.return_, 1) := by decide +kernel
set_option maxRecDepth 20000 in
theorem ggX4_isOpen_X7_claimHolds : GoodIn wsX4_isOpen wsX7_claimHolds := goodIn_r _ [5, 6, 7, 4, 8] (by decide +kernel) (by decide +kernel)
set_option maxRecDepth 20000 in
theorem gX4_isOpen_X7_claimHolds_n53 : GoodIn wsX4_isOpen (wsX7_claimHolds) := ggX4_isOpen_X7_claimHolds
theorem dX4_isOpen_0 : decode cX4_isOpen 0 = .ok (.iconst 1, 1) := by decide +kernel
theorem dX4_isOpen_1 : decode cX4_isOpen 1 = .ok (.istore 4, 2) := by decide +kernel
theorem dX4_isOpen_3 : decode cX4_isOpen 3 = .ok (.iload 4, 2) := by decide +kernel
theorem dX4_isOpen_5 : decode cX4_isOpen 5 = .ok (.aload_n 0, 1) := by decide +kernel
theorem dX4_isOpen_6 : decode cX4_isOpen 6 = .ok (.getfield 33, 3) := by decide +kernel
theorem dX4_isOpen_9 : decode cX4_isOpen 9 = .ok (.if_icmp .ge 39, 3) := by decide +kernel
theorem dX4_isOpen_12 : decode cX4_isOpen 12 = .ok (.iload_n 1, 1) := by decide +kernel
theorem dX4_isOpen_13 : decode cX4_isOpen 13 = .ok (.iload_n 2, 1) := by decide +kernel
theorem dX4_isOpen_14 : decode cX4_isOpen 14 = .ok (.iload_n 3, 1) := by decide +kernel
theorem dX4_isOpen_15 : decode cX4_isOpen 15 = .ok (.aload_n 0, 1) := by decide +kernel
theorem dX4_isOpen_16 : decode cX4_isOpen 16 = .ok (.getfield 9, 3) := by decide +kernel
theorem dX4_isOpen_19 : decode cX4_isOpen 19 = .ok (.iload 4, 2) := by decide +kernel
theorem dX4_isOpen_21 : decode cX4_isOpen 21 = .ok (.iaload, 1) := by decide +kernel
theorem dX4_isOpen_22 : decode cX4_isOpen 22 = .ok (.invokestatic 53, 3) := by decide +kernel
theorem dX4_isOpen_25 : decode cX4_isOpen 25 = .ok (.iload_n 1, 1) := by decide +kernel
theorem dX4_isOpen_26 : decode cX4_isOpen 26 = .ok (.iload_n 2, 1) := by decide +kernel
theorem dX4_isOpen_27 : decode cX4_isOpen 27 = .ok (.iload_n 3, 1) := by decide +kernel
theorem dX4_isOpen_28 : decode cX4_isOpen 28 = .ok (.aload_n 0, 1) := by decide +kernel
theorem dX4_isOpen_29 : decode cX4_isOpen 29 = .ok (.getfield 9, 3) := by decide +kernel
theorem dX4_isOpen_32 : decode cX4_isOpen 32 = .ok (.iconst 0, 1) := by decide +kernel
theorem dX4_isOpen_33 : decode cX4_isOpen 33 = .ok (.iaload, 1) := by decide +kernel
theorem dX4_isOpen_34 : decode cX4_isOpen 34 = .ok (.invokestatic 53, 3) := by decide +kernel
theorem dX4_isOpen_37 : decode cX4_isOpen 37 = .ok (.if_icmp .eq 5, 3) := by decide +kernel
theorem dX4_isOpen_40 : decode cX4_isOpen 40 = .ok (.iconst 1, 1) := by decide +kernel
theorem dX4_isOpen_41 : decode cX4_isOpen 41 = .ok (.ireturn, 1) := by decide +kernel
theorem dX4_isOpen_42 : decode cX4_isOpen 42 = .ok (.iinc 4 1, 3) := by decide +kernel
theorem dX4_isOpen_45 : decode cX4_isOpen 45 = .ok (.goto (-42), 3) := by decide +kernel
theorem dX4_isOpen_48 : decode cX4_isOpen 48 = .ok (.iconst 0, 1) := by decide +kernel
theorem dX4_isOpen_49 : decode cX4_isOpen 49 = .ok (.ireturn, 1) := by decide +kernel
set_option maxRecDepth 20000 in
theorem ggX5_init_X6_init : GoodIn wsX5_init wsX6_init := goodIn_r _ [16, 17, 2, 3, 18, 19, 20, 21, 22, 23, 11, 24, 25, 26, 27, 28] (by decide +kernel) (by decide +kernel)
set_option maxRecDepth 20000 in
theorem gX5_init_X6_init : GoodIn wsX5_init (wsX6_init) := ggX5_init_X6_init
theorem dX5_init_0 : decode cX5_init 0 = .ok (.aload_n 0, 1) := by decide +kernel
theorem dX5_init_1 : decode cX5_init 1 = .ok (.invokespecial 5, 3) := by decide +kernel
theorem dX5_init_4 : decode cX5_init 4 = .ok (.aload_n 0, 1) := by decide +kernel
theorem dX5_init_5 : decode cX5_init 5 = .ok (.new 1, 3) := by decide +kernel
