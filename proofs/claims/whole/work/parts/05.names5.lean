theorem dX7_image_35 : decode cX7_image 35 = .ok (.bastore, 1) := by decide +kernel
theorem dX7_image_36 : decode cX7_image 36 = .ok (.iconst 1, 1) := by decide +kernel
theorem dX7_image_37 : decode cX7_image 37 = .ok (.ireturn, 1) := by decide +kernel
set_option maxRecDepth 20000 in
theorem ggX7_from_X7_isWithin : GoodIn wsX7_from wsX7_isWithin := goodIn_r _ [9] (by decide +kernel) (by decide +kernel)
set_option maxRecDepth 20000 in
theorem gX7_from_X7_isWithin : GoodIn wsX7_from (va_wsS RX7 79 yX7_isWithin wsX7_isWithin) := goodIn_app (goodIn_of _ (by decide +kernel)) ggX7_from_X7_isWithin
set_option maxRecDepth 20000 in
theorem ggX7_from_X7_asBad : GoodIn wsX7_from wsX7_asBad := goodIn_r _ [13, 14, 44, 45, 46, 47, 48, 49, 50, 51, 52, 53, 54, 55] (by decide +kernel) (by decide +kernel)
set_option maxRecDepth 20000 in
theorem gX7_from_X7_asBad : GoodIn wsX7_from (wsV RX7 87 RX7 yX7_asBad wsX7_asBad) := goodIn_app (goodIn_of _ (by decide +kernel)) ggX7_from_X7_asBad
set_option maxRecDepth 20000 in
theorem ggX7_from_X7_asNo : GoodIn wsX7_from wsX7_asNo := goodIn_r _ [18, 19, 44, 45, 46, 47, 48, 49, 50, 51, 52, 53, 54, 55] (by decide +kernel) (by decide +kernel)
set_option maxRecDepth 20000 in
theorem gX7_from_X7_asNo : GoodIn wsX7_from (wsV RX7 125 RX7 yX7_asNo wsX7_asNo) := goodIn_app (goodIn_of _ (by decide +kernel)) ggX7_from_X7_asNo
set_option maxRecDepth 20000 in
theorem ggX7_from_X5_takeOver : GoodIn wsX7_from wsX5_takeOver := goodIn_r _ [24, 25, 26, 27, 28, 29, 30, 31, 32, 33, 34, 35, 36, 37, 38, 39, 40, 41, 42, 43, 60, 61, 62, 63, 64, 65, 66, 67, 68, 69, 70] (by decide +kernel) (by decide +kernel)
set_option maxRecDepth 20000 in
theorem gX7_from_X5_takeOver : GoodIn wsX7_from (wsV RX7 153 RX5 yX5_takeOver wsX5_takeOver) := goodIn_app (goodIn_of _ (by decide +kernel)) ggX7_from_X5_takeOver
theorem dX7_from_0 : decode cX7_from 0 = .ok (.iload_n 1, 1) := by decide +kernel
theorem dX7_from_1 : decode cX7_from 1 = .ok (.iconst 0, 1) := by decide +kernel
theorem dX7_from_2 : decode cX7_from 2 = .ok (.iconst 1, 1) := by decide +kernel
theorem dX7_from_3 : decode cX7_from 3 = .ok (.invokestatic 79, 3) := by decide +kernel
theorem dX7_from_6 : decode cX7_from 6 = .ok (.ifCond .ne 10, 3) := by decide +kernel
theorem dX7_from_9 : decode cX7_from 9 = .ok (.aload_n 0, 1) := by decide +kernel
theorem dX7_from_10 : decode cX7_from 10 = .ok (.bipush (-2), 2) := by decide +kernel
theorem dX7_from_12 : decode cX7_from 12 = .ok (.invokevirtual 87, 3) := by decide +kernel
theorem dX7_from_15 : decode cX7_from 15 = .ok (.ireturn, 1) := by decide +kernel
theorem dX7_from_16 : decode cX7_from 16 = .ok (.aload_n 0, 1) := by decide +kernel
theorem dX7_from_17 : decode cX7_from 17 = .ok (.getfield 23, 3) := by decide +kernel
theorem dX7_from_20 : decode cX7_from 20 = .ok (.iload_n 1, 1) := by decide +kernel
theorem dX7_from_21 : decode cX7_from 21 = .ok (.baload, 1) := by decide +kernel
theorem dX7_from_22 : decode cX7_from 22 = .ok (.ifCond .ne 10, 3) := by decide +kernel
theorem dX7_from_25 : decode cX7_from 25 = .ok (.aload_n 0, 1) := by decide +kernel
theorem dX7_from_26 : decode cX7_from 26 = .ok (.bipush (-3), 2) := by decide +kernel
theorem dX7_from_28 : decode cX7_from 28 = .ok (.invokevirtual 125, 3) := by decide +kernel
theorem dX7_from_31 : decode cX7_from 31 = .ok (.ireturn, 1) := by decide +kernel
theorem dX7_from_32 : decode cX7_from 32 = .ok (.aload_n 0, 1) := by decide +kernel
theorem dX7_from_33 : decode cX7_from 33 = .ok (.getfield 12, 3) := by decide +kernel
theorem dX7_from_36 : decode cX7_from 36 = .ok (.aload_n 0, 1) := by decide +kernel
theorem dX7_from_37 : decode cX7_from 37 = .ok (.getfield 19, 3) := by decide +kernel
theorem dX7_from_40 : decode cX7_from 40 = .ok (.iload_n 1, 1) := by decide +kernel
theorem dX7_from_41 : decode cX7_from 41 = .ok (.aaload, 1) := by decide +kernel
theorem dX7_from_42 : decode cX7_from 42 = .ok (.invokevirtual 153, 3) := by decide +kernel
theorem dX7_from_45 : decode cX7_from 45 = .ok (.aload_n 0, 1) := by decide +kernel
theorem dX7_from_46 : decode cX7_from 46 = .ok (.getfield 30, 3) := by decide +kernel
theorem dX7_from_49 : decode cX7_from 49 = .ok (.iconst 1, 1) := by decide +kernel
theorem dX7_from_50 : decode cX7_from 50 = .ok (.putfield 75, 3) := by decide +kernel
theorem dX7_from_53 : decode cX7_from 53 = .ok (.iconst 1, 1) := by decide +kernel
theorem dX7_from_54 : decode cX7_from 54 = .ok (.ireturn, 1) := by decide +kernel
set_option maxRecDepth 20000 in
theorem ggX7_status_X7_asBad : GoodIn wsX7_status wsX7_asBad := goodIn_r _ [8, 1, 9, 10, 11, 12, 13, 14, 15, 16, 17, 18, 19, 20] (by decide +kernel) (by decide +kernel)
set_option maxRecDepth 20000 in
theorem gX7_status_X7_asBad : GoodIn wsX7_status (wsV RX7 87 RX7 yX7_asBad wsX7_asBad) := goodIn_app (goodIn_of _ (by decide +kernel)) ggX7_status_X7_asBad
theorem dX7_status_0 : decode cX7_status 0 = .ok (.iload_n 1, 1) := by decide +kernel
theorem dX7_status_1 : decode cX7_status 1 = .ok (.tableswitch 42 0 2 #[27, 32, 37], 27) := by decide +kernel
theorem dX7_status_28 : decode cX7_status 28 = .ok (.aload_n 0, 1) := by decide +kernel
theorem dX7_status_29 : decode cX7_status 29 = .ok (.getfield 273, 3) := by decide +kernel
theorem dX7_status_32 : decode cX7_status 32 = .ok (.ireturn, 1) := by decide +kernel
theorem dX7_status_33 : decode cX7_status 33 = .ok (.aload_n 0, 1) := by decide +kernel
theorem dX7_status_34 : decode cX7_status 34 = .ok (.getfield 276, 3) := by decide +kernel
theorem dX7_status_37 : decode cX7_status 37 = .ok (.ireturn, 1) := by decide +kernel
theorem dX7_status_38 : decode cX7_status 38 = .ok (.aload_n 0, 1) := by decide +kernel
theorem dX7_status_39 : decode cX7_status 39 = .ok (.getfield 279, 3) := by decide +kernel
theorem dX7_status_42 : decode cX7_status 42 = .ok (.ireturn, 1) := by decide +kernel
theorem dX7_status_43 : decode cX7_status 43 = .ok (.aload_n 0, 1) := by decide +kernel
theorem dX7_status_44 : decode cX7_status 44 = .ok (.iconst (-1), 1) := by decide +kernel
theorem dX7_status_45 : decode cX7_status 45 = .ok (.invokevirtual 87, 3) := by decide +kernel
theorem dX7_status_48 : decode cX7_status 48 = .ok (.ireturn, 1) := by decide +kernel
set_option maxRecDepth 20000 in
theorem ggX7_count_X7_isWithin : GoodIn wsX7_count wsX7_isWithin := goodIn_r _ [4] (by decide +kernel) (by decide +kernel)
set_option maxRecDepth 20000 in
theorem gX7_count_X7_isWithin : GoodIn wsX7_count (va_wsS RX7 79 yX7_isWithin wsX7_isWithin) := goodIn_app (goodIn_of _ (by decide +kernel)) ggX7_count_X7_isWithin
set_option maxRecDepth 20000 in
theorem ggX7_count_X7_asBad : GoodIn wsX7_count wsX7_asBad := goodIn_r _ [8, 9, 23, 24, 25, 26, 27, 28, 29, 30, 31, 32, 33, 34] (by decide +kernel) (by decide +kernel)
set_option maxRecDepth 20000 in
theorem gX7_count_X7_asBad : GoodIn wsX7_count (wsV RX7 87 RX7 yX7_asBad wsX7_asBad) := goodIn_app (goodIn_of _ (by decide +kernel)) ggX7_count_X7_asBad
set_option maxRecDepth 20000 in
theorem ggX7_count_X7_howMany : GoodIn wsX7_count wsX7_howMany := goodIn_r _ [13, 14, 15, 16, 17, 18, 19, 20, 21, 22, 23, 24, 25, 26, 27, 28, 29, 30, 31, 32, 33, 34, 35, 36, 37, 38, 39, 40, 41, 42, 43, 44, 45, 46, 47, 48, 49, 50, 51] (by decide +kernel) (by decide +kernel)
set_option maxRecDepth 20000 in
theorem gX7_count_X7_howMany : GoodIn wsX7_count (wsV RX7 282 RX7 yX7_howMany wsX7_howMany) := goodIn_app (goodIn_of _ (by decide +kernel)) ggX7_count_X7_howMany
theorem dX7_count_0 : decode cX7_count 0 = .ok (.iload_n 1, 1) := by decide +kernel
theorem dX7_count_1 : decode cX7_count 1 = .ok (.iconst 0, 1) := by decide +kernel
theorem dX7_count_2 : decode cX7_count 2 = .ok (.iconst 5, 1) := by decide +kernel
theorem dX7_count_3 : decode cX7_count 3 = .ok (.invokestatic 79, 3) := by decide +kernel
theorem dX7_count_6 : decode cX7_count 6 = .ok (.ifCond .ne 10, 3) := by decide +kernel
theorem dX7_count_9 : decode cX7_count 9 = .ok (.aload_n 0, 1) := by decide +kernel
theorem dX7_count_10 : decode cX7_count 10 = .ok (.bipush (-2), 2) := by decide +kernel
theorem dX7_count_12 : decode cX7_count 12 = .ok (.invokevirtual 87, 3) := by decide +kernel
theorem dX7_count_15 : decode cX7_count 15 = .ok (.ireturn, 1) := by decide +kernel
theorem dX7_count_16 : decode cX7_count 16 = .ok (.aload_n 0, 1) := by decide +kernel
theorem dX7_count_17 : decode cX7_count 17 = .ok (.iload_n 1, 1) := by decide +kernel
theorem dX7_count_18 : decode cX7_count 18 = .ok (.invokevirtual 282, 3) := by decide +kernel
theorem dX7_count_21 : decode cX7_count 21 = .ok (.ireturn, 1) := by decide +kernel
set_option maxRecDepth 20000 in
theorem ggX7_digest_X7_howMany : GoodIn wsX7_digest wsX7_howMany := goodIn_r _ [15, 3, 4, 16, 5, 6, 7, 17, 18, 19, 29, 30, 31, 32, 33, 34, 35, 36, 37, 38, 39, 40, 41, 42, 43, 44, 45, 46, 47, 50, 51, 52, 53, 54, 55, 56, 57, 58, 59] (by decide +kernel) (by decide +kernel)
set_option maxRecDepth 20000 in
theorem gX7_digest_X7_howMany : GoodIn wsX7_digest (wsV RX7 282 RX7 yX7_howMany wsX7_howMany) := goodIn_app (goodIn_of _ (by decide +kernel)) ggX7_digest_X7_howMany
set_option maxRecDepth 20000 in
theorem ggX7_digest_X6_mixInto : GoodIn wsX7_digest wsX6_mixInto := goodIn_r _ [24, 25, 26, 27, 28, 50, 51, 52, 53] (by decide +kernel) (by decide +kernel)
set_option maxRecDepth 20000 in
theorem gX7_digest_X6_mixInto : GoodIn wsX7_digest (wsV RX7 289 RX6 yX6_mixInto wsX6_mixInto) := goodIn_app (goodIn_of _ (by decide +kernel)) ggX7_digest_X6_mixInto
theorem dX7_digest_0 : decode cX7_digest 0 = .ok (.ldc2_w 285, 3) := by decide +kernel
theorem dX7_digest_3 : decode cX7_digest 3 = .ok (.lstore_n 1, 1) := by decide +kernel
theorem dX7_digest_4 : decode cX7_digest 4 = .ok (.iconst 0, 1) := by decide +kernel
theorem dX7_digest_5 : decode cX7_digest 5 = .ok (.istore_n 3, 1) := by decide +kernel
theorem dX7_digest_6 : decode cX7_digest 6 = .ok (.iload_n 3, 1) := by decide +kernel
theorem dX7_digest_7 : decode cX7_digest 7 = .ok (.iconst 5, 1) := by decide +kernel
theorem dX7_digest_8 : decode cX7_digest 8 = .ok (.if_icmp .gt 22, 3) := by decide +kernel
theorem dX7_digest_11 : decode cX7_digest 11 = .ok (.ldc2_w 287, 3) := by decide +kernel
theorem dX7_digest_14 : decode cX7_digest 14 = .ok (.lload_n 1, 1) := by decide +kernel
theorem dX7_digest_15 : decode cX7_digest 15 = .ok (.lmul, 1) := by decide +kernel
theorem dX7_digest_16 : decode cX7_digest 16 = .ok (.aload_n 0, 1) := by decide +kernel
theorem dX7_digest_17 : decode cX7_digest 17 = .ok (.iload_n 3, 1) := by decide +kernel
theorem dX7_digest_18 : decode cX7_digest 18 = .ok (.invokevirtual 282, 3) := by decide +kernel
theorem dX7_digest_21 : decode cX7_digest 21 = .ok (.i2l, 1) := by decide +kernel
theorem dX7_digest_22 : decode cX7_digest 22 = .ok (.ladd, 1) := by decide +kernel
theorem dX7_digest_23 : decode cX7_digest 23 = .ok (.lstore_n 1, 1) := by decide +kernel
theorem dX7_digest_24 : decode cX7_digest 24 = .ok (.iinc 3 1, 3) := by decide +kernel
theorem dX7_digest_27 : decode cX7_digest 27 = .ok (.goto (-21), 3) := by decide +kernel
theorem dX7_digest_30 : decode cX7_digest 30 = .ok (.aload_n 0, 1) := by decide +kernel
theorem dX7_digest_31 : decode cX7_digest 31 = .ok (.getfield 12, 3) := by decide +kernel
theorem dX7_digest_34 : decode cX7_digest 34 = .ok (.getfield 91, 3) := by decide +kernel
theorem dX7_digest_37 : decode cX7_digest 37 = .ok (.lload_n 1, 1) := by decide +kernel
theorem dX7_digest_38 : decode cX7_digest 38 = .ok (.invokevirtual 289, 3) := by decide +kernel
theorem dX7_digest_41 : decode cX7_digest 41 = .ok (.lstore_n 1, 1) := by decide +kernel
theorem dX7_digest_42 : decode cX7_digest 42 = .ok (.aload_n 0, 1) := by decide +kernel
theorem dX7_digest_43 : decode cX7_digest 43 = .ok (.getfield 12, 3) := by decide +kernel
theorem dX7_digest_46 : decode cX7_digest 46 = .ok (.getfield 62, 3) := by decide +kernel
theorem dX7_digest_49 : decode cX7_digest 49 = .ok (.lload_n 1, 1) := by decide +kernel
theorem dX7_digest_50 : decode cX7_digest 50 = .ok (.invokevirtual 289, 3) := by decide +kernel
theorem dX7_digest_53 : decode cX7_digest 53 = .ok (.lstore_n 1, 1) := by decide +kernel
theorem dX7_digest_54 : decode cX7_digest 54 = .ok (.aload_n 0, 1) := by decide +kernel
theorem dX7_digest_55 : decode cX7_digest 55 = .ok (.getfield 12, 3) := by decide +kernel
theorem dX7_digest_58 : decode cX7_digest 58 = .ok (.getfield 134, 3) := by decide +kernel
theorem dX7_digest_61 : decode cX7_digest 61 = .ok (.lload_n 1, 1) := by decide +kernel
theorem dX7_digest_62 : decode cX7_digest 62 = .ok (.invokevirtual 289, 3) := by decide +kernel
theorem dX7_digest_65 : decode cX7_digest 65 = .ok (.lstore_n 1, 1) := by decide +kernel
theorem dX7_digest_66 : decode cX7_digest 66 = .ok (.aload_n 0, 1) := by decide +kernel
theorem dX7_digest_67 : decode cX7_digest 67 = .ok (.getfield 12, 3) := by decide +kernel
theorem dX7_digest_70 : decode cX7_digest 70 = .ok (.getfield 252, 3) := by decide +kernel
theorem dX7_digest_73 : decode cX7_digest 73 = .ok (.lload_n 1, 1) := by decide +kernel
theorem dX7_digest_74 : decode cX7_digest 74 = .ok (.invokevirtual 289, 3) := by decide +kernel
theorem dX7_digest_77 : decode cX7_digest 77 = .ok (.lstore_n 1, 1) := by decide +kernel
theorem dX7_digest_78 : decode cX7_digest 78 = .ok (.ldc2_w 287, 3) := by decide +kernel
theorem dX7_digest_81 : decode cX7_digest 81 = .ok (.lload_n 1, 1) := by decide +kernel
theorem dX7_digest_82 : decode cX7_digest 82 = .ok (.lmul, 1) := by decide +kernel
theorem dX7_digest_83 : decode cX7_digest 83 = .ok (.aload_n 0, 1) := by decide +kernel
theorem dX7_digest_84 : decode cX7_digest 84 = .ok (.getfield 58, 3) := by decide +kernel
theorem dX7_digest_87 : decode cX7_digest 87 = .ok (.getfield 267, 3) := by decide +kernel
theorem dX7_digest_90 : decode cX7_digest 90 = .ok (.ladd, 1) := by decide +kernel
theorem dX7_digest_91 : decode cX7_digest 91 = .ok (.lstore_n 1, 1) := by decide +kernel
theorem dX7_digest_92 : decode cX7_digest 92 = .ok (.ldc2_w 287, 3) := by decide +kernel
theorem dX7_digest_95 : decode cX7_digest 95 = .ok (.lload_n 1, 1) := by decide +kernel
theorem dX7_digest_96 : decode cX7_digest 96 = .ok (.lmul, 1) := by decide +kernel
theorem dX7_digest_97 : decode cX7_digest 97 = .ok (.aload_n 0, 1) := by decide +kernel
theorem dX7_digest_98 : decode cX7_digest 98 = .ok (.getfield 58, 3) := by decide +kernel
theorem dX7_digest_101 : decode cX7_digest 101 = .ok (.getfield 270, 3) := by decide +kernel
theorem dX7_digest_104 : decode cX7_digest 104 = .ok (.ladd, 1) := by decide +kernel
theorem dX7_digest_105 : decode cX7_digest 105 = .ok (.lreturn, 1) := by decide +kernel
theorem dX7_asBad_0 : decode cX7_asBad 0 = .ok (.aload_n 0, 1) := by decide +kernel
theorem dX7_asBad_1 : decode cX7_asBad 1 = .ok (.dup, 1) := by decide +kernel
theorem dX7_asBad_2 : decode cX7_asBad 2 = .ok (.getfield 273, 3) := by decide +kernel
theorem dX7_asBad_5 : decode cX7_asBad 5 = .ok (.iconst 1, 1) := by decide +kernel
theorem dX7_asBad_6 : decode cX7_asBad 6 = .ok (.iadd, 1) := by decide +kernel
theorem dX7_asBad_7 : decode cX7_asBad 7 = .ok (.putfield 273, 3) := by decide +kernel
theorem dX7_asBad_10 : decode cX7_asBad 10 = .ok (.iload_n 1, 1) := by decide +kernel
theorem dX7_asBad_11 : decode cX7_asBad 11 = .ok (.ireturn, 1) := by decide +kernel
theorem dX7_asNo_0 : decode cX7_asNo 0 = .ok (.aload_n 0, 1) := by decide +kernel
theorem dX7_asNo_1 : decode cX7_asNo 1 = .ok (.dup, 1) := by decide +kernel
theorem dX7_asNo_2 : decode cX7_asNo 2 = .ok (.getfield 276, 3) := by decide +kernel
theorem dX7_asNo_5 : decode cX7_asNo 5 = .ok (.iconst 1, 1) := by decide +kernel
theorem dX7_asNo_6 : decode cX7_asNo 6 = .ok (.iadd, 1) := by decide +kernel
theorem dX7_asNo_7 : decode cX7_asNo 7 = .ok (.putfield 276, 3) := by decide +kernel
theorem dX7_asNo_10 : decode cX7_asNo 10 = .ok (.iload_n 1, 1) := by decide +kernel
theorem dX7_asNo_11 : decode cX7_asNo 11 = .ok (.ireturn, 1) := by decide +kernel
theorem dX7_asFull_0 : decode cX7_asFull 0 = .ok (.aload_n 0, 1) := by decide +kernel
theorem dX7_asFull_1 : decode cX7_asFull 1 = .ok (.dup, 1) := by decide +kernel
theorem dX7_asFull_2 : decode cX7_asFull 2 = .ok (.getfield 279, 3) := by decide +kernel
theorem dX7_asFull_5 : decode cX7_asFull 5 = .ok (.iconst 1, 1) := by decide +kernel
theorem dX7_asFull_6 : decode cX7_asFull 6 = .ok (.iadd, 1) := by decide +kernel
theorem dX7_asFull_7 : decode cX7_asFull 7 = .ok (.putfield 279, 3) := by decide +kernel
theorem dX7_asFull_10 : decode cX7_asFull 10 = .ok (.bipush (-4), 2) := by decide +kernel
theorem dX7_asFull_12 : decode cX7_asFull 12 = .ok (.ireturn, 1) := by decide +kernel
theorem dX7_howMany_0 : decode cX7_howMany 0 = .ok (.iload_n 1, 1) := by decide +kernel
theorem dX7_howMany_1 : decode cX7_howMany 1 = .ok (.tableswitch 87 0 4 #[35, 46, 57, 68, 79], 35) := by decide +kernel
theorem dX7_howMany_36 : decode cX7_howMany 36 = .ok (.aload_n 0, 1) := by decide +kernel
theorem dX7_howMany_37 : decode cX7_howMany 37 = .ok (.getfield 12, 3) := by decide +kernel
theorem dX7_howMany_40 : decode cX7_howMany 40 = .ok (.getfield 91, 3) := by decide +kernel
theorem dX7_howMany_43 : decode cX7_howMany 43 = .ok (.getfield 66, 3) := by decide +kernel
theorem dX7_howMany_46 : decode cX7_howMany 46 = .ok (.ireturn, 1) := by decide +kernel
theorem dX7_howMany_47 : decode cX7_howMany 47 = .ok (.aload_n 0, 1) := by decide +kernel
theorem dX7_howMany_48 : decode cX7_howMany 48 = .ok (.getfield 12, 3) := by decide +kernel
theorem dX7_howMany_51 : decode cX7_howMany 51 = .ok (.getfield 62, 3) := by decide +kernel
theorem dX7_howMany_54 : decode cX7_howMany 54 = .ok (.getfield 66, 3) := by decide +kernel
theorem dX7_howMany_57 : decode cX7_howMany 57 = .ok (.ireturn, 1) := by decide +kernel
theorem dX7_howMany_58 : decode cX7_howMany 58 = .ok (.aload_n 0, 1) := by decide +kernel
theorem dX7_howMany_59 : decode cX7_howMany 59 = .ok (.getfield 12, 3) := by decide +kernel
theorem dX7_howMany_62 : decode cX7_howMany 62 = .ok (.getfield 134, 3) := by decide +kernel
theorem dX7_howMany_65 : decode cX7_howMany 65 = .ok (.getfield 66, 3) := by decide +kernel
theorem dX7_howMany_68 : decode cX7_howMany 68 = .ok (.ireturn, 1) := by decide +kernel
theorem dX7_howMany_69 : decode cX7_howMany 69 = .ok (.aload_n 0, 1) := by decide +kernel
theorem dX7_howMany_70 : decode cX7_howMany 70 = .ok (.getfield 12, 3) := by decide +kernel
theorem dX7_howMany_73 : decode cX7_howMany 73 = .ok (.getfield 252, 3) := by decide +kernel
theorem dX7_howMany_76 : decode cX7_howMany 76 = .ok (.getfield 66, 3) := by decide +kernel
theorem dX7_howMany_79 : decode cX7_howMany 79 = .ok (.ireturn, 1) := by decide +kernel
theorem dX7_howMany_80 : decode cX7_howMany 80 = .ok (.aload_n 0, 1) := by decide +kernel
theorem dX7_howMany_81 : decode cX7_howMany 81 = .ok (.getfield 12, 3) := by decide +kernel
theorem dX7_howMany_84 : decode cX7_howMany 84 = .ok (.getfield 122, 3) := by decide +kernel
theorem dX7_howMany_87 : decode cX7_howMany 87 = .ok (.ireturn, 1) := by decide +kernel
theorem dX7_howMany_88 : decode cX7_howMany 88 = .ok (.aload_n 0, 1) := by decide +kernel
theorem dX7_howMany_89 : decode cX7_howMany 89 = .ok (.getfield 51, 3) := by decide +kernel
theorem dX7_howMany_92 : decode cX7_howMany 92 = .ok (.getfield 142, 3) := by decide +kernel
theorem dX7_howMany_95 : decode cX7_howMany 95 = .ok (.ireturn, 1) := by decide +kernel
set_option maxRecDepth 20000 in
theorem ggX7_weighed_X2_weigh : GoodIn wsX7_weighed wsX2_weigh := goodIn_r _ [10, 11, 12, 13, 14, 15, 16, 17, 9, 18, 19, 20, 21, 22, 23, 24, 25, 26, 27, 28, 29, 30, 31, 32, 33, 34, 35, 36, 37, 38, 51, 52, 53, 54, 62, 63, 64, 65] (by decide +kernel) (by decide +kernel)
set_option maxRecDepth 20000 in
theorem gX7_weighed_X2_weigh : GoodIn wsX7_weighed (wsV RX7 293 RX2 yX2_weigh wsX2_weigh) := goodIn_app (goodIn_of _ (by decide +kernel)) ggX7_weighed_X2_weigh
theorem dX7_weighed_0 : decode cX7_weighed 0 = .ok (.aload_n 0, 1) := by decide +kernel
theorem dX7_weighed_1 : decode cX7_weighed 1 = .ok (.getfield 30, 3) := by decide +kernel
theorem dX7_weighed_4 : decode cX7_weighed 4 = .ok (.getfield 75, 3) := by decide +kernel
theorem dX7_weighed_7 : decode cX7_weighed 7 = .ok (.ifCond .eq 24, 3) := by decide +kernel
theorem dX7_weighed_10 : decode cX7_weighed 10 = .ok (.aload_n 0, 1) := by decide +kernel
theorem dX7_weighed_11 : decode cX7_weighed 11 = .ok (.getfield 30, 3) := by decide +kernel
theorem dX7_weighed_14 : decode cX7_weighed 14 = .ok (.aload_n 0, 1) := by decide +kernel
theorem dX7_weighed_15 : decode cX7_weighed 15 = .ok (.getfield 12, 3) := by decide +kernel
theorem dX7_weighed_18 : decode cX7_weighed 18 = .ok (.getfield 91, 3) := by decide +kernel
theorem dX7_weighed_21 : decode cX7_weighed 21 = .ok (.aload_n 0, 1) := by decide +kernel
theorem dX7_weighed_22 : decode cX7_weighed 22 = .ok (.getfield 12, 3) := by decide +kernel
theorem dX7_weighed_25 : decode cX7_weighed 25 = .ok (.getfield 62, 3) := by decide +kernel
theorem dX7_weighed_28 : decode cX7_weighed 28 = .ok (.invokevirtual 293, 3) := by decide +kernel
theorem dX7_weighed_31 : decode cX7_weighed 31 = .ok (.aload_n 0, 1) := by decide +kernel
theorem dX7_weighed_32 : decode cX7_weighed 32 = .ok (.getfield 30, 3) := by decide +kernel
theorem dX7_weighed_35 : decode cX7_weighed 35 = .ok (.areturn, 1) := by decide +kernel
set_option maxRecDepth 20000 in
theorem ggX7_makesAllSo_X2_totalIf : GoodIn wsX7_makesAllSo wsX2_totalIf := goodIn_r _ [9, 10, 11, 12, 13, 14, 15, 16, 35, 36, 37, 38] (by decide +kernel) (by decide +kernel)
set_option maxRecDepth 20000 in
theorem gX7_makesAllSo_X2_totalIf : GoodIn wsX7_makesAllSo (wsV RX7 204 RX2 yX2_totalIf wsX2_totalIf) := goodIn_app (goodIn_of _ (by decide +kernel)) ggX7_makesAllSo_X2_totalIf
set_option maxRecDepth 20000 in
theorem ggX7_makesAllSo_X6_cell : GoodIn wsX7_makesAllSo wsX6_cell := goodIn_r _ [21, 22, 23, 24, 58, 59, 60, 61] (by decide +kernel) (by decide +kernel)
set_option maxRecDepth 20000 in
theorem gX7_makesAllSo_X6_cell : GoodIn wsX7_makesAllSo (wsV RX7 157 RX6 yX6_cell wsX6_cell) := goodIn_app (goodIn_of _ (by decide +kernel)) ggX7_makesAllSo_X6_cell
set_option maxRecDepth 20000 in
theorem ggX7_makesAllSo_X2_heldIf : GoodIn wsX7_makesAllSo wsX2_heldIf := goodIn_r _ [28, 10, 29, 12, 30, 14, 15, 16, 11, 13, 35, 36, 37, 38] (by decide +kernel) (by decide +kernel)
set_option maxRecDepth 20000 in
theorem gX7_makesAllSo_X2_heldIf : GoodIn wsX7_makesAllSo (wsV RX7 207 RX2 yX2_heldIf wsX2_heldIf) := goodIn_app (goodIn_of _ (by decide +kernel)) ggX7_makesAllSo_X2_heldIf
set_option maxRecDepth 20000 in
theorem ggX7_makesAllSo_X2_held : GoodIn wsX7_makesAllSo wsX2_held := goodIn_r _ [34, 10, 29, 12, 30, 14, 15, 16, 35, 36, 37, 38] (by decide +kernel) (by decide +kernel)
set_option maxRecDepth 20000 in
theorem gX7_makesAllSo_X2_held : GoodIn wsX7_makesAllSo (wsV RX7 192 RX2 yX2_held wsX2_held) := goodIn_app (goodIn_of _ (by decide +kernel)) ggX7_makesAllSo_X2_held
theorem dX7_makesAllSo_0 : decode cX7_makesAllSo 0 = .ok (.iload_n 2, 1) := by decide +kernel
theorem dX7_makesAllSo_1 : decode cX7_makesAllSo 1 = .ok (.bipush 14, 2) := by decide +kernel
theorem dX7_makesAllSo_3 : decode cX7_makesAllSo 3 = .ok (.if_icmp .ge 7, 3) := by decide +kernel
theorem dX7_makesAllSo_6 : decode cX7_makesAllSo 6 = .ok (.iconst 1, 1) := by decide +kernel
theorem dX7_makesAllSo_7 : decode cX7_makesAllSo 7 = .ok (.goto 4, 3) := by decide +kernel
theorem dX7_makesAllSo_10 : decode cX7_makesAllSo 10 = .ok (.iconst 0, 1) := by decide +kernel
theorem dX7_makesAllSo_11 : decode cX7_makesAllSo 11 = .ok (.istore_n 3, 1) := by decide +kernel
theorem dX7_makesAllSo_12 : decode cX7_makesAllSo 12 = .ok (.iload_n 2, 1) := by decide +kernel
theorem dX7_makesAllSo_13 : decode cX7_makesAllSo 13 = .ok (.iconst 2, 1) := by decide +kernel
theorem dX7_makesAllSo_14 : decode cX7_makesAllSo 14 = .ok (.idiv, 1) := by decide +kernel
theorem dX7_makesAllSo_15 : decode cX7_makesAllSo 15 = .ok (.istore 4, 2) := by decide +kernel
theorem dX7_makesAllSo_17 : decode cX7_makesAllSo 17 = .ok (.iload_n 2, 1) := by decide +kernel
theorem dX7_makesAllSo_18 : decode cX7_makesAllSo 18 = .ok (.iconst 2, 1) := by decide +kernel
theorem dX7_makesAllSo_19 : decode cX7_makesAllSo 19 = .ok (.irem, 1) := by decide +kernel
theorem dX7_makesAllSo_20 : decode cX7_makesAllSo 20 = .ok (.istore 5, 2) := by decide +kernel
theorem dX7_makesAllSo_22 : decode cX7_makesAllSo 22 = .ok (.iload_n 3, 1) := by decide +kernel
theorem dX7_makesAllSo_23 : decode cX7_makesAllSo 23 = .ok (.ifCond .eq 16, 3) := by decide +kernel
theorem dX7_makesAllSo_26 : decode cX7_makesAllSo 26 = .ok (.aload_n 1, 1) := by decide +kernel
theorem dX7_makesAllSo_27 : decode cX7_makesAllSo 27 = .ok (.iload 4, 2) := by decide +kernel
theorem dX7_makesAllSo_29 : decode cX7_makesAllSo 29 = .ok (.iload 5, 2) := by decide +kernel
theorem dX7_makesAllSo_31 : decode cX7_makesAllSo 31 = .ok (.bipush 10, 2) := by decide +kernel
theorem dX7_makesAllSo_33 : decode cX7_makesAllSo 33 = .ok (.invokevirtual 204, 3) := by decide +kernel
theorem dX7_makesAllSo_36 : decode cX7_makesAllSo 36 = .ok (.goto 7, 3) := by decide +kernel
theorem dX7_makesAllSo_39 : decode cX7_makesAllSo 39 = .ok (.aload_n 1, 1) := by decide +kernel
theorem dX7_makesAllSo_40 : decode cX7_makesAllSo 40 = .ok (.getfield 196, 3) := by decide +kernel
theorem dX7_makesAllSo_43 : decode cX7_makesAllSo 43 = .ok (.lstore 6, 2) := by decide +kernel
theorem dX7_makesAllSo_45 : decode cX7_makesAllSo 45 = .ok (.lload 6, 2) := by decide +kernel
theorem dX7_makesAllSo_47 : decode cX7_makesAllSo 47 = .ok (.lconst 0, 1) := by decide +kernel
theorem dX7_makesAllSo_48 : decode cX7_makesAllSo 48 = .ok (.lcmp, 1) := by decide +kernel
theorem dX7_makesAllSo_49 : decode cX7_makesAllSo 49 = .ok (.ifCond .gt 5, 3) := by decide +kernel
theorem dX7_makesAllSo_52 : decode cX7_makesAllSo 52 = .ok (.iconst 0, 1) := by decide +kernel
theorem dX7_makesAllSo_53 : decode cX7_makesAllSo 53 = .ok (.ireturn, 1) := by decide +kernel
theorem dX7_makesAllSo_54 : decode cX7_makesAllSo 54 = .ok (.iconst 0, 1) := by decide +kernel
theorem dX7_makesAllSo_55 : decode cX7_makesAllSo 55 = .ok (.istore 8, 2) := by decide +kernel
theorem dX7_makesAllSo_57 : decode cX7_makesAllSo 57 = .ok (.iload 8, 2) := by decide +kernel
theorem dX7_makesAllSo_59 : decode cX7_makesAllSo 59 = .ok (.aload_n 0, 1) := by decide +kernel
theorem dX7_makesAllSo_60 : decode cX7_makesAllSo 60 = .ok (.getfield 12, 3) := by decide +kernel
theorem dX7_makesAllSo_63 : decode cX7_makesAllSo 63 = .ok (.getfield 252, 3) := by decide +kernel
theorem dX7_makesAllSo_66 : decode cX7_makesAllSo 66 = .ok (.getfield 66, 3) := by decide +kernel
theorem dX7_makesAllSo_69 : decode cX7_makesAllSo 69 = .ok (.if_icmp .ge 151, 3) := by decide +kernel
theorem dX7_makesAllSo_72 : decode cX7_makesAllSo 72 = .ok (.aload_n 0, 1) := by decide +kernel
theorem dX7_makesAllSo_73 : decode cX7_makesAllSo 73 = .ok (.getfield 12, 3) := by decide +kernel
theorem dX7_makesAllSo_76 : decode cX7_makesAllSo 76 = .ok (.getfield 252, 3) := by decide +kernel
theorem dX7_makesAllSo_79 : decode cX7_makesAllSo 79 = .ok (.iload 8, 2) := by decide +kernel
theorem dX7_makesAllSo_81 : decode cX7_makesAllSo 81 = .ok (.iconst 0, 1) := by decide +kernel
theorem dX7_makesAllSo_82 : decode cX7_makesAllSo 82 = .ok (.invokevirtual 157, 3) := by decide +kernel
theorem dX7_makesAllSo_85 : decode cX7_makesAllSo 85 = .ok (.istore 9, 2) := by decide +kernel
theorem dX7_makesAllSo_87 : decode cX7_makesAllSo 87 = .ok (.aload_n 0, 1) := by decide +kernel
theorem dX7_makesAllSo_88 : decode cX7_makesAllSo 88 = .ok (.getfield 12, 3) := by decide +kernel
theorem dX7_makesAllSo_91 : decode cX7_makesAllSo 91 = .ok (.getfield 252, 3) := by decide +kernel
theorem dX7_makesAllSo_94 : decode cX7_makesAllSo 94 = .ok (.iload 8, 2) := by decide +kernel
theorem dX7_makesAllSo_96 : decode cX7_makesAllSo 96 = .ok (.iconst 1, 1) := by decide +kernel
theorem dX7_makesAllSo_97 : decode cX7_makesAllSo 97 = .ok (.invokevirtual 157, 3) := by decide +kernel
theorem dX7_makesAllSo_100 : decode cX7_makesAllSo 100 = .ok (.istore 10, 2) := by decide +kernel
theorem dX7_makesAllSo_102 : decode cX7_makesAllSo 102 = .ok (.aload_n 0, 1) := by decide +kernel
theorem dX7_makesAllSo_103 : decode cX7_makesAllSo 103 = .ok (.getfield 12, 3) := by decide +kernel
theorem dX7_makesAllSo_106 : decode cX7_makesAllSo 106 = .ok (.getfield 252, 3) := by decide +kernel
theorem dX7_makesAllSo_109 : decode cX7_makesAllSo 109 = .ok (.iload 8, 2) := by decide +kernel
theorem dX7_makesAllSo_111 : decode cX7_makesAllSo 111 = .ok (.iconst 2, 1) := by decide +kernel
theorem dX7_makesAllSo_112 : decode cX7_makesAllSo 112 = .ok (.invokevirtual 157, 3) := by decide +kernel
theorem dX7_makesAllSo_115 : decode cX7_makesAllSo 115 = .ok (.istore 11, 2) := by decide +kernel
theorem dX7_makesAllSo_117 : decode cX7_makesAllSo 117 = .ok (.iload_n 3, 1) := by decide +kernel
theorem dX7_makesAllSo_118 : decode cX7_makesAllSo 118 = .ok (.ifCond .eq 22, 3) := by decide +kernel
theorem dX7_makesAllSo_121 : decode cX7_makesAllSo 121 = .ok (.aload_n 1, 1) := by decide +kernel
theorem dX7_makesAllSo_122 : decode cX7_makesAllSo 122 = .ok (.iload 9, 2) := by decide +kernel
theorem dX7_makesAllSo_124 : decode cX7_makesAllSo 124 = .ok (.iload 10, 2) := by decide +kernel
theorem dX7_makesAllSo_126 : decode cX7_makesAllSo 126 = .ok (.iload 11, 2) := by decide +kernel
theorem dX7_makesAllSo_128 : decode cX7_makesAllSo 128 = .ok (.iload 4, 2) := by decide +kernel
theorem dX7_makesAllSo_130 : decode cX7_makesAllSo 130 = .ok (.iload 5, 2) := by decide +kernel
theorem dX7_makesAllSo_132 : decode cX7_makesAllSo 132 = .ok (.bipush 10, 2) := by decide +kernel
theorem dX7_makesAllSo_134 : decode cX7_makesAllSo 134 = .ok (.invokevirtual 207, 3) := by decide +kernel
theorem dX7_makesAllSo_137 : decode cX7_makesAllSo 137 = .ok (.goto 13, 3) := by decide +kernel
theorem dX7_makesAllSo_140 : decode cX7_makesAllSo 140 = .ok (.aload_n 1, 1) := by decide +kernel
theorem dX7_makesAllSo_141 : decode cX7_makesAllSo 141 = .ok (.iload 9, 2) := by decide +kernel
theorem dX7_makesAllSo_143 : decode cX7_makesAllSo 143 = .ok (.iload 10, 2) := by decide +kernel
theorem dX7_makesAllSo_145 : decode cX7_makesAllSo 145 = .ok (.iload 11, 2) := by decide +kernel
theorem dX7_makesAllSo_147 : decode cX7_makesAllSo 147 = .ok (.invokevirtual 192, 3) := by decide +kernel
theorem dX7_makesAllSo_150 : decode cX7_makesAllSo 150 = .ok (.lstore 12, 2) := by decide +kernel
theorem dX7_makesAllSo_152 : decode cX7_makesAllSo 152 = .ok (.lload 12, 2) := by decide +kernel
theorem dX7_makesAllSo_154 : decode cX7_makesAllSo 154 = .ok (.aload_n 0, 1) := by decide +kernel
theorem dX7_makesAllSo_155 : decode cX7_makesAllSo 155 = .ok (.getfield 12, 3) := by decide +kernel
theorem dX7_makesAllSo_158 : decode cX7_makesAllSo 158 = .ok (.getfield 252, 3) := by decide +kernel
theorem dX7_makesAllSo_161 : decode cX7_makesAllSo 161 = .ok (.iload 8, 2) := by decide +kernel
theorem dX7_makesAllSo_163 : decode cX7_makesAllSo 163 = .ok (.iconst 3, 1) := by decide +kernel
theorem dX7_makesAllSo_164 : decode cX7_makesAllSo 164 = .ok (.invokevirtual 157, 3) := by decide +kernel
theorem dX7_makesAllSo_167 : decode cX7_makesAllSo 167 = .ok (.i2l, 1) := by decide +kernel
theorem dX7_makesAllSo_168 : decode cX7_makesAllSo 168 = .ok (.lmul, 1) := by decide +kernel
theorem dX7_makesAllSo_169 : decode cX7_makesAllSo 169 = .ok (.lload 6, 2) := by decide +kernel
theorem dX7_makesAllSo_171 : decode cX7_makesAllSo 171 = .ok (.lload 12, 2) := by decide +kernel
theorem dX7_makesAllSo_173 : decode cX7_makesAllSo 173 = .ok (.lsub, 1) := by decide +kernel
theorem dX7_makesAllSo_174 : decode cX7_makesAllSo 174 = .ok (.lcmp, 1) := by decide +kernel
theorem dX7_makesAllSo_175 : decode cX7_makesAllSo 175 = .ok (.ifCond .le 7, 3) := by decide +kernel
theorem dX7_makesAllSo_178 : decode cX7_makesAllSo 178 = .ok (.iconst 1, 1) := by decide +kernel
theorem dX7_makesAllSo_179 : decode cX7_makesAllSo 179 = .ok (.goto 4, 3) := by decide +kernel
theorem dX7_makesAllSo_182 : decode cX7_makesAllSo 182 = .ok (.iconst 0, 1) := by decide +kernel
theorem dX7_makesAllSo_183 : decode cX7_makesAllSo 183 = .ok (.istore 14, 2) := by decide +kernel
theorem dX7_makesAllSo_185 : decode cX7_makesAllSo 185 = .ok (.iload 14, 2) := by decide +kernel
theorem dX7_makesAllSo_187 : decode cX7_makesAllSo 187 = .ok (.aload_n 0, 1) := by decide +kernel
theorem dX7_makesAllSo_188 : decode cX7_makesAllSo 188 = .ok (.getfield 12, 3) := by decide +kernel
theorem dX7_makesAllSo_191 : decode cX7_makesAllSo 191 = .ok (.getfield 252, 3) := by decide +kernel
theorem dX7_makesAllSo_194 : decode cX7_makesAllSo 194 = .ok (.iload 8, 2) := by decide +kernel
theorem dX7_makesAllSo_196 : decode cX7_makesAllSo 196 = .ok (.iconst 4, 1) := by decide +kernel
theorem dX7_makesAllSo_197 : decode cX7_makesAllSo 197 = .ok (.invokevirtual 157, 3) := by decide +kernel
theorem dX7_makesAllSo_200 : decode cX7_makesAllSo 200 = .ok (.iconst 1, 1) := by decide +kernel
theorem dX7_makesAllSo_201 : decode cX7_makesAllSo 201 = .ok (.if_icmp .ne 7, 3) := by decide +kernel
theorem dX7_makesAllSo_204 : decode cX7_makesAllSo 204 = .ok (.iconst 1, 1) := by decide +kernel
theorem dX7_makesAllSo_205 : decode cX7_makesAllSo 205 = .ok (.goto 4, 3) := by decide +kernel
theorem dX7_makesAllSo_208 : decode cX7_makesAllSo 208 = .ok (.iconst 0, 1) := by decide +kernel
theorem dX7_makesAllSo_209 : decode cX7_makesAllSo 209 = .ok (.if_icmp .eq 5, 3) := by decide +kernel
theorem dX7_makesAllSo_212 : decode cX7_makesAllSo 212 = .ok (.iconst 0, 1) := by decide +kernel
theorem dX7_makesAllSo_213 : decode cX7_makesAllSo 213 = .ok (.ireturn, 1) := by decide +kernel
theorem dX7_makesAllSo_214 : decode cX7_makesAllSo 214 = .ok (.iinc 8 1, 3) := by decide +kernel
theorem dX7_makesAllSo_217 : decode cX7_makesAllSo 217 = .ok (.goto (-160), 3) := by decide +kernel
theorem dX7_makesAllSo_220 : decode cX7_makesAllSo 220 = .ok (.iconst 1, 1) := by decide +kernel
theorem dX7_makesAllSo_221 : decode cX7_makesAllSo 221 = .ok (.ireturn, 1) := by decide +kernel
theorem dX7_isWithin_0 : decode cX7_isWithin 0 = .ok (.iload_n 0, 1) := by decide +kernel
theorem dX7_isWithin_1 : decode cX7_isWithin 1 = .ok (.iload_n 1, 1) := by decide +kernel
theorem dX7_isWithin_2 : decode cX7_isWithin 2 = .ok (.if_icmp .lt 12, 3) := by decide +kernel
theorem dX7_isWithin_5 : decode cX7_isWithin 5 = .ok (.iload_n 0, 1) := by decide +kernel
theorem dX7_isWithin_6 : decode cX7_isWithin 6 = .ok (.iload_n 2, 1) := by decide +kernel
theorem dX7_isWithin_7 : decode cX7_isWithin 7 = .ok (.if_icmp .gt 7, 3) := by decide +kernel
theorem dX7_isWithin_10 : decode cX7_isWithin 10 = .ok (.iconst 1, 1) := by decide +kernel
theorem dX7_isWithin_11 : decode cX7_isWithin 11 = .ok (.goto 4, 3) := by decide +kernel
theorem dX7_isWithin_14 : decode cX7_isWithin 14 = .ok (.iconst 0, 1) := by decide +kernel
theorem dX7_isWithin_15 : decode cX7_isWithin 15 = .ok (.ireturn, 1) := by decide +kernel
set_option maxRecDepth 20000 in
theorem ggX7_isFact_X7_isWithin : GoodIn wsX7_isFact wsX7_isWithin := goodIn_r _ [4] (by decide +kernel) (by decide +kernel)
set_option maxRecDepth 20000 in
theorem gX7_isFact_X7_isWithin : GoodIn wsX7_isFact (va_wsS RX7 79 yX7_isWithin wsX7_isWithin) := goodIn_app (goodIn_of _ (by decide +kernel)) ggX7_isFact_X7_isWithin
theorem dX7_isFact_0 : decode cX7_isFact 0 = .ok (.iload_n 0, 1) := by decide +kernel
theorem dX7_isFact_1 : decode cX7_isFact 1 = .ok (.iconst 0, 1) := by decide +kernel
theorem dX7_isFact_2 : decode cX7_isFact 2 = .ok (.bipush 6, 2) := by decide +kernel
theorem dX7_isFact_4 : decode cX7_isFact 4 = .ok (.invokestatic 79, 3) := by decide +kernel
theorem dX7_isFact_7 : decode cX7_isFact 7 = .ok (.ireturn, 1) := by decide +kernel
set_option maxRecDepth 20000 in
theorem ggX7_isPast_X7_isWithin : GoodIn wsX7_isPast wsX7_isWithin := goodIn_r _ [4] (by decide +kernel) (by decide +kernel)
set_option maxRecDepth 20000 in
theorem gX7_isPast_X7_isWithin : GoodIn wsX7_isPast (va_wsS RX7 79 yX7_isWithin wsX7_isWithin) := goodIn_app (goodIn_of _ (by decide +kernel)) ggX7_isPast_X7_isWithin
theorem dX7_isPast_0 : decode cX7_isPast 0 = .ok (.iload_n 0, 1) := by decide +kernel
theorem dX7_isPast_1 : decode cX7_isPast 1 = .ok (.iconst 0, 1) := by decide +kernel
theorem dX7_isPast_2 : decode cX7_isPast 2 = .ok (.bipush 127, 2) := by decide +kernel
theorem dX7_isPast_4 : decode cX7_isPast 4 = .ok (.invokestatic 79, 3) := by decide +kernel
theorem dX7_isPast_7 : decode cX7_isPast 7 = .ok (.ireturn, 1) := by decide +kernel
set_option maxRecDepth 20000 in
theorem ggX7_isFind_X7_isFact : GoodIn wsX7_isFind wsX7_isFact := goodIn_r _ [4, 5, 6, 3, 7] (by decide +kernel) (by decide +kernel)
set_option maxRecDepth 20000 in
theorem gX7_isFind_X7_isFact : GoodIn wsX7_isFind (va_wsS RX7 83 yX7_isFact wsX7_isFact) := goodIn_app (goodIn_of _ (by decide +kernel)) ggX7_isFind_X7_isFact
set_option maxRecDepth 20000 in
theorem ggX7_isFind_X7_isWithin : GoodIn wsX7_isFind wsX7_isWithin := goodIn_r _ [7] (by decide +kernel) (by decide +kernel)
set_option maxRecDepth 20000 in
theorem gX7_isFind_X7_isWithin : GoodIn wsX7_isFind (va_wsS RX7 79 yX7_isWithin wsX7_isWithin) := goodIn_app (goodIn_of _ (by decide +kernel)) ggX7_isFind_X7_isWithin
theorem dX7_isFind_0 : decode cX7_isFind 0 = .ok (.iload_n 0, 1) := by decide +kernel
theorem dX7_isFind_1 : decode cX7_isFind 1 = .ok (.invokestatic 83, 3) := by decide +kernel
theorem dX7_isFind_4 : decode cX7_isFind 4 = .ok (.ifCond .eq 26, 3) := by decide +kernel
theorem dX7_isFind_7 : decode cX7_isFind 7 = .ok (.iload_n 1, 1) := by decide +kernel
theorem dX7_isFind_8 : decode cX7_isFind 8 = .ok (.iconst 0, 1) := by decide +kernel
theorem dX7_isFind_9 : decode cX7_isFind 9 = .ok (.iconst 1, 1) := by decide +kernel
theorem dX7_isFind_10 : decode cX7_isFind 10 = .ok (.invokestatic 79, 3) := by decide +kernel
theorem dX7_isFind_13 : decode cX7_isFind 13 = .ok (.ifCond .eq 17, 3) := by decide +kernel
theorem dX7_isFind_16 : decode cX7_isFind 16 = .ok (.iload_n 2, 1) := by decide +kernel
theorem dX7_isFind_17 : decode cX7_isFind 17 = .ok (.iconst 0, 1) := by decide +kernel
theorem dX7_isFind_18 : decode cX7_isFind 18 = .ok (.bipush 10, 2) := by decide +kernel
theorem dX7_isFind_20 : decode cX7_isFind 20 = .ok (.invokestatic 79, 3) := by decide +kernel
theorem dX7_isFind_23 : decode cX7_isFind 23 = .ok (.ifCond .eq 7, 3) := by decide +kernel
theorem dX7_isFind_26 : decode cX7_isFind 26 = .ok (.iconst 1, 1) := by decide +kernel
theorem dX7_isFind_27 : decode cX7_isFind 27 = .ok (.goto 4, 3) := by decide +kernel
theorem dX7_isFind_30 : decode cX7_isFind 30 = .ok (.iconst 0, 1) := by decide +kernel
theorem dX7_isFind_31 : decode cX7_isFind 31 = .ok (.ireturn, 1) := by decide +kernel
set_option maxRecDepth 20000 in
theorem ggX7_isClaim_X7_isWithin : GoodIn wsX7_isClaim wsX7_isWithin := goodIn_r _ [4] (by decide +kernel) (by decide +kernel)
set_option maxRecDepth 20000 in
theorem gX7_isClaim_X7_isWithin : GoodIn wsX7_isClaim (va_wsS RX7 79 yX7_isWithin wsX7_isWithin) := goodIn_app (goodIn_of _ (by decide +kernel)) ggX7_isClaim_X7_isWithin
set_option maxRecDepth 20000 in
theorem ggX7_isClaim_X7_isFact : GoodIn wsX7_isClaim wsX7_isFact := goodIn_r _ [7, 1, 2, 3, 4] (by decide +kernel) (by decide +kernel)
set_option maxRecDepth 20000 in
theorem gX7_isClaim_X7_isFact : GoodIn wsX7_isClaim (va_wsS RX7 83 yX7_isFact wsX7_isFact) := goodIn_app (goodIn_of _ (by decide +kernel)) ggX7_isClaim_X7_isFact
theorem dX7_isClaim_0 : decode cX7_isClaim 0 = .ok (.iload_n 0, 1) := by decide +kernel
theorem dX7_isClaim_1 : decode cX7_isClaim 1 = .ok (.iconst 0, 1) := by decide +kernel
theorem dX7_isClaim_2 : decode cX7_isClaim 2 = .ok (.iconst 5, 1) := by decide +kernel
theorem dX7_isClaim_3 : decode cX7_isClaim 3 = .ok (.invokestatic 79, 3) := by decide +kernel
theorem dX7_isClaim_6 : decode cX7_isClaim 6 = .ok (.ifCond .eq 21, 3) := by decide +kernel
theorem dX7_isClaim_9 : decode cX7_isClaim 9 = .ok (.iload_n 1, 1) := by decide +kernel
theorem dX7_isClaim_10 : decode cX7_isClaim 10 = .ok (.invokestatic 83, 3) := by decide +kernel
theorem dX7_isClaim_13 : decode cX7_isClaim 13 = .ok (.ifCond .eq 14, 3) := by decide +kernel
theorem dX7_isClaim_16 : decode cX7_isClaim 16 = .ok (.iload_n 2, 1) := by decide +kernel
theorem dX7_isClaim_17 : decode cX7_isClaim 17 = .ok (.invokestatic 83, 3) := by decide +kernel
theorem dX7_isClaim_20 : decode cX7_isClaim 20 = .ok (.ifCond .eq 7, 3) := by decide +kernel
theorem dX7_isClaim_23 : decode cX7_isClaim 23 = .ok (.iconst 1, 1) := by decide +kernel
theorem dX7_isClaim_24 : decode cX7_isClaim 24 = .ok (.goto 4, 3) := by decide +kernel
theorem dX7_isClaim_27 : decode cX7_isClaim 27 = .ok (.iconst 0, 1) := by decide +kernel
theorem dX7_isClaim_28 : decode cX7_isClaim 28 = .ok (.ireturn, 1) := by decide +kernel
theorem dX7_wasSo_0 : decode cX7_wasSo 0 = .ok (.iload_n 0, 1) := by decide +kernel
theorem dX7_wasSo_1 : decode cX7_wasSo 1 = .ok (.iload_n 1, 1) := by decide +kernel
theorem dX7_wasSo_2 : decode cX7_wasSo 2 = .ok (.ishr, 1) := by decide +kernel
theorem dX7_wasSo_3 : decode cX7_wasSo 3 = .ok (.iconst 1, 1) := by decide +kernel
theorem dX7_wasSo_4 : decode cX7_wasSo 4 = .ok (.iand, 1) := by decide +kernel
theorem dX7_wasSo_5 : decode cX7_wasSo 5 = .ok (.iconst 1, 1) := by decide +kernel
theorem dX7_wasSo_6 : decode cX7_wasSo 6 = .ok (.if_icmp .ne 7, 3) := by decide +kernel
theorem dX7_wasSo_9 : decode cX7_wasSo 9 = .ok (.iconst 1, 1) := by decide +kernel
theorem dX7_wasSo_10 : decode cX7_wasSo 10 = .ok (.goto 4, 3) := by decide +kernel
theorem dX7_wasSo_13 : decode cX7_wasSo 13 = .ok (.iconst 0, 1) := by decide +kernel
theorem dX7_wasSo_14 : decode cX7_wasSo 14 = .ok (.ireturn, 1) := by decide +kernel
set_option maxRecDepth 20000 in
theorem ggX7_claimHolds_X7_wasSo : GoodIn wsX7_claimHolds wsX7_wasSo := goodIn_r _ [4] (by decide +kernel) (by decide +kernel)
set_option maxRecDepth 20000 in
theorem gX7_claimHolds_X7_wasSo : GoodIn wsX7_claimHolds (va_wsS RX7 297 yX7_wasSo wsX7_wasSo) := goodIn_app (goodIn_of _ (by decide +kernel)) ggX7_claimHolds_X7_wasSo
theorem dX7_claimHolds_0 : decode cX7_claimHolds 0 = .ok (.iload_n 3, 1) := by decide +kernel
theorem dX7_claimHolds_1 : decode cX7_claimHolds 1 = .ok (.iload_n 1, 1) := by decide +kernel
theorem dX7_claimHolds_2 : decode cX7_claimHolds 2 = .ok (.invokestatic 297, 3) := by decide +kernel
theorem dX7_claimHolds_5 : decode cX7_claimHolds 5 = .ok (.istore 4, 2) := by decide +kernel
theorem dX7_claimHolds_7 : decode cX7_claimHolds 7 = .ok (.iload_n 3, 1) := by decide +kernel
theorem dX7_claimHolds_8 : decode cX7_claimHolds 8 = .ok (.iload_n 2, 1) := by decide +kernel
theorem dX7_claimHolds_9 : decode cX7_claimHolds 9 = .ok (.invokestatic 297, 3) := by decide +kernel
theorem dX7_claimHolds_12 : decode cX7_claimHolds 12 = .ok (.istore 5, 2) := by decide +kernel
theorem dX7_claimHolds_14 : decode cX7_claimHolds 14 = .ok (.iload_n 0, 1) := by decide +kernel
theorem dX7_claimHolds_15 : decode cX7_claimHolds 15 = .ok (.tableswitch 95 0 4 #[33, 36, 47, 63, 79], 33) := by decide +kernel
theorem dX7_claimHolds_48 : decode cX7_claimHolds 48 = .ok (.iload 4, 2) := by decide +kernel
theorem dX7_claimHolds_50 : decode cX7_claimHolds 50 = .ok (.ireturn, 1) := by decide +kernel
theorem dX7_claimHolds_51 : decode cX7_claimHolds 51 = .ok (.iload 4, 2) := by decide +kernel
theorem dX7_claimHolds_53 : decode cX7_claimHolds 53 = .ok (.ifCond .ne 7, 3) := by decide +kernel
theorem dX7_claimHolds_56 : decode cX7_claimHolds 56 = .ok (.iconst 1, 1) := by decide +kernel
theorem dX7_claimHolds_57 : decode cX7_claimHolds 57 = .ok (.goto 4, 3) := by decide +kernel
theorem dX7_claimHolds_60 : decode cX7_claimHolds 60 = .ok (.iconst 0, 1) := by decide +kernel
theorem dX7_claimHolds_61 : decode cX7_claimHolds 61 = .ok (.ireturn, 1) := by decide +kernel
theorem dX7_claimHolds_62 : decode cX7_claimHolds 62 = .ok (.iload 4, 2) := by decide +kernel
theorem dX7_claimHolds_64 : decode cX7_claimHolds 64 = .ok (.ifCond .eq 12, 3) := by decide +kernel
theorem dX7_claimHolds_67 : decode cX7_claimHolds 67 = .ok (.iload 5, 2) := by decide +kernel
theorem dX7_claimHolds_69 : decode cX7_claimHolds 69 = .ok (.ifCond .eq 7, 3) := by decide +kernel
theorem dX7_claimHolds_72 : decode cX7_claimHolds 72 = .ok (.iconst 1, 1) := by decide +kernel
theorem dX7_claimHolds_73 : decode cX7_claimHolds 73 = .ok (.goto 4, 3) := by decide +kernel
theorem dX7_claimHolds_76 : decode cX7_claimHolds 76 = .ok (.iconst 0, 1) := by decide +kernel
theorem dX7_claimHolds_77 : decode cX7_claimHolds 77 = .ok (.ireturn, 1) := by decide +kernel
theorem dX7_claimHolds_78 : decode cX7_claimHolds 78 = .ok (.iload 4, 2) := by decide +kernel
theorem dX7_claimHolds_80 : decode cX7_claimHolds 80 = .ok (.ifCond .ne 8, 3) := by decide +kernel
theorem dX7_claimHolds_83 : decode cX7_claimHolds 83 = .ok (.iload 5, 2) := by decide +kernel
theorem dX7_claimHolds_85 : decode cX7_claimHolds 85 = .ok (.ifCond .eq 7, 3) := by decide +kernel
theorem dX7_claimHolds_88 : decode cX7_claimHolds 88 = .ok (.iconst 1, 1) := by decide +kernel
theorem dX7_claimHolds_89 : decode cX7_claimHolds 89 = .ok (.goto 4, 3) := by decide +kernel
theorem dX7_claimHolds_92 : decode cX7_claimHolds 92 = .ok (.iconst 0, 1) := by decide +kernel
theorem dX7_claimHolds_93 : decode cX7_claimHolds 93 = .ok (.ireturn, 1) := by decide +kernel
theorem dX7_claimHolds_94 : decode cX7_claimHolds 94 = .ok (.iload 4, 2) := by decide +kernel
theorem dX7_claimHolds_96 : decode cX7_claimHolds 96 = .ok (.ifCond .ne 12, 3) := by decide +kernel
theorem dX7_claimHolds_99 : decode cX7_claimHolds 99 = .ok (.iload 5, 2) := by decide +kernel
theorem dX7_claimHolds_101 : decode cX7_claimHolds 101 = .ok (.ifCond .ne 7, 3) := by decide +kernel
theorem dX7_claimHolds_104 : decode cX7_claimHolds 104 = .ok (.iconst 1, 1) := by decide +kernel
theorem dX7_claimHolds_105 : decode cX7_claimHolds 105 = .ok (.goto 4, 3) := by decide +kernel
theorem dX7_claimHolds_108 : decode cX7_claimHolds 108 = .ok (.iconst 0, 1) := by decide +kernel
theorem dX7_claimHolds_109 : decode cX7_claimHolds 109 = .ok (.ireturn, 1) := by decide +kernel
theorem dX7_claimHolds_110 : decode cX7_claimHolds 110 = .ok (.iload 4, 2) := by decide +kernel
theorem dX7_claimHolds_112 : decode cX7_claimHolds 112 = .ok (.ifCond .eq 12, 3) := by decide +kernel
theorem dX7_claimHolds_115 : decode cX7_claimHolds 115 = .ok (.iload 5, 2) := by decide +kernel
theorem dX7_claimHolds_117 : decode cX7_claimHolds 117 = .ok (.ifCond .ne 7, 3) := by decide +kernel
theorem dX7_claimHolds_120 : decode cX7_claimHolds 120 = .ok (.iconst 1, 1) := by decide +kernel
theorem dX7_claimHolds_121 : decode cX7_claimHolds 121 = .ok (.goto 4, 3) := by decide +kernel
theorem dX7_claimHolds_124 : decode cX7_claimHolds 124 = .ok (.iconst 0, 1) := by decide +kernel
theorem dX7_claimHolds_125 : decode cX7_claimHolds 125 = .ok (.ireturn, 1) := by decide +kernel
theorem dX7_lawKept_0 : decode cX7_lawKept 0 = .ok (.iload_n 0, 1) := by decide +kernel
theorem dX7_lawKept_1 : decode cX7_lawKept 1 = .ok (.tableswitch 69 0 2 #[27, 41, 55], 27) := by decide +kernel
theorem dX7_lawKept_28 : decode cX7_lawKept 28 = .ok (.iload_n 1, 1) := by decide +kernel
theorem dX7_lawKept_29 : decode cX7_lawKept 29 = .ok (.ifCond .eq 7, 3) := by decide +kernel
theorem dX7_lawKept_32 : decode cX7_lawKept 32 = .ok (.iload_n 2, 1) := by decide +kernel
theorem dX7_lawKept_33 : decode cX7_lawKept 33 = .ok (.ifCond .eq 7, 3) := by decide +kernel
theorem dX7_lawKept_36 : decode cX7_lawKept 36 = .ok (.iconst 1, 1) := by decide +kernel
theorem dX7_lawKept_37 : decode cX7_lawKept 37 = .ok (.goto 4, 3) := by decide +kernel
theorem dX7_lawKept_40 : decode cX7_lawKept 40 = .ok (.iconst 0, 1) := by decide +kernel
theorem dX7_lawKept_41 : decode cX7_lawKept 41 = .ok (.ireturn, 1) := by decide +kernel
theorem dX7_lawKept_42 : decode cX7_lawKept 42 = .ok (.iload_n 1, 1) := by decide +kernel
theorem dX7_lawKept_43 : decode cX7_lawKept 43 = .ok (.ifCond .eq 7, 3) := by decide +kernel
theorem dX7_lawKept_46 : decode cX7_lawKept 46 = .ok (.iload_n 2, 1) := by decide +kernel
theorem dX7_lawKept_47 : decode cX7_lawKept 47 = .ok (.ifCond .ne 7, 3) := by decide +kernel
theorem dX7_lawKept_50 : decode cX7_lawKept 50 = .ok (.iconst 1, 1) := by decide +kernel
theorem dX7_lawKept_51 : decode cX7_lawKept 51 = .ok (.goto 4, 3) := by decide +kernel
theorem dX7_lawKept_54 : decode cX7_lawKept 54 = .ok (.iconst 0, 1) := by decide +kernel
theorem dX7_lawKept_55 : decode cX7_lawKept 55 = .ok (.ireturn, 1) := by decide +kernel
theorem dX7_lawKept_56 : decode cX7_lawKept 56 = .ok (.iload_n 1, 1) := by decide +kernel
theorem dX7_lawKept_57 : decode cX7_lawKept 57 = .ok (.ifCond .ne 7, 3) := by decide +kernel
theorem dX7_lawKept_60 : decode cX7_lawKept 60 = .ok (.iload_n 2, 1) := by decide +kernel
theorem dX7_lawKept_61 : decode cX7_lawKept 61 = .ok (.ifCond .eq 7, 3) := by decide +kernel
theorem dX7_lawKept_64 : decode cX7_lawKept 64 = .ok (.iconst 1, 1) := by decide +kernel
theorem dX7_lawKept_65 : decode cX7_lawKept 65 = .ok (.goto 4, 3) := by decide +kernel
theorem dX7_lawKept_68 : decode cX7_lawKept 68 = .ok (.iconst 0, 1) := by decide +kernel
theorem dX7_lawKept_69 : decode cX7_lawKept 69 = .ok (.ireturn, 1) := by decide +kernel
theorem dX7_lawKept_70 : decode cX7_lawKept 70 = .ok (.iload_n 1, 1) := by decide +kernel
theorem dX7_lawKept_71 : decode cX7_lawKept 71 = .ok (.iload_n 2, 1) := by decide +kernel
theorem dX7_lawKept_72 : decode cX7_lawKept 72 = .ok (.if_icmp .ne 7, 3) := by decide +kernel
theorem dX7_lawKept_75 : decode cX7_lawKept 75 = .ok (.iconst 1, 1) := by decide +kernel
theorem dX7_lawKept_76 : decode cX7_lawKept 76 = .ok (.goto 4, 3) := by decide +kernel
theorem dX7_lawKept_79 : decode cX7_lawKept 79 = .ok (.iconst 0, 1) := by decide +kernel
theorem dX7_lawKept_80 : decode cX7_lawKept 80 = .ok (.ireturn, 1) := by decide +kernel
set_option maxRecDepth 20000 in
theorem ggX7_shareOfTen_X7_wasSo : GoodIn wsX7_shareOfTen wsX7_wasSo := goodIn_r _ [4] (by decide +kernel) (by decide +kernel)
set_option maxRecDepth 20000 in
theorem gX7_shareOfTen_X7_wasSo : GoodIn wsX7_shareOfTen (va_wsS RX7 297 yX7_wasSo wsX7_wasSo) := goodIn_app (goodIn_of _ (by decide +kernel)) ggX7_shareOfTen_X7_wasSo
theorem dX7_shareOfTen_0 : decode cX7_shareOfTen 0 = .ok (.iload_n 0, 1) := by decide +kernel
theorem dX7_shareOfTen_1 : decode cX7_shareOfTen 1 = .ok (.iload_n 1, 1) := by decide +kernel
theorem dX7_shareOfTen_2 : decode cX7_shareOfTen 2 = .ok (.invokestatic 297, 3) := by decide +kernel
theorem dX7_shareOfTen_5 : decode cX7_shareOfTen 5 = .ok (.iload_n 2, 1) := by decide +kernel
theorem dX7_shareOfTen_6 : decode cX7_shareOfTen 6 = .ok (.iconst 1, 1) := by decide +kernel
theorem dX7_shareOfTen_7 : decode cX7_shareOfTen 7 = .ok (.if_icmp .ne 7, 3) := by decide +kernel
theorem dX7_shareOfTen_10 : decode cX7_shareOfTen 10 = .ok (.iconst 1, 1) := by decide +kernel
theorem dX7_shareOfTen_11 : decode cX7_shareOfTen 11 = .ok (.goto 4, 3) := by decide +kernel
theorem dX7_shareOfTen_14 : decode cX7_shareOfTen 14 = .ok (.iconst 0, 1) := by decide +kernel
theorem dX7_shareOfTen_15 : decode cX7_shareOfTen 15 = .ok (.if_icmp .ne 7, 3) := by decide +kernel
theorem dX7_shareOfTen_18 : decode cX7_shareOfTen 18 = .ok (.iload_n 3, 1) := by decide +kernel
theorem dX7_shareOfTen_19 : decode cX7_shareOfTen 19 = .ok (.goto 7, 3) := by decide +kernel
theorem dX7_shareOfTen_22 : decode cX7_shareOfTen 22 = .ok (.bipush 10, 2) := by decide +kernel
theorem dX7_shareOfTen_24 : decode cX7_shareOfTen 24 = .ok (.iload_n 3, 1) := by decide +kernel
theorem dX7_shareOfTen_25 : decode cX7_shareOfTen 25 = .ok (.isub, 1) := by decide +kernel
theorem dX7_shareOfTen_26 : decode cX7_shareOfTen 26 = .ok (.ireturn, 1) := by decide +kernel
set_option maxRecDepth 20000 in
theorem ggX7_gainIn_X6_cell : GoodIn wsX7_gainIn wsX6_cell := goodIn_r _ [5, 6, 7, 8, 19, 20, 21, 22] (by decide +kernel) (by decide +kernel)
set_option maxRecDepth 20000 in
theorem gX7_gainIn_X6_cell : GoodIn wsX7_gainIn (wsV RX7 157 RX6 yX6_cell wsX6_cell) := goodIn_app (goodIn_of _ (by decide +kernel)) ggX7_gainIn_X6_cell
set_option maxRecDepth 20000 in
theorem ggX7_gainIn_X7_betHolds : GoodIn wsX7_gainIn wsX7_betHolds := goodIn_r _ [12, 1, 2, 3, 4, 5, 6, 7, 8, 13, 14, 11, 15, 16, 17, 18, 19, 20, 21, 22] (by decide +kernel) (by decide +kernel)
set_option maxRecDepth 20000 in
theorem gX7_gainIn_X7_betHolds : GoodIn wsX7_gainIn (va_wsS RX7 301 yX7_betHolds wsX7_betHolds) := goodIn_app (goodIn_of _ (by decide +kernel)) ggX7_gainIn_X7_betHolds
theorem dX7_gainIn_0 : decode cX7_gainIn 0 = .ok (.aload_n 0, 1) := by decide +kernel
theorem dX7_gainIn_1 : decode cX7_gainIn 1 = .ok (.iload_n 1, 1) := by decide +kernel
theorem dX7_gainIn_2 : decode cX7_gainIn 2 = .ok (.iconst 3, 1) := by decide +kernel
theorem dX7_gainIn_3 : decode cX7_gainIn 3 = .ok (.invokevirtual 157, 3) := by decide +kernel
theorem dX7_gainIn_6 : decode cX7_gainIn 6 = .ok (.istore_n 3, 1) := by decide +kernel
theorem dX7_gainIn_7 : decode cX7_gainIn 7 = .ok (.aload_n 0, 1) := by decide +kernel
theorem dX7_gainIn_8 : decode cX7_gainIn 8 = .ok (.iload_n 1, 1) := by decide +kernel
theorem dX7_gainIn_9 : decode cX7_gainIn 9 = .ok (.iload_n 2, 1) := by decide +kernel
theorem dX7_gainIn_10 : decode cX7_gainIn 10 = .ok (.invokestatic 301, 3) := by decide +kernel
theorem dX7_gainIn_13 : decode cX7_gainIn 13 = .ok (.ifCond .eq 14, 3) := by decide +kernel
theorem dX7_gainIn_16 : decode cX7_gainIn 16 = .ok (.iload_n 3, 1) := by decide +kernel
theorem dX7_gainIn_17 : decode cX7_gainIn 17 = .ok (.aload_n 0, 1) := by decide +kernel
theorem dX7_gainIn_18 : decode cX7_gainIn 18 = .ok (.iload_n 1, 1) := by decide +kernel
theorem dX7_gainIn_19 : decode cX7_gainIn 19 = .ok (.iconst 4, 1) := by decide +kernel
theorem dX7_gainIn_20 : decode cX7_gainIn 20 = .ok (.invokevirtual 157, 3) := by decide +kernel
theorem dX7_gainIn_23 : decode cX7_gainIn 23 = .ok (.imul, 1) := by decide +kernel
theorem dX7_gainIn_24 : decode cX7_gainIn 24 = .ok (.goto 5, 3) := by decide +kernel
theorem dX7_gainIn_27 : decode cX7_gainIn 27 = .ok (.iload_n 3, 1) := by decide +kernel
theorem dX7_gainIn_28 : decode cX7_gainIn 28 = .ok (.ineg, 1) := by decide +kernel
theorem dX7_gainIn_29 : decode cX7_gainIn 29 = .ok (.ireturn, 1) := by decide +kernel
set_option maxRecDepth 20000 in
theorem ggX7_betHolds_X6_cell : GoodIn wsX7_betHolds wsX6_cell := goodIn_r _ [5, 6, 7, 8, 16, 17, 18, 19] (by decide +kernel) (by decide +kernel)
set_option maxRecDepth 20000 in
theorem gX7_betHolds_X6_cell : GoodIn wsX7_betHolds (wsV RX7 157 RX6 yX6_cell wsX6_cell) := goodIn_app (goodIn_of _ (by decide +kernel)) ggX7_betHolds_X6_cell
set_option maxRecDepth 20000 in
theorem ggX7_betHolds_X7_claimHolds : GoodIn wsX7_betHolds wsX7_claimHolds := goodIn_r _ [12, 13, 14, 11, 15] (by decide +kernel) (by decide +kernel)
set_option maxRecDepth 20000 in
theorem gX7_betHolds_X7_claimHolds : GoodIn wsX7_betHolds (va_wsS RX7 181 yX7_claimHolds wsX7_claimHolds) := goodIn_app (goodIn_of _ (by decide +kernel)) ggX7_betHolds_X7_claimHolds
theorem dX7_betHolds_0 : decode cX7_betHolds 0 = .ok (.aload_n 0, 1) := by decide +kernel
theorem dX7_betHolds_1 : decode cX7_betHolds 1 = .ok (.iload_n 1, 1) := by decide +kernel
theorem dX7_betHolds_2 : decode cX7_betHolds 2 = .ok (.iconst 0, 1) := by decide +kernel
theorem dX7_betHolds_3 : decode cX7_betHolds 3 = .ok (.invokevirtual 157, 3) := by decide +kernel
theorem dX7_betHolds_6 : decode cX7_betHolds 6 = .ok (.aload_n 0, 1) := by decide +kernel
theorem dX7_betHolds_7 : decode cX7_betHolds 7 = .ok (.iload_n 1, 1) := by decide +kernel
theorem dX7_betHolds_8 : decode cX7_betHolds 8 = .ok (.iconst 1, 1) := by decide +kernel
theorem dX7_betHolds_9 : decode cX7_betHolds 9 = .ok (.invokevirtual 157, 3) := by decide +kernel
theorem dX7_betHolds_12 : decode cX7_betHolds 12 = .ok (.aload_n 0, 1) := by decide +kernel
theorem dX7_betHolds_13 : decode cX7_betHolds 13 = .ok (.iload_n 1, 1) := by decide +kernel
theorem dX7_betHolds_14 : decode cX7_betHolds 14 = .ok (.iconst 2, 1) := by decide +kernel
theorem dX7_betHolds_15 : decode cX7_betHolds 15 = .ok (.invokevirtual 157, 3) := by decide +kernel
theorem dX7_betHolds_18 : decode cX7_betHolds 18 = .ok (.iload_n 2, 1) := by decide +kernel
theorem dX7_betHolds_19 : decode cX7_betHolds 19 = .ok (.invokestatic 181, 3) := by decide +kernel
theorem dX7_betHolds_22 : decode cX7_betHolds 22 = .ok (.ireturn, 1) := by decide +kernel
set_option maxRecDepth 20000 in
theorem ggX7_bookIn_X7_gainIn : GoodIn wsX7_bookIn wsX7_gainIn := goodIn_r _ [5, 6, 7, 8, 9, 10, 11, 12, 13, 14, 15, 4, 16, 17, 18, 19, 20, 21, 22, 23, 24, 25, 26] (by decide +kernel) (by decide +kernel)
set_option maxRecDepth 20000 in
theorem gX7_bookIn_X7_gainIn : GoodIn wsX7_bookIn (va_wsS RX7 305 yX7_gainIn wsX7_gainIn) := goodIn_app (goodIn_of _ (by decide +kernel)) ggX7_bookIn_X7_gainIn
theorem dX7_bookIn_0 : decode cX7_bookIn 0 = .ok (.iconst 0, 1) := by decide +kernel
theorem dX7_bookIn_1 : decode cX7_bookIn 1 = .ok (.istore_n 2, 1) := by decide +kernel
theorem dX7_bookIn_2 : decode cX7_bookIn 2 = .ok (.iconst 0, 1) := by decide +kernel
theorem dX7_bookIn_3 : decode cX7_bookIn 3 = .ok (.istore_n 3, 1) := by decide +kernel
theorem dX7_bookIn_4 : decode cX7_bookIn 4 = .ok (.iload_n 3, 1) := by decide +kernel
theorem dX7_bookIn_5 : decode cX7_bookIn 5 = .ok (.aload_n 0, 1) := by decide +kernel
theorem dX7_bookIn_6 : decode cX7_bookIn 6 = .ok (.getfield 66, 3) := by decide +kernel
theorem dX7_bookIn_9 : decode cX7_bookIn 9 = .ok (.if_icmp .ge 18, 3) := by decide +kernel
theorem dX7_bookIn_12 : decode cX7_bookIn 12 = .ok (.iload_n 2, 1) := by decide +kernel
theorem dX7_bookIn_13 : decode cX7_bookIn 13 = .ok (.aload_n 0, 1) := by decide +kernel
theorem dX7_bookIn_14 : decode cX7_bookIn 14 = .ok (.iload_n 3, 1) := by decide +kernel
theorem dX7_bookIn_15 : decode cX7_bookIn 15 = .ok (.iload_n 1, 1) := by decide +kernel
theorem dX7_bookIn_16 : decode cX7_bookIn 16 = .ok (.invokestatic 305, 3) := by decide +kernel
theorem dX7_bookIn_19 : decode cX7_bookIn 19 = .ok (.isub, 1) := by decide +kernel
theorem dX7_bookIn_20 : decode cX7_bookIn 20 = .ok (.istore_n 2, 1) := by decide +kernel
theorem dX7_bookIn_21 : decode cX7_bookIn 21 = .ok (.iinc 3 1, 3) := by decide +kernel
theorem dX7_bookIn_24 : decode cX7_bookIn 24 = .ok (.goto (-20), 3) := by decide +kernel
theorem dX7_bookIn_27 : decode cX7_bookIn 27 = .ok (.iload_n 2, 1) := by decide +kernel
theorem dX7_bookIn_28 : decode cX7_bookIn 28 = .ok (.ireturn, 1) := by decide +kernel
set_option maxRecDepth 20000 in
theorem ggX8_init_X8_begins : GoodIn wsX8_init wsX8_begins := goodIn_r _ [18, 5, 19, 20, 21, 22, 23, 24, 25, 26, 27, 28, 29, 30, 31, 32, 33, 34, 35, 36] (by decide +kernel) (by decide +kernel)
set_option maxRecDepth 20000 in
theorem gX8_init_X8_begins : GoodIn wsX8_init (wsV RX8 34 RX8 yX8_begins wsX8_begins) := goodIn_app (goodIn_of _ (by decide +kernel)) ggX8_init_X8_begins
theorem dX8_init_0 : decode cX8_init 0 = .ok (.aload_n 0, 1) := by decide +kernel
theorem dX8_init_1 : decode cX8_init 1 = .ok (.invokespecial 1, 3) := by decide +kernel
theorem dX8_init_4 : decode cX8_init 4 = .ok (.aload_n 0, 1) := by decide +kernel
theorem dX8_init_5 : decode cX8_init 5 = .ok (.sipush 1508, 3) := by decide +kernel
theorem dX8_init_8 : decode cX8_init 8 = .ok (.newarray .int, 2) := by decide +kernel
theorem dX8_init_10 : decode cX8_init 10 = .ok (.putfield 7, 3) := by decide +kernel
theorem dX8_init_13 : decode cX8_init 13 = .ok (.aload_n 0, 1) := by decide +kernel
theorem dX8_init_14 : decode cX8_init 14 = .ok (.iconst 2, 1) := by decide +kernel
theorem dX8_init_15 : decode cX8_init 15 = .ok (.newarray .boolean, 2) := by decide +kernel
theorem dX8_init_17 : decode cX8_init 17 = .ok (.putfield 13, 3) := by decide +kernel
theorem dX8_init_20 : decode cX8_init 20 = .ok (.aload_n 0, 1) := by decide +kernel
theorem dX8_init_21 : decode cX8_init 21 = .ok (.sipush 150, 3) := by decide +kernel
theorem dX8_init_24 : decode cX8_init 24 = .ok (.newarray .int, 2) := by decide +kernel
theorem dX8_init_26 : decode cX8_init 26 = .ok (.putfield 17, 3) := by decide +kernel
theorem dX8_init_29 : decode cX8_init 29 = .ok (.aload_n 0, 1) := by decide +kernel
theorem dX8_init_30 : decode cX8_init 30 = .ok (.iconst 3, 1) := by decide +kernel
theorem dX8_init_31 : decode cX8_init 31 = .ok (.newarray .int, 2) := by decide +kernel
theorem dX8_init_33 : decode cX8_init 33 = .ok (.putfield 20, 3) := by decide +kernel
theorem dX8_init_36 : decode cX8_init 36 = .ok (.aload_n 0, 1) := by decide +kernel
theorem dX8_init_37 : decode cX8_init 37 = .ok (.lconst 1, 1) := by decide +kernel
theorem dX8_init_38 : decode cX8_init 38 = .ok (.putfield 23, 3) := by decide +kernel
theorem dX8_init_41 : decode cX8_init 41 = .ok (.aload_n 0, 1) := by decide +kernel
theorem dX8_init_42 : decode cX8_init 42 = .ok (.iconst 5, 1) := by decide +kernel
theorem dX8_init_43 : decode cX8_init 43 = .ok (.newarray .int, 2) := by decide +kernel
theorem dX8_init_45 : decode cX8_init 45 = .ok (.putfield 27, 3) := by decide +kernel
theorem dX8_init_48 : decode cX8_init 48 = .ok (.aload_n 0, 1) := by decide +kernel
theorem dX8_init_49 : decode cX8_init 49 = .ok (.sipush 128, 3) := by decide +kernel
theorem dX8_init_52 : decode cX8_init 52 = .ok (.newarray .long, 2) := by decide +kernel
theorem dX8_init_54 : decode cX8_init 54 = .ok (.putfield 30, 3) := by decide +kernel
theorem dX8_init_57 : decode cX8_init 57 = .ok (.aload_n 0, 1) := by decide +kernel
theorem dX8_init_58 : decode cX8_init 58 = .ok (.iconst 0, 1) := by decide +kernel
theorem dX8_init_59 : decode cX8_init 59 = .ok (.invokevirtual 34, 3) := by decide +kernel
theorem dX8_init_62 : decode cX8_init 62 = .ok (.return_, 1) := by decide +kernel
theorem dX8_in_0 : decode cX8_in 0 = .ok (.lload_n 0, 1) := by decide +kernel
theorem dX8_in_1 : decode cX8_in 1 = .ok (.lload_n 2, 1) := by decide +kernel
theorem dX8_in_2 : decode cX8_in 2 = .ok (.lcmp, 1) := by decide +kernel
theorem dX8_in_3 : decode cX8_in 3 = .ok (.ifCond .lt 14, 3) := by decide +kernel
theorem dX8_in_6 : decode cX8_in 6 = .ok (.lload_n 0, 1) := by decide +kernel
theorem dX8_in_7 : decode cX8_in 7 = .ok (.lload 4, 2) := by decide +kernel
theorem dX8_in_9 : decode cX8_in 9 = .ok (.lcmp, 1) := by decide +kernel
theorem dX8_in_10 : decode cX8_in 10 = .ok (.ifCond .gt 7, 3) := by decide +kernel
theorem dX8_in_13 : decode cX8_in 13 = .ok (.iconst 1, 1) := by decide +kernel
theorem dX8_in_14 : decode cX8_in 14 = .ok (.goto 4, 3) := by decide +kernel
theorem dX8_in_17 : decode cX8_in 17 = .ok (.iconst 0, 1) := by decide +kernel
theorem dX8_in_18 : decode cX8_in 18 = .ok (.ireturn, 1) := by decide +kernel
theorem dX8_has_0 : decode cX8_has 0 = .ok (.iload_n 0, 1) := by decide +kernel
theorem dX8_has_1 : decode cX8_has 1 = .ok (.iload_n 1, 1) := by decide +kernel
theorem dX8_has_2 : decode cX8_has 2 = .ok (.ishr, 1) := by decide +kernel
theorem dX8_has_3 : decode cX8_has 3 = .ok (.iconst 1, 1) := by decide +kernel
theorem dX8_has_4 : decode cX8_has 4 = .ok (.iand, 1) := by decide +kernel
theorem dX8_has_5 : decode cX8_has 5 = .ok (.iconst 1, 1) := by decide +kernel
theorem dX8_has_6 : decode cX8_has 6 = .ok (.if_icmp .ne 7, 3) := by decide +kernel
theorem dX8_has_9 : decode cX8_has 9 = .ok (.iconst 1, 1) := by decide +kernel
theorem dX8_has_10 : decode cX8_has 10 = .ok (.goto 4, 3) := by decide +kernel
theorem dX8_has_13 : decode cX8_has 13 = .ok (.iconst 0, 1) := by decide +kernel
theorem dX8_has_14 : decode cX8_has 14 = .ok (.ireturn, 1) := by decide +kernel
theorem dX8_ones_0 : decode cX8_ones 0 = .ok (.iconst 0, 1) := by decide +kernel
theorem dX8_ones_1 : decode cX8_ones 1 = .ok (.istore_n 1, 1) := by decide +kernel
theorem dX8_ones_2 : decode cX8_ones 2 = .ok (.iconst 0, 1) := by decide +kernel
theorem dX8_ones_3 : decode cX8_ones 3 = .ok (.istore_n 2, 1) := by decide +kernel
theorem dX8_ones_4 : decode cX8_ones 4 = .ok (.iload_n 2, 1) := by decide +kernel
theorem dX8_ones_5 : decode cX8_ones 5 = .ok (.bipush 10, 2) := by decide +kernel
theorem dX8_ones_7 : decode cX8_ones 7 = .ok (.if_icmp .ge 17, 3) := by decide +kernel
theorem dX8_ones_10 : decode cX8_ones 10 = .ok (.iload_n 1, 1) := by decide +kernel
theorem dX8_ones_11 : decode cX8_ones 11 = .ok (.iload_n 0, 1) := by decide +kernel
theorem dX8_ones_12 : decode cX8_ones 12 = .ok (.iload_n 2, 1) := by decide +kernel
theorem dX8_ones_13 : decode cX8_ones 13 = .ok (.ishr, 1) := by decide +kernel
theorem dX8_ones_14 : decode cX8_ones 14 = .ok (.iconst 1, 1) := by decide +kernel
theorem dX8_ones_15 : decode cX8_ones 15 = .ok (.iand, 1) := by decide +kernel
theorem dX8_ones_16 : decode cX8_ones 16 = .ok (.iadd, 1) := by decide +kernel
theorem dX8_ones_17 : decode cX8_ones 17 = .ok (.istore_n 1, 1) := by decide +kernel
theorem dX8_ones_18 : decode cX8_ones 18 = .ok (.iinc 2 1, 3) := by decide +kernel
theorem dX8_ones_21 : decode cX8_ones 21 = .ok (.goto (-17), 3) := by decide +kernel
theorem dX8_ones_24 : decode cX8_ones 24 = .ok (.iload_n 1, 1) := by decide +kernel
theorem dX8_ones_25 : decode cX8_ones 25 = .ok (.ireturn, 1) := by decide +kernel
theorem dX8_bad_0 : decode cX8_bad 0 = .ok (.aload_n 0, 1) := by decide +kernel
theorem dX8_bad_1 : decode cX8_bad 1 = .ok (.getfield 20, 3) := by decide +kernel
theorem dX8_bad_4 : decode cX8_bad 4 = .ok (.iconst 0, 1) := by decide +kernel
theorem dX8_bad_5 : decode cX8_bad 5 = .ok (.dup2, 1) := by decide +kernel
theorem dX8_bad_6 : decode cX8_bad 6 = .ok (.iaload, 1) := by decide +kernel
theorem dX8_bad_7 : decode cX8_bad 7 = .ok (.iconst 1, 1) := by decide +kernel
theorem dX8_bad_8 : decode cX8_bad 8 = .ok (.iadd, 1) := by decide +kernel
theorem dX8_bad_9 : decode cX8_bad 9 = .ok (.iastore, 1) := by decide +kernel
theorem dX8_bad_10 : decode cX8_bad 10 = .ok (.bipush (-2), 2) := by decide +kernel
theorem dX8_bad_12 : decode cX8_bad 12 = .ok (.ireturn, 1) := by decide +kernel
theorem dX8_badAs_0 : decode cX8_badAs 0 = .ok (.aload_n 0, 1) := by decide +kernel
theorem dX8_badAs_1 : decode cX8_badAs 1 = .ok (.getfield 20, 3) := by decide +kernel
theorem dX8_badAs_4 : decode cX8_badAs 4 = .ok (.iconst 0, 1) := by decide +kernel
theorem dX8_badAs_5 : decode cX8_badAs 5 = .ok (.dup2, 1) := by decide +kernel
theorem dX8_badAs_6 : decode cX8_badAs 6 = .ok (.iaload, 1) := by decide +kernel
theorem dX8_badAs_7 : decode cX8_badAs 7 = .ok (.iconst 1, 1) := by decide +kernel
theorem dX8_badAs_8 : decode cX8_badAs 8 = .ok (.iadd, 1) := by decide +kernel
theorem dX8_badAs_9 : decode cX8_badAs 9 = .ok (.iastore, 1) := by decide +kernel
theorem dX8_badAs_10 : decode cX8_badAs 10 = .ok (.iload_n 1, 1) := by decide +kernel
theorem dX8_badAs_11 : decode cX8_badAs 11 = .ok (.ireturn, 1) := by decide +kernel
theorem dX8_no_0 : decode cX8_no 0 = .ok (.aload_n 0, 1) := by decide +kernel
theorem dX8_no_1 : decode cX8_no 1 = .ok (.getfield 20, 3) := by decide +kernel
theorem dX8_no_4 : decode cX8_no 4 = .ok (.iconst 1, 1) := by decide +kernel
theorem dX8_no_5 : decode cX8_no 5 = .ok (.dup2, 1) := by decide +kernel
theorem dX8_no_6 : decode cX8_no 6 = .ok (.iaload, 1) := by decide +kernel
theorem dX8_no_7 : decode cX8_no 7 = .ok (.iconst 1, 1) := by decide +kernel
theorem dX8_no_8 : decode cX8_no 8 = .ok (.iadd, 1) := by decide +kernel
theorem dX8_no_9 : decode cX8_no 9 = .ok (.iastore, 1) := by decide +kernel
theorem dX8_no_10 : decode cX8_no 10 = .ok (.bipush (-3), 2) := by decide +kernel
theorem dX8_no_12 : decode cX8_no 12 = .ok (.ireturn, 1) := by decide +kernel
theorem dX8_noAs_0 : decode cX8_noAs 0 = .ok (.aload_n 0, 1) := by decide +kernel
theorem dX8_noAs_1 : decode cX8_noAs 1 = .ok (.getfield 20, 3) := by decide +kernel
theorem dX8_noAs_4 : decode cX8_noAs 4 = .ok (.iconst 1, 1) := by decide +kernel
theorem dX8_noAs_5 : decode cX8_noAs 5 = .ok (.dup2, 1) := by decide +kernel
theorem dX8_noAs_6 : decode cX8_noAs 6 = .ok (.iaload, 1) := by decide +kernel
theorem dX8_noAs_7 : decode cX8_noAs 7 = .ok (.iconst 1, 1) := by decide +kernel
theorem dX8_noAs_8 : decode cX8_noAs 8 = .ok (.iadd, 1) := by decide +kernel
theorem dX8_noAs_9 : decode cX8_noAs 9 = .ok (.iastore, 1) := by decide +kernel
theorem dX8_noAs_10 : decode cX8_noAs 10 = .ok (.iload_n 1, 1) := by decide +kernel
theorem dX8_noAs_11 : decode cX8_noAs 11 = .ok (.ireturn, 1) := by decide +kernel
theorem dX8_full_0 : decode cX8_full 0 = .ok (.aload_n 0, 1) := by decide +kernel
theorem dX8_full_1 : decode cX8_full 1 = .ok (.getfield 20, 3) := by decide +kernel
theorem dX8_full_4 : decode cX8_full 4 = .ok (.iconst 2, 1) := by decide +kernel
theorem dX8_full_5 : decode cX8_full 5 = .ok (.dup2, 1) := by decide +kernel
theorem dX8_full_6 : decode cX8_full 6 = .ok (.iaload, 1) := by decide +kernel
theorem dX8_full_7 : decode cX8_full 7 = .ok (.iconst 1, 1) := by decide +kernel
theorem dX8_full_8 : decode cX8_full 8 = .ok (.iadd, 1) := by decide +kernel
theorem dX8_full_9 : decode cX8_full 9 = .ok (.iastore, 1) := by decide +kernel
theorem dX8_full_10 : decode cX8_full 10 = .ok (.bipush (-4), 2) := by decide +kernel
theorem dX8_full_12 : decode cX8_full 12 = .ok (.ireturn, 1) := by decide +kernel
theorem dX8_copy_0 : decode cX8_copy 0 = .ok (.iconst 0, 1) := by decide +kernel
theorem dX8_copy_1 : decode cX8_copy 1 = .ok (.istore_n 3, 1) := by decide +kernel
theorem dX8_copy_2 : decode cX8_copy 2 = .ok (.iload_n 3, 1) := by decide +kernel
theorem dX8_copy_3 : decode cX8_copy 3 = .ok (.sipush 377, 3) := by decide +kernel
theorem dX8_copy_6 : decode cX8_copy 6 = .ok (.if_icmp .ge 25, 3) := by decide +kernel
theorem dX8_copy_9 : decode cX8_copy 9 = .ok (.aload_n 0, 1) := by decide +kernel
theorem dX8_copy_10 : decode cX8_copy 10 = .ok (.getfield 7, 3) := by decide +kernel
theorem dX8_copy_13 : decode cX8_copy 13 = .ok (.iload_n 2, 1) := by decide +kernel
theorem dX8_copy_14 : decode cX8_copy 14 = .ok (.iload_n 3, 1) := by decide +kernel
theorem dX8_copy_15 : decode cX8_copy 15 = .ok (.iadd, 1) := by decide +kernel
theorem dX8_copy_16 : decode cX8_copy 16 = .ok (.aload_n 0, 1) := by decide +kernel
theorem dX8_copy_17 : decode cX8_copy 17 = .ok (.getfield 7, 3) := by decide +kernel
theorem dX8_copy_20 : decode cX8_copy 20 = .ok (.iload_n 1, 1) := by decide +kernel
theorem dX8_copy_21 : decode cX8_copy 21 = .ok (.iload_n 3, 1) := by decide +kernel
theorem dX8_copy_22 : decode cX8_copy 22 = .ok (.iadd, 1) := by decide +kernel
theorem dX8_copy_23 : decode cX8_copy 23 = .ok (.iaload, 1) := by decide +kernel
theorem dX8_copy_24 : decode cX8_copy 24 = .ok (.iastore, 1) := by decide +kernel
theorem dX8_copy_25 : decode cX8_copy 25 = .ok (.iinc 3 1, 3) := by decide +kernel
theorem dX8_copy_28 : decode cX8_copy 28 = .ok (.goto (-26), 3) := by decide +kernel
theorem dX8_copy_31 : decode cX8_copy 31 = .ok (.return_, 1) := by decide +kernel
theorem dX8_begins_0 : decode cX8_begins 0 = .ok (.iconst 0, 1) := by decide +kernel
theorem dX8_begins_1 : decode cX8_begins 1 = .ok (.istore_n 2, 1) := by decide +kernel
theorem dX8_begins_2 : decode cX8_begins 2 = .ok (.iload_n 2, 1) := by decide +kernel
theorem dX8_begins_3 : decode cX8_begins 3 = .ok (.sipush 377, 3) := by decide +kernel
theorem dX8_begins_6 : decode cX8_begins 6 = .ok (.if_icmp .ge 18, 3) := by decide +kernel
theorem dX8_begins_9 : decode cX8_begins 9 = .ok (.aload_n 0, 1) := by decide +kernel
theorem dX8_begins_10 : decode cX8_begins 10 = .ok (.getfield 7, 3) := by decide +kernel
theorem dX8_begins_13 : decode cX8_begins 13 = .ok (.iload_n 1, 1) := by decide +kernel
theorem dX8_begins_14 : decode cX8_begins 14 = .ok (.iload_n 2, 1) := by decide +kernel
theorem dX8_begins_15 : decode cX8_begins 15 = .ok (.iadd, 1) := by decide +kernel
theorem dX8_begins_16 : decode cX8_begins 16 = .ok (.iconst 0, 1) := by decide +kernel
theorem dX8_begins_17 : decode cX8_begins 17 = .ok (.iastore, 1) := by decide +kernel
theorem dX8_begins_18 : decode cX8_begins 18 = .ok (.iinc 2 1, 3) := by decide +kernel
theorem dX8_begins_21 : decode cX8_begins 21 = .ok (.goto (-19), 3) := by decide +kernel
theorem dX8_begins_24 : decode cX8_begins 24 = .ok (.return_, 1) := by decide +kernel
set_option maxRecDepth 20000 in
theorem ggX8_isFact_X8_in : GoodIn wsX8_isFact wsX8_in := goodIn_r _ [5] (by decide +kernel) (by decide +kernel)
set_option maxRecDepth 20000 in
theorem gX8_isFact_X8_in : GoodIn wsX8_isFact (va_wsS RX8 40 yX8_in wsX8_in) := goodIn_app (goodIn_of _ (by decide +kernel)) ggX8_isFact_X8_in
theorem dX8_isFact_0 : decode cX8_isFact 0 = .ok (.iload_n 0, 1) := by decide +kernel
theorem dX8_isFact_1 : decode cX8_isFact 1 = .ok (.i2l, 1) := by decide +kernel
theorem dX8_isFact_2 : decode cX8_isFact 2 = .ok (.lconst 0, 1) := by decide +kernel
theorem dX8_isFact_3 : decode cX8_isFact 3 = .ok (.ldc2_w 38, 3) := by decide +kernel
theorem dX8_isFact_6 : decode cX8_isFact 6 = .ok (.invokestatic 40, 3) := by decide +kernel
theorem dX8_isFact_9 : decode cX8_isFact 9 = .ok (.ireturn, 1) := by decide +kernel
set_option maxRecDepth 20000 in
theorem ggX8_isClaim_X8_in : GoodIn wsX8_isClaim wsX8_in := goodIn_r _ [5] (by decide +kernel) (by decide +kernel)
set_option maxRecDepth 20000 in
theorem gX8_isClaim_X8_in : GoodIn wsX8_isClaim (va_wsS RX8 40 yX8_in wsX8_in) := goodIn_app (goodIn_of _ (by decide +kernel)) ggX8_isClaim_X8_in
set_option maxRecDepth 20000 in
theorem ggX8_isClaim_X8_isFact : GoodIn wsX8_isClaim wsX8_isFact := goodIn_r _ [8, 9, 2, 3, 4, 5] (by decide +kernel) (by decide +kernel)
set_option maxRecDepth 20000 in
theorem gX8_isClaim_X8_isFact : GoodIn wsX8_isClaim (va_wsS RX8 46 yX8_isFact wsX8_isFact) := goodIn_app (goodIn_of _ (by decide +kernel)) ggX8_isClaim_X8_isFact
theorem dX8_isClaim_0 : decode cX8_isClaim 0 = .ok (.iload_n 0, 1) := by decide +kernel
theorem dX8_isClaim_1 : decode cX8_isClaim 1 = .ok (.i2l, 1) := by decide +kernel
theorem dX8_isClaim_2 : decode cX8_isClaim 2 = .ok (.lconst 0, 1) := by decide +kernel
theorem dX8_isClaim_3 : decode cX8_isClaim 3 = .ok (.ldc2_w 44, 3) := by decide +kernel
theorem dX8_isClaim_6 : decode cX8_isClaim 6 = .ok (.invokestatic 40, 3) := by decide +kernel
theorem dX8_isClaim_9 : decode cX8_isClaim 9 = .ok (.ifCond .eq 21, 3) := by decide +kernel
theorem dX8_isClaim_12 : decode cX8_isClaim 12 = .ok (.iload_n 1, 1) := by decide +kernel
theorem dX8_isClaim_13 : decode cX8_isClaim 13 = .ok (.invokestatic 46, 3) := by decide +kernel
theorem dX8_isClaim_16 : decode cX8_isClaim 16 = .ok (.ifCond .eq 14, 3) := by decide +kernel
theorem dX8_isClaim_19 : decode cX8_isClaim 19 = .ok (.iload_n 2, 1) := by decide +kernel
theorem dX8_isClaim_20 : decode cX8_isClaim 20 = .ok (.invokestatic 46, 3) := by decide +kernel
theorem dX8_isClaim_23 : decode cX8_isClaim 23 = .ok (.ifCond .eq 7, 3) := by decide +kernel
theorem dX8_isClaim_26 : decode cX8_isClaim 26 = .ok (.iconst 1, 1) := by decide +kernel
theorem dX8_isClaim_27 : decode cX8_isClaim 27 = .ok (.goto 4, 3) := by decide +kernel
theorem dX8_isClaim_30 : decode cX8_isClaim 30 = .ok (.iconst 0, 1) := by decide +kernel
theorem dX8_isClaim_31 : decode cX8_isClaim 31 = .ok (.ireturn, 1) := by decide +kernel
set_option maxRecDepth 20000 in
theorem ggX8_isPast_X8_in : GoodIn wsX8_isPast wsX8_in := goodIn_r _ [5] (by decide +kernel) (by decide +kernel)
set_option maxRecDepth 20000 in
theorem gX8_isPast_X8_in : GoodIn wsX8_isPast (va_wsS RX8 40 yX8_in wsX8_in) := goodIn_app (goodIn_of _ (by decide +kernel)) ggX8_isPast_X8_in
theorem dX8_isPast_0 : decode cX8_isPast 0 = .ok (.iload_n 0, 1) := by decide +kernel
theorem dX8_isPast_1 : decode cX8_isPast 1 = .ok (.i2l, 1) := by decide +kernel
theorem dX8_isPast_2 : decode cX8_isPast 2 = .ok (.lconst 0, 1) := by decide +kernel
theorem dX8_isPast_3 : decode cX8_isPast 3 = .ok (.ldc2_w 50, 3) := by decide +kernel
theorem dX8_isPast_6 : decode cX8_isPast 6 = .ok (.invokestatic 40, 3) := by decide +kernel
theorem dX8_isPast_9 : decode cX8_isPast 9 = .ok (.ireturn, 1) := by decide +kernel
set_option maxRecDepth 20000 in
theorem ggX8_isBet_X8_in : GoodIn wsX8_isBet wsX8_in := goodIn_r _ [5] (by decide +kernel) (by decide +kernel)
set_option maxRecDepth 20000 in
theorem gX8_isBet_X8_in : GoodIn wsX8_isBet (va_wsS RX8 40 yX8_in wsX8_in) := goodIn_app (goodIn_of _ (by decide +kernel)) ggX8_isBet_X8_in
theorem dX8_isBet_0 : decode cX8_isBet 0 = .ok (.iload_n 1, 1) := by decide +kernel
theorem dX8_isBet_1 : decode cX8_isBet 1 = .ok (.i2l, 1) := by decide +kernel
theorem dX8_isBet_2 : decode cX8_isBet 2 = .ok (.lconst 0, 1) := by decide +kernel
theorem dX8_isBet_3 : decode cX8_isBet 3 = .ok (.aload_n 0, 1) := by decide +kernel
theorem dX8_isBet_4 : decode cX8_isBet 4 = .ok (.getfield 7, 3) := by decide +kernel
theorem dX8_isBet_7 : decode cX8_isBet 7 = .ok (.iconst 2, 1) := by decide +kernel
theorem dX8_isBet_8 : decode cX8_isBet 8 = .ok (.iaload, 1) := by decide +kernel
theorem dX8_isBet_9 : decode cX8_isBet 9 = .ok (.iconst 1, 1) := by decide +kernel
theorem dX8_isBet_10 : decode cX8_isBet 10 = .ok (.isub, 1) := by decide +kernel
theorem dX8_isBet_11 : decode cX8_isBet 11 = .ok (.i2l, 1) := by decide +kernel
theorem dX8_isBet_12 : decode cX8_isBet 12 = .ok (.invokestatic 40, 3) := by decide +kernel
theorem dX8_isBet_15 : decode cX8_isBet 15 = .ok (.ireturn, 1) := by decide +kernel
set_option maxRecDepth 20000 in
theorem ggX8_past_X8_begins : GoodIn wsX8_past wsX8_begins := goodIn_r _ [6, 1, 7, 8, 9, 10, 11, 12, 13, 14, 15, 16, 17, 18, 19, 20, 21, 22, 23, 24] (by decide +kernel) (by decide +kernel)
set_option maxRecDepth 20000 in
theorem gX8_past_X8_begins : GoodIn wsX8_past (wsV RX8 34 RX8 yX8_begins wsX8_begins) := goodIn_app (goodIn_of _ (by decide +kernel)) ggX8_past_X8_begins
theorem dX8_past_0 : decode cX8_past 0 = .ok (.aload_n 0, 1) := by decide +kernel
theorem dX8_past_1 : decode cX8_past 1 = .ok (.getfield 7, 3) := by decide +kernel
theorem dX8_past_4 : decode cX8_past 4 = .ok (.iconst 1, 1) := by decide +kernel
theorem dX8_past_5 : decode cX8_past 5 = .ok (.iaload, 1) := by decide +kernel
theorem dX8_past_6 : decode cX8_past 6 = .ok (.istore_n 1, 1) := by decide +kernel
theorem dX8_past_7 : decode cX8_past 7 = .ok (.aload_n 0, 1) := by decide +kernel
theorem dX8_past_8 : decode cX8_past 8 = .ok (.iconst 0, 1) := by decide +kernel
theorem dX8_past_9 : decode cX8_past 9 = .ok (.invokevirtual 34, 3) := by decide +kernel
theorem dX8_past_12 : decode cX8_past 12 = .ok (.iload_n 1, 1) := by decide +kernel
theorem dX8_past_13 : decode cX8_past 13 = .ok (.ireturn, 1) := by decide +kernel
theorem dX8_adds_0 : decode cX8_adds 0 = .ok (.aload_n 0, 1) := by decide +kernel
theorem dX8_adds_1 : decode cX8_adds 1 = .ok (.getfield 7, 3) := by decide +kernel
theorem dX8_adds_4 : decode cX8_adds 4 = .ok (.iload_n 1, 1) := by decide +kernel
theorem dX8_adds_5 : decode cX8_adds 5 = .ok (.iload_n 2, 1) := by decide +kernel
theorem dX8_adds_6 : decode cX8_adds 6 = .ok (.iadd, 1) := by decide +kernel
theorem dX8_adds_7 : decode cX8_adds 7 = .ok (.iaload, 1) := by decide +kernel
theorem dX8_adds_8 : decode cX8_adds 8 = .ok (.istore 7, 2) := by decide +kernel
theorem dX8_adds_10 : decode cX8_adds 10 = .ok (.iload_n 1, 1) := by decide +kernel
theorem dX8_adds_11 : decode cX8_adds 11 = .ok (.iload_n 3, 1) := by decide +kernel
theorem dX8_adds_12 : decode cX8_adds 12 = .ok (.iadd, 1) := by decide +kernel
theorem dX8_adds_13 : decode cX8_adds 13 = .ok (.iconst 3, 1) := by decide +kernel
theorem dX8_adds_14 : decode cX8_adds 14 = .ok (.iload 7, 2) := by decide +kernel
theorem dX8_adds_16 : decode cX8_adds 16 = .ok (.imul, 1) := by decide +kernel
theorem dX8_adds_17 : decode cX8_adds 17 = .ok (.iadd, 1) := by decide +kernel
theorem dX8_adds_18 : decode cX8_adds 18 = .ok (.istore 8, 2) := by decide +kernel
theorem dX8_adds_20 : decode cX8_adds 20 = .ok (.aload_n 0, 1) := by decide +kernel
theorem dX8_adds_21 : decode cX8_adds 21 = .ok (.getfield 7, 3) := by decide +kernel
theorem dX8_adds_24 : decode cX8_adds 24 = .ok (.iload 8, 2) := by decide +kernel
theorem dX8_adds_26 : decode cX8_adds 26 = .ok (.iload 4, 2) := by decide +kernel
theorem dX8_adds_28 : decode cX8_adds 28 = .ok (.iastore, 1) := by decide +kernel
theorem dX8_adds_29 : decode cX8_adds 29 = .ok (.aload_n 0, 1) := by decide +kernel
theorem dX8_adds_30 : decode cX8_adds 30 = .ok (.getfield 7, 3) := by decide +kernel
theorem dX8_adds_33 : decode cX8_adds 33 = .ok (.iload 8, 2) := by decide +kernel
theorem dX8_adds_35 : decode cX8_adds 35 = .ok (.iconst 1, 1) := by decide +kernel
theorem dX8_adds_36 : decode cX8_adds 36 = .ok (.iadd, 1) := by decide +kernel
theorem dX8_adds_37 : decode cX8_adds 37 = .ok (.iload 5, 2) := by decide +kernel
theorem dX8_adds_39 : decode cX8_adds 39 = .ok (.iastore, 1) := by decide +kernel
theorem dX8_adds_40 : decode cX8_adds 40 = .ok (.aload_n 0, 1) := by decide +kernel
theorem dX8_adds_41 : decode cX8_adds 41 = .ok (.getfield 7, 3) := by decide +kernel
theorem dX8_adds_44 : decode cX8_adds 44 = .ok (.iload 8, 2) := by decide +kernel
theorem dX8_adds_46 : decode cX8_adds 46 = .ok (.iconst 2, 1) := by decide +kernel
theorem dX8_adds_47 : decode cX8_adds 47 = .ok (.iadd, 1) := by decide +kernel
theorem dX8_adds_48 : decode cX8_adds 48 = .ok (.iload 6, 2) := by decide +kernel
theorem dX8_adds_50 : decode cX8_adds 50 = .ok (.iastore, 1) := by decide +kernel
theorem dX8_adds_51 : decode cX8_adds 51 = .ok (.aload_n 0, 1) := by decide +kernel
theorem dX8_adds_52 : decode cX8_adds 52 = .ok (.getfield 7, 3) := by decide +kernel
theorem dX8_adds_55 : decode cX8_adds 55 = .ok (.iload_n 1, 1) := by decide +kernel
theorem dX8_adds_56 : decode cX8_adds 56 = .ok (.iload_n 2, 1) := by decide +kernel
theorem dX8_adds_57 : decode cX8_adds 57 = .ok (.iadd, 1) := by decide +kernel
theorem dX8_adds_58 : decode cX8_adds 58 = .ok (.dup2, 1) := by decide +kernel
theorem dX8_adds_59 : decode cX8_adds 59 = .ok (.iaload, 1) := by decide +kernel
theorem dX8_adds_60 : decode cX8_adds 60 = .ok (.iconst 1, 1) := by decide +kernel
theorem dX8_adds_61 : decode cX8_adds 61 = .ok (.iadd, 1) := by decide +kernel
theorem dX8_adds_62 : decode cX8_adds 62 = .ok (.iastore, 1) := by decide +kernel
theorem dX8_adds_63 : decode cX8_adds 63 = .ok (.iload 7, 2) := by decide +kernel
theorem dX8_adds_65 : decode cX8_adds 65 = .ok (.ireturn, 1) := by decide +kernel
theorem dX8_adds5_0 : decode cX8_adds5 0 = .ok (.aload_n 0, 1) := by decide +kernel
theorem dX8_adds5_1 : decode cX8_adds5 1 = .ok (.getfield 7, 3) := by decide +kernel
theorem dX8_adds5_4 : decode cX8_adds5 4 = .ok (.iload_n 1, 1) := by decide +kernel
theorem dX8_adds5_5 : decode cX8_adds5 5 = .ok (.iload_n 2, 1) := by decide +kernel
theorem dX8_adds5_6 : decode cX8_adds5 6 = .ok (.iadd, 1) := by decide +kernel
theorem dX8_adds5_7 : decode cX8_adds5 7 = .ok (.iaload, 1) := by decide +kernel
theorem dX8_adds5_8 : decode cX8_adds5 8 = .ok (.istore 9, 2) := by decide +kernel
theorem dX8_adds5_10 : decode cX8_adds5 10 = .ok (.iload_n 1, 1) := by decide +kernel
theorem dX8_adds5_11 : decode cX8_adds5 11 = .ok (.iload_n 3, 1) := by decide +kernel
theorem dX8_adds5_12 : decode cX8_adds5 12 = .ok (.iadd, 1) := by decide +kernel
theorem dX8_adds5_13 : decode cX8_adds5 13 = .ok (.iconst 5, 1) := by decide +kernel
theorem dX8_adds5_14 : decode cX8_adds5 14 = .ok (.iload 9, 2) := by decide +kernel
theorem dX8_adds5_16 : decode cX8_adds5 16 = .ok (.imul, 1) := by decide +kernel
theorem dX8_adds5_17 : decode cX8_adds5 17 = .ok (.iadd, 1) := by decide +kernel
theorem dX8_adds5_18 : decode cX8_adds5 18 = .ok (.istore 10, 2) := by decide +kernel
theorem dX8_adds5_20 : decode cX8_adds5 20 = .ok (.aload_n 0, 1) := by decide +kernel
theorem dX8_adds5_21 : decode cX8_adds5 21 = .ok (.getfield 7, 3) := by decide +kernel
theorem dX8_adds5_24 : decode cX8_adds5 24 = .ok (.iload 10, 2) := by decide +kernel
theorem dX8_adds5_26 : decode cX8_adds5 26 = .ok (.iload 4, 2) := by decide +kernel
theorem dX8_adds5_28 : decode cX8_adds5 28 = .ok (.iastore, 1) := by decide +kernel
theorem dX8_adds5_29 : decode cX8_adds5 29 = .ok (.aload_n 0, 1) := by decide +kernel
theorem dX8_adds5_30 : decode cX8_adds5 30 = .ok (.getfield 7, 3) := by decide +kernel
theorem dX8_adds5_33 : decode cX8_adds5 33 = .ok (.iload 10, 2) := by decide +kernel
theorem dX8_adds5_35 : decode cX8_adds5 35 = .ok (.iconst 1, 1) := by decide +kernel
theorem dX8_adds5_36 : decode cX8_adds5 36 = .ok (.iadd, 1) := by decide +kernel
theorem dX8_adds5_37 : decode cX8_adds5 37 = .ok (.iload 5, 2) := by decide +kernel
theorem dX8_adds5_39 : decode cX8_adds5 39 = .ok (.iastore, 1) := by decide +kernel
theorem dX8_adds5_40 : decode cX8_adds5 40 = .ok (.aload_n 0, 1) := by decide +kernel
theorem dX8_adds5_41 : decode cX8_adds5 41 = .ok (.getfield 7, 3) := by decide +kernel
theorem dX8_adds5_44 : decode cX8_adds5 44 = .ok (.iload 10, 2) := by decide +kernel
theorem dX8_adds5_46 : decode cX8_adds5 46 = .ok (.iconst 2, 1) := by decide +kernel
theorem dX8_adds5_47 : decode cX8_adds5 47 = .ok (.iadd, 1) := by decide +kernel
theorem dX8_adds5_48 : decode cX8_adds5 48 = .ok (.iload 6, 2) := by decide +kernel
theorem dX8_adds5_50 : decode cX8_adds5 50 = .ok (.iastore, 1) := by decide +kernel
theorem dX8_adds5_51 : decode cX8_adds5 51 = .ok (.aload_n 0, 1) := by decide +kernel
theorem dX8_adds5_52 : decode cX8_adds5 52 = .ok (.getfield 7, 3) := by decide +kernel
theorem dX8_adds5_55 : decode cX8_adds5 55 = .ok (.iload 10, 2) := by decide +kernel
theorem dX8_adds5_57 : decode cX8_adds5 57 = .ok (.iconst 3, 1) := by decide +kernel
theorem dX8_adds5_58 : decode cX8_adds5 58 = .ok (.iadd, 1) := by decide +kernel
theorem dX8_adds5_59 : decode cX8_adds5 59 = .ok (.iload 7, 2) := by decide +kernel
theorem dX8_adds5_61 : decode cX8_adds5 61 = .ok (.iastore, 1) := by decide +kernel
theorem dX8_adds5_62 : decode cX8_adds5 62 = .ok (.aload_n 0, 1) := by decide +kernel
theorem dX8_adds5_63 : decode cX8_adds5 63 = .ok (.getfield 7, 3) := by decide +kernel
theorem dX8_adds5_66 : decode cX8_adds5 66 = .ok (.iload 10, 2) := by decide +kernel
theorem dX8_adds5_68 : decode cX8_adds5 68 = .ok (.iconst 4, 1) := by decide +kernel
theorem dX8_adds5_69 : decode cX8_adds5 69 = .ok (.iadd, 1) := by decide +kernel
theorem dX8_adds5_70 : decode cX8_adds5 70 = .ok (.iload 8, 2) := by decide +kernel
theorem dX8_adds5_72 : decode cX8_adds5 72 = .ok (.iastore, 1) := by decide +kernel
theorem dX8_adds5_73 : decode cX8_adds5 73 = .ok (.aload_n 0, 1) := by decide +kernel
theorem dX8_adds5_74 : decode cX8_adds5 74 = .ok (.getfield 7, 3) := by decide +kernel
theorem dX8_adds5_77 : decode cX8_adds5 77 = .ok (.iload_n 1, 1) := by decide +kernel
theorem dX8_adds5_78 : decode cX8_adds5 78 = .ok (.iload_n 2, 1) := by decide +kernel
theorem dX8_adds5_79 : decode cX8_adds5 79 = .ok (.iadd, 1) := by decide +kernel
theorem dX8_adds5_80 : decode cX8_adds5 80 = .ok (.dup2, 1) := by decide +kernel
theorem dX8_adds5_81 : decode cX8_adds5 81 = .ok (.iaload, 1) := by decide +kernel
theorem dX8_adds5_82 : decode cX8_adds5 82 = .ok (.iconst 1, 1) := by decide +kernel
theorem dX8_adds5_83 : decode cX8_adds5 83 = .ok (.iadd, 1) := by decide +kernel
theorem dX8_adds5_84 : decode cX8_adds5 84 = .ok (.iastore, 1) := by decide +kernel
theorem dX8_adds5_85 : decode cX8_adds5 85 = .ok (.iload 9, 2) := by decide +kernel
theorem dX8_adds5_87 : decode cX8_adds5 87 = .ok (.ireturn, 1) := by decide +kernel
set_option maxRecDepth 20000 in
theorem ggX8_rule_X8_in : GoodIn wsX8_rule wsX8_in := goodIn_r _ [6] (by decide +kernel) (by decide +kernel)
set_option maxRecDepth 20000 in
theorem gX8_rule_X8_in : GoodIn wsX8_rule (va_wsS RX8 40 yX8_in wsX8_in) := goodIn_app (goodIn_of _ (by decide +kernel)) ggX8_rule_X8_in
set_option maxRecDepth 20000 in
theorem ggX8_rule_X8_isFact : GoodIn wsX8_rule wsX8_isFact := goodIn_r _ [9, 10, 3, 4, 5, 6] (by decide +kernel) (by decide +kernel)
set_option maxRecDepth 20000 in
theorem gX8_rule_X8_isFact : GoodIn wsX8_rule (va_wsS RX8 46 yX8_isFact wsX8_isFact) := goodIn_app (goodIn_of _ (by decide +kernel)) ggX8_rule_X8_isFact
set_option maxRecDepth 20000 in
theorem ggX8_rule_X8_bad : GoodIn wsX8_rule wsX8_bad := goodIn_r _ [14, 15, 24, 25, 26, 27, 28, 29, 30, 31, 32, 33, 34, 35, 36, 37, 38, 39, 40, 41] (by decide +kernel) (by decide +kernel)
set_option maxRecDepth 20000 in
theorem gX8_rule_X8_bad : GoodIn wsX8_rule (wsV RX8 54 RX8 yX8_bad wsX8_bad) := goodIn_app (goodIn_of _ (by decide +kernel)) ggX8_rule_X8_bad
set_option maxRecDepth 20000 in
theorem ggX8_rule_X8_full : GoodIn wsX8_rule wsX8_full := goodIn_r _ [19, 15, 24, 25, 26, 27, 28, 29, 30, 31, 32, 33, 34, 35, 36, 37, 38, 39, 40, 41] (by decide +kernel) (by decide +kernel)
set_option maxRecDepth 20000 in
theorem gX8_rule_X8_full : GoodIn wsX8_rule (wsV RX8 58 RX8 yX8_full wsX8_full) := goodIn_app (goodIn_of _ (by decide +kernel)) ggX8_rule_X8_full
set_option maxRecDepth 20000 in
theorem ggX8_rule_X8_adds : GoodIn wsX8_rule wsX8_adds := goodIn_r _ [23, 2, 24, 25, 26, 27, 28, 29, 30, 31, 32, 33, 34, 35, 36, 37, 38, 39, 40, 41] (by decide +kernel) (by decide +kernel)
set_option maxRecDepth 20000 in
theorem gX8_rule_X8_adds : GoodIn wsX8_rule (wsV RX8 61 RX8 yX8_adds wsX8_adds) := goodIn_app (goodIn_of _ (by decide +kernel)) ggX8_rule_X8_adds
theorem dX8_rule_0 : decode cX8_rule 0 = .ok (.iload_n 1, 1) := by decide +kernel
theorem dX8_rule_1 : decode cX8_rule 1 = .ok (.i2l, 1) := by decide +kernel
theorem dX8_rule_2 : decode cX8_rule 2 = .ok (.lconst 0, 1) := by decide +kernel
theorem dX8_rule_3 : decode cX8_rule 3 = .ok (.ldc2_w 52, 3) := by decide +kernel
theorem dX8_rule_6 : decode cX8_rule 6 = .ok (.invokestatic 40, 3) := by decide +kernel
theorem dX8_rule_9 : decode cX8_rule 9 = .ok (.ifCond .eq 17, 3) := by decide +kernel
theorem dX8_rule_12 : decode cX8_rule 12 = .ok (.iload_n 2, 1) := by decide +kernel
theorem dX8_rule_13 : decode cX8_rule 13 = .ok (.invokestatic 46, 3) := by decide +kernel
theorem dX8_rule_16 : decode cX8_rule 16 = .ok (.ifCond .eq 10, 3) := by decide +kernel
theorem dX8_rule_19 : decode cX8_rule 19 = .ok (.iload_n 3, 1) := by decide +kernel
theorem dX8_rule_20 : decode cX8_rule 20 = .ok (.invokestatic 46, 3) := by decide +kernel
theorem dX8_rule_23 : decode cX8_rule 23 = .ok (.ifCond .ne 8, 3) := by decide +kernel
theorem dX8_rule_26 : decode cX8_rule 26 = .ok (.aload_n 0, 1) := by decide +kernel
theorem dX8_rule_27 : decode cX8_rule 27 = .ok (.invokevirtual 54, 3) := by decide +kernel
theorem dX8_rule_30 : decode cX8_rule 30 = .ok (.ireturn, 1) := by decide +kernel
theorem dX8_rule_31 : decode cX8_rule 31 = .ok (.aload_n 0, 1) := by decide +kernel
theorem dX8_rule_32 : decode cX8_rule 32 = .ok (.getfield 7, 3) := by decide +kernel
theorem dX8_rule_35 : decode cX8_rule 35 = .ok (.iconst 0, 1) := by decide +kernel
theorem dX8_rule_36 : decode cX8_rule 36 = .ok (.iaload, 1) := by decide +kernel
theorem dX8_rule_37 : decode cX8_rule 37 = .ok (.bipush 8, 2) := by decide +kernel
theorem dX8_rule_39 : decode cX8_rule 39 = .ok (.if_icmp .ne 8, 3) := by decide +kernel
theorem dX8_rule_42 : decode cX8_rule 42 = .ok (.aload_n 0, 1) := by decide +kernel
theorem dX8_rule_43 : decode cX8_rule 43 = .ok (.invokevirtual 58, 3) := by decide +kernel
theorem dX8_rule_46 : decode cX8_rule 46 = .ok (.ireturn, 1) := by decide +kernel
theorem dX8_rule_47 : decode cX8_rule 47 = .ok (.aload_n 0, 1) := by decide +kernel
theorem dX8_rule_48 : decode cX8_rule 48 = .ok (.getfield 7, 3) := by decide +kernel
theorem dX8_rule_51 : decode cX8_rule 51 = .ok (.iconst 4, 1) := by decide +kernel
theorem dX8_rule_52 : decode cX8_rule 52 = .ok (.iconst 0, 1) := by decide +kernel
theorem dX8_rule_53 : decode cX8_rule 53 = .ok (.iastore, 1) := by decide +kernel
theorem dX8_rule_54 : decode cX8_rule 54 = .ok (.aload_n 0, 1) := by decide +kernel
theorem dX8_rule_55 : decode cX8_rule 55 = .ok (.iconst 0, 1) := by decide +kernel
theorem dX8_rule_56 : decode cX8_rule 56 = .ok (.iconst 0, 1) := by decide +kernel
theorem dX8_rule_57 : decode cX8_rule 57 = .ok (.iconst 5, 1) := by decide +kernel
theorem dX8_rule_58 : decode cX8_rule 58 = .ok (.iload_n 1, 1) := by decide +kernel
theorem dX8_rule_59 : decode cX8_rule 59 = .ok (.iload_n 2, 1) := by decide +kernel
theorem dX8_rule_60 : decode cX8_rule 60 = .ok (.iload_n 3, 1) := by decide +kernel
theorem dX8_rule_61 : decode cX8_rule 61 = .ok (.invokevirtual 61, 3) := by decide +kernel
theorem dX8_rule_64 : decode cX8_rule 64 = .ok (.ireturn, 1) := by decide +kernel
theorem dX8_minds_0 : decode cX8_minds 0 = .ok (.aload_n 0, 1) := by decide +kernel
theorem dX8_minds_1 : decode cX8_minds 1 = .ok (.getfield 7, 3) := by decide +kernel
theorem dX8_minds_4 : decode cX8_minds 4 = .ok (.iconst 4, 1) := by decide +kernel
theorem dX8_minds_5 : decode cX8_minds 5 = .ok (.iaload, 1) := by decide +kernel
theorem dX8_minds_6 : decode cX8_minds 6 = .ok (.bipush 8, 2) := by decide +kernel
theorem dX8_minds_8 : decode cX8_minds 8 = .ok (.if_icmp .ne 51, 3) := by decide +kernel
theorem dX8_minds_11 : decode cX8_minds 11 = .ok (.iconst 0, 1) := by decide +kernel
theorem dX8_minds_12 : decode cX8_minds 12 = .ok (.istore_n 1, 1) := by decide +kernel
theorem dX8_minds_13 : decode cX8_minds 13 = .ok (.iload_n 1, 1) := by decide +kernel
theorem dX8_minds_14 : decode cX8_minds 14 = .ok (.sipush 217, 3) := by decide +kernel
theorem dX8_minds_17 : decode cX8_minds 17 = .ok (.if_icmp .ge 32, 3) := by decide +kernel
theorem dX8_minds_20 : decode cX8_minds 20 = .ok (.aload_n 0, 1) := by decide +kernel
theorem dX8_minds_21 : decode cX8_minds 21 = .ok (.getfield 7, 3) := by decide +kernel
theorem dX8_minds_24 : decode cX8_minds 24 = .ok (.sipush 129, 3) := by decide +kernel
theorem dX8_minds_27 : decode cX8_minds 27 = .ok (.iload_n 1, 1) := by decide +kernel
theorem dX8_minds_28 : decode cX8_minds 28 = .ok (.iadd, 1) := by decide +kernel
theorem dX8_minds_29 : decode cX8_minds 29 = .ok (.aload_n 0, 1) := by decide +kernel
theorem dX8_minds_30 : decode cX8_minds 30 = .ok (.getfield 7, 3) := by decide +kernel
theorem dX8_minds_33 : decode cX8_minds 33 = .ok (.sipush 129, 3) := by decide +kernel
theorem dX8_minds_36 : decode cX8_minds 36 = .ok (.iload_n 1, 1) := by decide +kernel
theorem dX8_minds_37 : decode cX8_minds 37 = .ok (.iadd, 1) := by decide +kernel
theorem dX8_minds_38 : decode cX8_minds 38 = .ok (.bipush 31, 2) := by decide +kernel
theorem dX8_minds_40 : decode cX8_minds 40 = .ok (.iadd, 1) := by decide +kernel
theorem dX8_minds_41 : decode cX8_minds 41 = .ok (.iaload, 1) := by decide +kernel
theorem dX8_minds_42 : decode cX8_minds 42 = .ok (.iastore, 1) := by decide +kernel
theorem dX8_minds_43 : decode cX8_minds 43 = .ok (.iinc 1 1, 3) := by decide +kernel
theorem dX8_minds_46 : decode cX8_minds 46 = .ok (.goto (-33), 3) := by decide +kernel
theorem dX8_minds_49 : decode cX8_minds 49 = .ok (.aload_n 0, 1) := by decide +kernel
theorem dX8_minds_50 : decode cX8_minds 50 = .ok (.getfield 7, 3) := by decide +kernel
theorem dX8_minds_53 : decode cX8_minds 53 = .ok (.iconst 4, 1) := by decide +kernel
theorem dX8_minds_54 : decode cX8_minds 54 = .ok (.dup2, 1) := by decide +kernel
theorem dX8_minds_55 : decode cX8_minds 55 = .ok (.iaload, 1) := by decide +kernel
theorem dX8_minds_56 : decode cX8_minds 56 = .ok (.iconst 1, 1) := by decide +kernel
theorem dX8_minds_57 : decode cX8_minds 57 = .ok (.isub, 1) := by decide +kernel
theorem dX8_minds_58 : decode cX8_minds 58 = .ok (.iastore, 1) := by decide +kernel
theorem dX8_minds_59 : decode cX8_minds 59 = .ok (.sipush 129, 3) := by decide +kernel
theorem dX8_minds_62 : decode cX8_minds 62 = .ok (.bipush 31, 2) := by decide +kernel
theorem dX8_minds_64 : decode cX8_minds 64 = .ok (.aload_n 0, 1) := by decide +kernel
theorem dX8_minds_65 : decode cX8_minds 65 = .ok (.getfield 7, 3) := by decide +kernel
theorem dX8_minds_68 : decode cX8_minds 68 = .ok (.iconst 4, 1) := by decide +kernel
theorem dX8_minds_69 : decode cX8_minds 69 = .ok (.iaload, 1) := by decide +kernel
theorem dX8_minds_70 : decode cX8_minds 70 = .ok (.imul, 1) := by decide +kernel
theorem dX8_minds_71 : decode cX8_minds 71 = .ok (.iadd, 1) := by decide +kernel
theorem dX8_minds_72 : decode cX8_minds 72 = .ok (.istore_n 1, 1) := by decide +kernel
theorem dX8_minds_73 : decode cX8_minds 73 = .ok (.aload_n 0, 1) := by decide +kernel
theorem dX8_minds_74 : decode cX8_minds 74 = .ok (.getfield 7, 3) := by decide +kernel
theorem dX8_minds_77 : decode cX8_minds 77 = .ok (.iload_n 1, 1) := by decide +kernel
theorem dX8_minds_78 : decode cX8_minds 78 = .ok (.aload_n 0, 1) := by decide +kernel
theorem dX8_minds_79 : decode cX8_minds 79 = .ok (.getfield 7, 3) := by decide +kernel
theorem dX8_minds_82 : decode cX8_minds 82 = .ok (.iconst 1, 1) := by decide +kernel
theorem dX8_minds_83 : decode cX8_minds 83 = .ok (.iaload, 1) := by decide +kernel
theorem dX8_minds_84 : decode cX8_minds 84 = .ok (.iastore, 1) := by decide +kernel
theorem dX8_minds_85 : decode cX8_minds 85 = .ok (.iconst 0, 1) := by decide +kernel
theorem dX8_minds_86 : decode cX8_minds 86 = .ok (.istore_n 2, 1) := by decide +kernel
theorem dX8_minds_87 : decode cX8_minds 87 = .ok (.iload_n 2, 1) := by decide +kernel
theorem dX8_minds_88 : decode cX8_minds 88 = .ok (.bipush 30, 2) := by decide +kernel
theorem dX8_minds_90 : decode cX8_minds 90 = .ok (.if_icmp .ge 28, 3) := by decide +kernel
theorem dX8_minds_93 : decode cX8_minds 93 = .ok (.aload_n 0, 1) := by decide +kernel
theorem dX8_minds_94 : decode cX8_minds 94 = .ok (.getfield 7, 3) := by decide +kernel
theorem dX8_minds_97 : decode cX8_minds 97 = .ok (.iload_n 1, 1) := by decide +kernel
theorem dX8_minds_98 : decode cX8_minds 98 = .ok (.iconst 1, 1) := by decide +kernel
theorem dX8_minds_99 : decode cX8_minds 99 = .ok (.iadd, 1) := by decide +kernel
theorem dX8_minds_100 : decode cX8_minds 100 = .ok (.iload_n 2, 1) := by decide +kernel
theorem dX8_minds_101 : decode cX8_minds 101 = .ok (.iadd, 1) := by decide +kernel
theorem dX8_minds_102 : decode cX8_minds 102 = .ok (.aload_n 0, 1) := by decide +kernel
theorem dX8_minds_103 : decode cX8_minds 103 = .ok (.getfield 7, 3) := by decide +kernel
theorem dX8_minds_106 : decode cX8_minds 106 = .ok (.bipush 29, 2) := by decide +kernel
theorem dX8_minds_108 : decode cX8_minds 108 = .ok (.iload_n 2, 1) := by decide +kernel
theorem dX8_minds_109 : decode cX8_minds 109 = .ok (.iadd, 1) := by decide +kernel
theorem dX8_minds_110 : decode cX8_minds 110 = .ok (.iaload, 1) := by decide +kernel
theorem dX8_minds_111 : decode cX8_minds 111 = .ok (.iastore, 1) := by decide +kernel
theorem dX8_minds_112 : decode cX8_minds 112 = .ok (.iinc 2 1, 3) := by decide +kernel
theorem dX8_minds_115 : decode cX8_minds 115 = .ok (.goto (-28), 3) := by decide +kernel
theorem dX8_minds_118 : decode cX8_minds 118 = .ok (.aload_n 0, 1) := by decide +kernel
theorem dX8_minds_119 : decode cX8_minds 119 = .ok (.getfield 7, 3) := by decide +kernel
theorem dX8_minds_122 : decode cX8_minds 122 = .ok (.iconst 4, 1) := by decide +kernel
theorem dX8_minds_123 : decode cX8_minds 123 = .ok (.dup2, 1) := by decide +kernel
theorem dX8_minds_124 : decode cX8_minds 124 = .ok (.iaload, 1) := by decide +kernel
theorem dX8_minds_125 : decode cX8_minds 125 = .ok (.iconst 1, 1) := by decide +kernel
theorem dX8_minds_126 : decode cX8_minds 126 = .ok (.iadd, 1) := by decide +kernel
theorem dX8_minds_127 : decode cX8_minds 127 = .ok (.iastore, 1) := by decide +kernel
theorem dX8_minds_128 : decode cX8_minds 128 = .ok (.return_, 1) := by decide +kernel
set_option maxRecDepth 20000 in
theorem ggX8_isFind_X8_isFact : GoodIn wsX8_isFind wsX8_isFact := goodIn_r _ [5, 6, 7, 8, 4, 9] (by decide +kernel) (by decide +kernel)
set_option maxRecDepth 20000 in
theorem gX8_isFind_X8_isFact : GoodIn wsX8_isFind (va_wsS RX8 46 yX8_isFact wsX8_isFact) := goodIn_app (goodIn_of _ (by decide +kernel)) ggX8_isFind_X8_isFact
set_option maxRecDepth 20000 in
theorem ggX8_isFind_X8_in : GoodIn wsX8_isFind wsX8_in := goodIn_r _ [9] (by decide +kernel) (by decide +kernel)
set_option maxRecDepth 20000 in
theorem gX8_isFind_X8_in : GoodIn wsX8_isFind (va_wsS RX8 40 yX8_in wsX8_in) := goodIn_app (goodIn_of _ (by decide +kernel)) ggX8_isFind_X8_in
theorem dX8_isFind_0 : decode cX8_isFind 0 = .ok (.iload_n 0, 1) := by decide +kernel
theorem dX8_isFind_1 : decode cX8_isFind 1 = .ok (.invokestatic 46, 3) := by decide +kernel
theorem dX8_isFind_4 : decode cX8_isFind 4 = .ok (.ifCond .eq 29, 3) := by decide +kernel
theorem dX8_isFind_7 : decode cX8_isFind 7 = .ok (.iload_n 1, 1) := by decide +kernel
theorem dX8_isFind_8 : decode cX8_isFind 8 = .ok (.i2l, 1) := by decide +kernel
theorem dX8_isFind_9 : decode cX8_isFind 9 = .ok (.lconst 0, 1) := by decide +kernel
theorem dX8_isFind_10 : decode cX8_isFind 10 = .ok (.lconst 1, 1) := by decide +kernel
theorem dX8_isFind_11 : decode cX8_isFind 11 = .ok (.invokestatic 40, 3) := by decide +kernel
theorem dX8_isFind_14 : decode cX8_isFind 14 = .ok (.ifCond .eq 19, 3) := by decide +kernel
theorem dX8_isFind_17 : decode cX8_isFind 17 = .ok (.iload_n 2, 1) := by decide +kernel
theorem dX8_isFind_18 : decode cX8_isFind 18 = .ok (.i2l, 1) := by decide +kernel
theorem dX8_isFind_19 : decode cX8_isFind 19 = .ok (.lconst 0, 1) := by decide +kernel
theorem dX8_isFind_20 : decode cX8_isFind 20 = .ok (.ldc2_w 65, 3) := by decide +kernel
theorem dX8_isFind_23 : decode cX8_isFind 23 = .ok (.invokestatic 40, 3) := by decide +kernel
theorem dX8_isFind_26 : decode cX8_isFind 26 = .ok (.ifCond .eq 7, 3) := by decide +kernel
theorem dX8_isFind_29 : decode cX8_isFind 29 = .ok (.iconst 1, 1) := by decide +kernel
theorem dX8_isFind_30 : decode cX8_isFind 30 = .ok (.goto 4, 3) := by decide +kernel
theorem dX8_isFind_33 : decode cX8_isFind 33 = .ok (.iconst 0, 1) := by decide +kernel
theorem dX8_isFind_34 : decode cX8_isFind 34 = .ok (.ireturn, 1) := by decide +kernel
set_option maxRecDepth 20000 in
theorem ggX8_find_X8_isFind : GoodIn wsX8_find wsX8_isFind := goodIn_r _ [5, 6, 7, 8, 4, 9, 10, 11, 12, 13] (by decide +kernel) (by decide +kernel)
set_option maxRecDepth 20000 in
theorem gX8_find_X8_isFind : GoodIn wsX8_find (va_wsS RX8 67 yX8_isFind wsX8_isFind) := goodIn_app (goodIn_of _ (by decide +kernel)) ggX8_find_X8_isFind
set_option maxRecDepth 20000 in
theorem ggX8_find_X8_bad : GoodIn wsX8_find wsX8_bad := goodIn_r _ [17, 18, 31, 32, 33, 34, 35, 36, 37, 38, 39, 40, 41, 42, 43, 44, 45, 46, 47, 48] (by decide +kernel) (by decide +kernel)
set_option maxRecDepth 20000 in
theorem gX8_find_X8_bad : GoodIn wsX8_find (wsV RX8 54 RX8 yX8_bad wsX8_bad) := goodIn_app (goodIn_of _ (by decide +kernel)) ggX8_find_X8_bad
set_option maxRecDepth 20000 in
theorem ggX8_find_X8_full : GoodIn wsX8_find wsX8_full := goodIn_r _ [22, 18, 31, 32, 33, 34, 35, 36, 37, 38, 39, 40, 41, 42, 43, 44, 45, 46, 47, 48] (by decide +kernel) (by decide +kernel)
set_option maxRecDepth 20000 in
theorem gX8_find_X8_full : GoodIn wsX8_find (wsV RX8 58 RX8 yX8_full wsX8_full) := goodIn_app (goodIn_of _ (by decide +kernel)) ggX8_find_X8_full
set_option maxRecDepth 20000 in
theorem ggX8_find_X8_minds : GoodIn wsX8_find wsX8_minds := goodIn_r _ [26, 1, 31, 32, 33, 34, 35, 36, 37, 38, 39, 40, 41, 42, 43, 44, 45, 46, 47, 48] (by decide +kernel) (by decide +kernel)
set_option maxRecDepth 20000 in
theorem gX8_find_X8_minds : GoodIn wsX8_find (wsV RX8 71 RX8 yX8_minds wsX8_minds) := goodIn_app (goodIn_of _ (by decide +kernel)) ggX8_find_X8_minds
set_option maxRecDepth 20000 in
theorem ggX8_find_X8_adds : GoodIn wsX8_find wsX8_adds := goodIn_r _ [30, 1, 31, 32, 33, 34, 35, 36, 37, 38, 39, 40, 41, 42, 43, 44, 45, 46, 47, 48] (by decide +kernel) (by decide +kernel)
set_option maxRecDepth 20000 in
theorem gX8_find_X8_adds : GoodIn wsX8_find (wsV RX8 61 RX8 yX8_adds wsX8_adds) := goodIn_app (goodIn_of _ (by decide +kernel)) ggX8_find_X8_adds
theorem dX8_find_0 : decode cX8_find 0 = .ok (.iload_n 1, 1) := by decide +kernel
theorem dX8_find_1 : decode cX8_find 1 = .ok (.iload_n 2, 1) := by decide +kernel
theorem dX8_find_2 : decode cX8_find 2 = .ok (.iload_n 3, 1) := by decide +kernel
theorem dX8_find_3 : decode cX8_find 3 = .ok (.invokestatic 67, 3) := by decide +kernel
theorem dX8_find_6 : decode cX8_find 6 = .ok (.ifCond .ne 8, 3) := by decide +kernel
theorem dX8_find_9 : decode cX8_find 9 = .ok (.aload_n 0, 1) := by decide +kernel
theorem dX8_find_10 : decode cX8_find 10 = .ok (.invokevirtual 54, 3) := by decide +kernel
theorem dX8_find_13 : decode cX8_find 13 = .ok (.ireturn, 1) := by decide +kernel
theorem dX8_find_14 : decode cX8_find 14 = .ok (.aload_n 0, 1) := by decide +kernel
theorem dX8_find_15 : decode cX8_find 15 = .ok (.getfield 7, 3) := by decide +kernel
theorem dX8_find_18 : decode cX8_find 18 = .ok (.iconst 1, 1) := by decide +kernel
theorem dX8_find_19 : decode cX8_find 19 = .ok (.iaload, 1) := by decide +kernel
theorem dX8_find_20 : decode cX8_find 20 = .ok (.bipush 10, 2) := by decide +kernel
theorem dX8_find_22 : decode cX8_find 22 = .ok (.if_icmp .ne 8, 3) := by decide +kernel
theorem dX8_find_25 : decode cX8_find 25 = .ok (.aload_n 0, 1) := by decide +kernel
theorem dX8_find_26 : decode cX8_find 26 = .ok (.invokevirtual 58, 3) := by decide +kernel
theorem dX8_find_29 : decode cX8_find 29 = .ok (.ireturn, 1) := by decide +kernel
theorem dX8_find_30 : decode cX8_find 30 = .ok (.aload_n 0, 1) := by decide +kernel
theorem dX8_find_31 : decode cX8_find 31 = .ok (.invokevirtual 71, 3) := by decide +kernel
theorem dX8_find_34 : decode cX8_find 34 = .ok (.aload_n 0, 1) := by decide +kernel
theorem dX8_find_35 : decode cX8_find 35 = .ok (.iconst 0, 1) := by decide +kernel
theorem dX8_find_36 : decode cX8_find 36 = .ok (.iconst 1, 1) := by decide +kernel
theorem dX8_find_37 : decode cX8_find 37 = .ok (.bipush 29, 2) := by decide +kernel
theorem dX8_find_39 : decode cX8_find 39 = .ok (.iload_n 1, 1) := by decide +kernel
theorem dX8_find_40 : decode cX8_find 40 = .ok (.iload_n 2, 1) := by decide +kernel
theorem dX8_find_41 : decode cX8_find 41 = .ok (.iload_n 3, 1) := by decide +kernel
theorem dX8_find_42 : decode cX8_find 42 = .ok (.invokevirtual 61, 3) := by decide +kernel
theorem dX8_find_45 : decode cX8_find 45 = .ok (.ireturn, 1) := by decide +kernel
set_option maxRecDepth 20000 in
theorem ggX8_drop_X8_in : GoodIn wsX8_drop wsX8_in := goodIn_r _ [5] (by decide +kernel) (by decide +kernel)
set_option maxRecDepth 20000 in
theorem gX8_drop_X8_in : GoodIn wsX8_drop (va_wsS RX8 40 yX8_in wsX8_in) := goodIn_app (goodIn_of _ (by decide +kernel)) ggX8_drop_X8_in
set_option maxRecDepth 20000 in
theorem ggX8_drop_X8_bad : GoodIn wsX8_drop wsX8_bad := goodIn_r _ [9, 10, 15, 16, 17, 18, 19, 20, 21, 22, 23, 24, 25, 26, 27, 28, 29, 30, 31, 32] (by decide +kernel) (by decide +kernel)
set_option maxRecDepth 20000 in
theorem gX8_drop_X8_bad : GoodIn wsX8_drop (wsV RX8 54 RX8 yX8_bad wsX8_bad) := goodIn_app (goodIn_of _ (by decide +kernel)) ggX8_drop_X8_bad
set_option maxRecDepth 20000 in
theorem ggX8_drop_X8_minds : GoodIn wsX8_drop wsX8_minds := goodIn_r _ [14, 1, 15, 16, 17, 18, 19, 20, 21, 22, 23, 24, 25, 26, 27, 28, 29, 30, 31, 32] (by decide +kernel) (by decide +kernel)
set_option maxRecDepth 20000 in
theorem gX8_drop_X8_minds : GoodIn wsX8_drop (wsV RX8 71 RX8 yX8_minds wsX8_minds) := goodIn_app (goodIn_of _ (by decide +kernel)) ggX8_drop_X8_minds
theorem dX8_drop_0 : decode cX8_drop 0 = .ok (.iload_n 1, 1) := by decide +kernel
theorem dX8_drop_1 : decode cX8_drop 1 = .ok (.i2l, 1) := by decide +kernel
theorem dX8_drop_2 : decode cX8_drop 2 = .ok (.lconst 0, 1) := by decide +kernel
theorem dX8_drop_3 : decode cX8_drop 3 = .ok (.aload_n 0, 1) := by decide +kernel
theorem dX8_drop_4 : decode cX8_drop 4 = .ok (.getfield 7, 3) := by decide +kernel
theorem dX8_drop_7 : decode cX8_drop 7 = .ok (.iconst 1, 1) := by decide +kernel
theorem dX8_drop_8 : decode cX8_drop 8 = .ok (.iaload, 1) := by decide +kernel
theorem dX8_drop_9 : decode cX8_drop 9 = .ok (.iconst 1, 1) := by decide +kernel
theorem dX8_drop_10 : decode cX8_drop 10 = .ok (.isub, 1) := by decide +kernel
theorem dX8_drop_11 : decode cX8_drop 11 = .ok (.i2l, 1) := by decide +kernel
theorem dX8_drop_12 : decode cX8_drop 12 = .ok (.invokestatic 40, 3) := by decide +kernel
theorem dX8_drop_15 : decode cX8_drop 15 = .ok (.ifCond .ne 8, 3) := by decide +kernel
theorem dX8_drop_18 : decode cX8_drop 18 = .ok (.aload_n 0, 1) := by decide +kernel
theorem dX8_drop_19 : decode cX8_drop 19 = .ok (.invokevirtual 54, 3) := by decide +kernel
theorem dX8_drop_22 : decode cX8_drop 22 = .ok (.ireturn, 1) := by decide +kernel
theorem dX8_drop_23 : decode cX8_drop 23 = .ok (.aload_n 0, 1) := by decide +kernel
theorem dX8_drop_24 : decode cX8_drop 24 = .ok (.invokevirtual 71, 3) := by decide +kernel
theorem dX8_drop_27 : decode cX8_drop 27 = .ok (.bipush 29, 2) := by decide +kernel
theorem dX8_drop_29 : decode cX8_drop 29 = .ok (.iconst 3, 1) := by decide +kernel
theorem dX8_drop_30 : decode cX8_drop 30 = .ok (.iload_n 1, 1) := by decide +kernel
theorem dX8_drop_31 : decode cX8_drop 31 = .ok (.imul, 1) := by decide +kernel
theorem dX8_drop_32 : decode cX8_drop 32 = .ok (.iadd, 1) := by decide +kernel
theorem dX8_drop_33 : decode cX8_drop 33 = .ok (.istore_n 2, 1) := by decide +kernel
theorem dX8_drop_34 : decode cX8_drop 34 = .ok (.iload_n 2, 1) := by decide +kernel
theorem dX8_drop_35 : decode cX8_drop 35 = .ok (.bipush 56, 2) := by decide +kernel
theorem dX8_drop_37 : decode cX8_drop 37 = .ok (.if_icmp .ge 23, 3) := by decide +kernel
theorem dX8_drop_40 : decode cX8_drop 40 = .ok (.aload_n 0, 1) := by decide +kernel
theorem dX8_drop_41 : decode cX8_drop 41 = .ok (.getfield 7, 3) := by decide +kernel
theorem dX8_drop_44 : decode cX8_drop 44 = .ok (.iload_n 2, 1) := by decide +kernel
theorem dX8_drop_45 : decode cX8_drop 45 = .ok (.aload_n 0, 1) := by decide +kernel
theorem dX8_drop_46 : decode cX8_drop 46 = .ok (.getfield 7, 3) := by decide +kernel
theorem dX8_drop_49 : decode cX8_drop 49 = .ok (.iload_n 2, 1) := by decide +kernel
theorem dX8_drop_50 : decode cX8_drop 50 = .ok (.iconst 3, 1) := by decide +kernel
theorem dX8_drop_51 : decode cX8_drop 51 = .ok (.iadd, 1) := by decide +kernel
theorem dX8_drop_52 : decode cX8_drop 52 = .ok (.iaload, 1) := by decide +kernel
theorem dX8_drop_53 : decode cX8_drop 53 = .ok (.iastore, 1) := by decide +kernel
theorem dX8_drop_54 : decode cX8_drop 54 = .ok (.iinc 2 1, 3) := by decide +kernel
theorem dX8_drop_57 : decode cX8_drop 57 = .ok (.goto (-23), 3) := by decide +kernel
theorem dX8_drop_60 : decode cX8_drop 60 = .ok (.aload_n 0, 1) := by decide +kernel
theorem dX8_drop_61 : decode cX8_drop 61 = .ok (.getfield 7, 3) := by decide +kernel
theorem dX8_drop_64 : decode cX8_drop 64 = .ok (.iconst 1, 1) := by decide +kernel
theorem dX8_drop_65 : decode cX8_drop 65 = .ok (.dup2, 1) := by decide +kernel
theorem dX8_drop_66 : decode cX8_drop 66 = .ok (.iaload, 1) := by decide +kernel
theorem dX8_drop_67 : decode cX8_drop 67 = .ok (.iconst 1, 1) := by decide +kernel
theorem dX8_drop_68 : decode cX8_drop 68 = .ok (.isub, 1) := by decide +kernel
theorem dX8_drop_69 : decode cX8_drop 69 = .ok (.iastore, 1) := by decide +kernel
theorem dX8_drop_70 : decode cX8_drop 70 = .ok (.aload_n 0, 1) := by decide +kernel
theorem dX8_drop_71 : decode cX8_drop 71 = .ok (.getfield 7, 3) := by decide +kernel
theorem dX8_drop_74 : decode cX8_drop 74 = .ok (.iconst 1, 1) := by decide +kernel
theorem dX8_drop_75 : decode cX8_drop 75 = .ok (.iaload, 1) := by decide +kernel
theorem dX8_drop_76 : decode cX8_drop 76 = .ok (.ireturn, 1) := by decide +kernel
set_option maxRecDepth 20000 in
theorem ggX8_undo_X8_no : GoodIn wsX8_undo wsX8_no := goodIn_r _ [6, 7, 8, 9, 10, 11, 12, 13, 14, 15, 16, 17, 18, 19, 20, 21, 22, 23, 24, 25] (by decide +kernel) (by decide +kernel)
set_option maxRecDepth 20000 in
theorem gX8_undo_X8_no : GoodIn wsX8_undo (wsV RX8 74 RX8 yX8_no wsX8_no) := goodIn_app (goodIn_of _ (by decide +kernel)) ggX8_undo_X8_no
theorem dX8_undo_0 : decode cX8_undo 0 = .ok (.aload_n 0, 1) := by decide +kernel
theorem dX8_undo_1 : decode cX8_undo 1 = .ok (.getfield 7, 3) := by decide +kernel
theorem dX8_undo_4 : decode cX8_undo 4 = .ok (.iconst 4, 1) := by decide +kernel
theorem dX8_undo_5 : decode cX8_undo 5 = .ok (.iaload, 1) := by decide +kernel
theorem dX8_undo_6 : decode cX8_undo 6 = .ok (.ifCond .ne 8, 3) := by decide +kernel
theorem dX8_undo_9 : decode cX8_undo 9 = .ok (.aload_n 0, 1) := by decide +kernel
theorem dX8_undo_10 : decode cX8_undo 10 = .ok (.invokevirtual 74, 3) := by decide +kernel
theorem dX8_undo_13 : decode cX8_undo 13 = .ok (.ireturn, 1) := by decide +kernel
theorem dX8_undo_14 : decode cX8_undo 14 = .ok (.aload_n 0, 1) := by decide +kernel
theorem dX8_undo_15 : decode cX8_undo 15 = .ok (.getfield 7, 3) := by decide +kernel
theorem dX8_undo_18 : decode cX8_undo 18 = .ok (.iconst 4, 1) := by decide +kernel
theorem dX8_undo_19 : decode cX8_undo 19 = .ok (.dup2, 1) := by decide +kernel
theorem dX8_undo_20 : decode cX8_undo 20 = .ok (.iaload, 1) := by decide +kernel
theorem dX8_undo_21 : decode cX8_undo 21 = .ok (.iconst 1, 1) := by decide +kernel
theorem dX8_undo_22 : decode cX8_undo 22 = .ok (.isub, 1) := by decide +kernel
theorem dX8_undo_23 : decode cX8_undo 23 = .ok (.iastore, 1) := by decide +kernel
theorem dX8_undo_24 : decode cX8_undo 24 = .ok (.sipush 129, 3) := by decide +kernel
theorem dX8_undo_27 : decode cX8_undo 27 = .ok (.bipush 31, 2) := by decide +kernel
theorem dX8_undo_29 : decode cX8_undo 29 = .ok (.aload_n 0, 1) := by decide +kernel
theorem dX8_undo_30 : decode cX8_undo 30 = .ok (.getfield 7, 3) := by decide +kernel
theorem dX8_undo_33 : decode cX8_undo 33 = .ok (.iconst 4, 1) := by decide +kernel
theorem dX8_undo_34 : decode cX8_undo 34 = .ok (.iaload, 1) := by decide +kernel
theorem dX8_undo_35 : decode cX8_undo 35 = .ok (.imul, 1) := by decide +kernel
theorem dX8_undo_36 : decode cX8_undo 36 = .ok (.iadd, 1) := by decide +kernel
theorem dX8_undo_37 : decode cX8_undo 37 = .ok (.istore_n 1, 1) := by decide +kernel
theorem dX8_undo_38 : decode cX8_undo 38 = .ok (.aload_n 0, 1) := by decide +kernel
theorem dX8_undo_39 : decode cX8_undo 39 = .ok (.getfield 7, 3) := by decide +kernel
theorem dX8_undo_42 : decode cX8_undo 42 = .ok (.iconst 1, 1) := by decide +kernel
theorem dX8_undo_43 : decode cX8_undo 43 = .ok (.aload_n 0, 1) := by decide +kernel
theorem dX8_undo_44 : decode cX8_undo 44 = .ok (.getfield 7, 3) := by decide +kernel
theorem dX8_undo_47 : decode cX8_undo 47 = .ok (.iload_n 1, 1) := by decide +kernel
theorem dX8_undo_48 : decode cX8_undo 48 = .ok (.iaload, 1) := by decide +kernel
theorem dX8_undo_49 : decode cX8_undo 49 = .ok (.iastore, 1) := by decide +kernel
theorem dX8_undo_50 : decode cX8_undo 50 = .ok (.iconst 0, 1) := by decide +kernel
theorem dX8_undo_51 : decode cX8_undo 51 = .ok (.istore_n 2, 1) := by decide +kernel
theorem dX8_undo_52 : decode cX8_undo 52 = .ok (.iload_n 2, 1) := by decide +kernel
theorem dX8_undo_53 : decode cX8_undo 53 = .ok (.bipush 30, 2) := by decide +kernel
theorem dX8_undo_55 : decode cX8_undo 55 = .ok (.if_icmp .ge 28, 3) := by decide +kernel
theorem dX8_undo_58 : decode cX8_undo 58 = .ok (.aload_n 0, 1) := by decide +kernel
theorem dX8_undo_59 : decode cX8_undo 59 = .ok (.getfield 7, 3) := by decide +kernel
theorem dX8_undo_62 : decode cX8_undo 62 = .ok (.bipush 29, 2) := by decide +kernel
theorem dX8_undo_64 : decode cX8_undo 64 = .ok (.iload_n 2, 1) := by decide +kernel
theorem dX8_undo_65 : decode cX8_undo 65 = .ok (.iadd, 1) := by decide +kernel
theorem dX8_undo_66 : decode cX8_undo 66 = .ok (.aload_n 0, 1) := by decide +kernel
theorem dX8_undo_67 : decode cX8_undo 67 = .ok (.getfield 7, 3) := by decide +kernel
theorem dX8_undo_70 : decode cX8_undo 70 = .ok (.iload_n 1, 1) := by decide +kernel
theorem dX8_undo_71 : decode cX8_undo 71 = .ok (.iconst 1, 1) := by decide +kernel
theorem dX8_undo_72 : decode cX8_undo 72 = .ok (.iadd, 1) := by decide +kernel
theorem dX8_undo_73 : decode cX8_undo 73 = .ok (.iload_n 2, 1) := by decide +kernel
theorem dX8_undo_74 : decode cX8_undo 74 = .ok (.iadd, 1) := by decide +kernel
theorem dX8_undo_75 : decode cX8_undo 75 = .ok (.iaload, 1) := by decide +kernel
theorem dX8_undo_76 : decode cX8_undo 76 = .ok (.iastore, 1) := by decide +kernel
theorem dX8_undo_77 : decode cX8_undo 77 = .ok (.iinc 2 1, 3) := by decide +kernel
theorem dX8_undo_80 : decode cX8_undo 80 = .ok (.goto (-28), 3) := by decide +kernel
theorem dX8_undo_83 : decode cX8_undo 83 = .ok (.aload_n 0, 1) := by decide +kernel
theorem dX8_undo_84 : decode cX8_undo 84 = .ok (.getfield 7, 3) := by decide +kernel
theorem dX8_undo_87 : decode cX8_undo 87 = .ok (.iconst 1, 1) := by decide +kernel
theorem dX8_undo_88 : decode cX8_undo 88 = .ok (.iaload, 1) := by decide +kernel
theorem dX8_undo_89 : decode cX8_undo 89 = .ok (.ireturn, 1) := by decide +kernel
set_option maxRecDepth 20000 in
theorem ggX8_isStake_X8_isClaim : GoodIn wsX8_isStake wsX8_isClaim := goodIn_r _ [5, 6, 7, 8, 4, 9, 10, 11, 12, 13] (by decide +kernel) (by decide +kernel)
set_option maxRecDepth 20000 in
theorem gX8_isStake_X8_isClaim : GoodIn wsX8_isStake (va_wsS RX8 77 yX8_isClaim wsX8_isClaim) := goodIn_app (goodIn_of _ (by decide +kernel)) ggX8_isStake_X8_isClaim
set_option maxRecDepth 20000 in
theorem ggX8_isStake_X8_in : GoodIn wsX8_isStake wsX8_in := goodIn_r _ [9] (by decide +kernel) (by decide +kernel)
set_option maxRecDepth 20000 in
theorem gX8_isStake_X8_in : GoodIn wsX8_isStake (va_wsS RX8 40 yX8_in wsX8_in) := goodIn_app (goodIn_of _ (by decide +kernel)) ggX8_isStake_X8_in
theorem dX8_isStake_0 : decode cX8_isStake 0 = .ok (.iload_n 0, 1) := by decide +kernel
theorem dX8_isStake_1 : decode cX8_isStake 1 = .ok (.iload_n 1, 1) := by decide +kernel
theorem dX8_isStake_2 : decode cX8_isStake 2 = .ok (.iload_n 2, 1) := by decide +kernel
theorem dX8_isStake_3 : decode cX8_isStake 3 = .ok (.invokestatic 77, 3) := by decide +kernel
theorem dX8_isStake_6 : decode cX8_isStake 6 = .ok (.ifCond .eq 32, 3) := by decide +kernel
theorem dX8_isStake_9 : decode cX8_isStake 9 = .ok (.iload_n 3, 1) := by decide +kernel
theorem dX8_isStake_10 : decode cX8_isStake 10 = .ok (.i2l, 1) := by decide +kernel
theorem dX8_isStake_11 : decode cX8_isStake 11 = .ok (.lconst 1, 1) := by decide +kernel
theorem dX8_isStake_12 : decode cX8_isStake 12 = .ok (.ldc2_w 80, 3) := by decide +kernel
theorem dX8_isStake_15 : decode cX8_isStake 15 = .ok (.invokestatic 40, 3) := by decide +kernel
theorem dX8_isStake_18 : decode cX8_isStake 18 = .ok (.ifCond .eq 20, 3) := by decide +kernel
theorem dX8_isStake_21 : decode cX8_isStake 21 = .ok (.iload 4, 2) := by decide +kernel
theorem dX8_isStake_23 : decode cX8_isStake 23 = .ok (.i2l, 1) := by decide +kernel
theorem dX8_isStake_24 : decode cX8_isStake 24 = .ok (.lconst 0, 1) := by decide +kernel
theorem dX8_isStake_25 : decode cX8_isStake 25 = .ok (.ldc2_w 80, 3) := by decide +kernel
theorem dX8_isStake_28 : decode cX8_isStake 28 = .ok (.invokestatic 40, 3) := by decide +kernel
theorem dX8_isStake_31 : decode cX8_isStake 31 = .ok (.ifCond .eq 7, 3) := by decide +kernel
theorem dX8_isStake_34 : decode cX8_isStake 34 = .ok (.iconst 1, 1) := by decide +kernel
theorem dX8_isStake_35 : decode cX8_isStake 35 = .ok (.goto 4, 3) := by decide +kernel
theorem dX8_isStake_38 : decode cX8_isStake 38 = .ok (.iconst 0, 1) := by decide +kernel
theorem dX8_isStake_39 : decode cX8_isStake 39 = .ok (.ireturn, 1) := by decide +kernel
set_option maxRecDepth 20000 in
theorem ggX8_bet_X8_isStake : GoodIn wsX8_bet wsX8_isStake := goodIn_r _ [5, 6, 7, 8, 4, 9, 10, 11, 12, 13, 14, 15, 16, 17] (by decide +kernel) (by decide +kernel)
set_option maxRecDepth 20000 in
theorem gX8_bet_X8_isStake : GoodIn wsX8_bet (va_wsS RX8 82 yX8_isStake wsX8_isStake) := goodIn_app (goodIn_of _ (by decide +kernel)) ggX8_bet_X8_isStake
set_option maxRecDepth 20000 in
theorem ggX8_bet_X8_bad : GoodIn wsX8_bet wsX8_bad := goodIn_r _ [21, 22, 31, 32, 33, 34, 35, 36, 37, 38, 39, 40, 41, 42, 43, 44, 45, 46, 47, 48] (by decide +kernel) (by decide +kernel)
set_option maxRecDepth 20000 in
theorem gX8_bet_X8_bad : GoodIn wsX8_bet (wsV RX8 54 RX8 yX8_bad wsX8_bad) := goodIn_app (goodIn_of _ (by decide +kernel)) ggX8_bet_X8_bad
set_option maxRecDepth 20000 in
theorem ggX8_bet_X8_full : GoodIn wsX8_bet wsX8_full := goodIn_r _ [26, 22, 31, 32, 33, 34, 35, 36, 37, 38, 39, 40, 41, 42, 43, 44, 45, 46, 47, 48] (by decide +kernel) (by decide +kernel)
set_option maxRecDepth 20000 in
theorem gX8_bet_X8_full : GoodIn wsX8_bet (wsV RX8 58 RX8 yX8_full wsX8_full) := goodIn_app (goodIn_of _ (by decide +kernel)) ggX8_bet_X8_full
set_option maxRecDepth 20000 in
theorem ggX8_bet_X8_adds5 : GoodIn wsX8_bet wsX8_adds5 := goodIn_r _ [30, 1, 31, 32, 33, 34, 35, 36, 37, 38, 39, 40, 41, 42, 43, 44, 45, 46, 47, 48] (by decide +kernel) (by decide +kernel)
set_option maxRecDepth 20000 in
theorem gX8_bet_X8_adds5 : GoodIn wsX8_bet (wsV RX8 86 RX8 yX8_adds5 wsX8_adds5) := goodIn_app (goodIn_of _ (by decide +kernel)) ggX8_bet_X8_adds5
theorem dX8_bet_0 : decode cX8_bet 0 = .ok (.iload_n 1, 1) := by decide +kernel
theorem dX8_bet_1 : decode cX8_bet 1 = .ok (.iload_n 2, 1) := by decide +kernel
theorem dX8_bet_2 : decode cX8_bet 2 = .ok (.iload_n 3, 1) := by decide +kernel
theorem dX8_bet_3 : decode cX8_bet 3 = .ok (.iload 4, 2) := by decide +kernel
theorem dX8_bet_5 : decode cX8_bet 5 = .ok (.iload 5, 2) := by decide +kernel
theorem dX8_bet_7 : decode cX8_bet 7 = .ok (.invokestatic 82, 3) := by decide +kernel
theorem dX8_bet_10 : decode cX8_bet 10 = .ok (.ifCond .ne 8, 3) := by decide +kernel
theorem dX8_bet_13 : decode cX8_bet 13 = .ok (.aload_n 0, 1) := by decide +kernel
theorem dX8_bet_14 : decode cX8_bet 14 = .ok (.invokevirtual 54, 3) := by decide +kernel
theorem dX8_bet_17 : decode cX8_bet 17 = .ok (.ireturn, 1) := by decide +kernel
theorem dX8_bet_18 : decode cX8_bet 18 = .ok (.aload_n 0, 1) := by decide +kernel
theorem dX8_bet_19 : decode cX8_bet 19 = .ok (.getfield 7, 3) := by decide +kernel
theorem dX8_bet_22 : decode cX8_bet 22 = .ok (.iconst 2, 1) := by decide +kernel
theorem dX8_bet_23 : decode cX8_bet 23 = .ok (.iaload, 1) := by decide +kernel
theorem dX8_bet_24 : decode cX8_bet 24 = .ok (.bipush 8, 2) := by decide +kernel
theorem dX8_bet_26 : decode cX8_bet 26 = .ok (.if_icmp .ne 10, 3) := by decide +kernel
theorem dX8_bet_29 : decode cX8_bet 29 = .ok (.aload_n 0, 1) := by decide +kernel
theorem dX8_bet_30 : decode cX8_bet 30 = .ok (.invokevirtual 58, 3) := by decide +kernel
theorem dX8_bet_33 : decode cX8_bet 33 = .ok (.goto 18, 3) := by decide +kernel
theorem dX8_bet_36 : decode cX8_bet 36 = .ok (.aload_n 0, 1) := by decide +kernel
theorem dX8_bet_37 : decode cX8_bet 37 = .ok (.iconst 0, 1) := by decide +kernel
theorem dX8_bet_38 : decode cX8_bet 38 = .ok (.iconst 2, 1) := by decide +kernel
theorem dX8_bet_39 : decode cX8_bet 39 = .ok (.bipush 59, 2) := by decide +kernel
theorem dX8_bet_41 : decode cX8_bet 41 = .ok (.iload_n 1, 1) := by decide +kernel
theorem dX8_bet_42 : decode cX8_bet 42 = .ok (.iload_n 2, 1) := by decide +kernel
theorem dX8_bet_43 : decode cX8_bet 43 = .ok (.iload_n 3, 1) := by decide +kernel
theorem dX8_bet_44 : decode cX8_bet 44 = .ok (.iload 4, 2) := by decide +kernel
theorem dX8_bet_46 : decode cX8_bet 46 = .ok (.iload 5, 2) := by decide +kernel
theorem dX8_bet_48 : decode cX8_bet 48 = .ok (.invokevirtual 86, 3) := by decide +kernel
theorem dX8_bet_51 : decode cX8_bet 51 = .ok (.ireturn, 1) := by decide +kernel
theorem dX8_off_0 : decode cX8_off 0 = .ok (.aload_n 0, 1) := by decide +kernel
theorem dX8_off_1 : decode cX8_off 1 = .ok (.getfield 7, 3) := by decide +kernel
theorem dX8_off_4 : decode cX8_off 4 = .ok (.iconst 2, 1) := by decide +kernel
theorem dX8_off_5 : decode cX8_off 5 = .ok (.iaload, 1) := by decide +kernel
theorem dX8_off_6 : decode cX8_off 6 = .ok (.istore_n 1, 1) := by decide +kernel
theorem dX8_off_7 : decode cX8_off 7 = .ok (.aload_n 0, 1) := by decide +kernel
theorem dX8_off_8 : decode cX8_off 8 = .ok (.getfield 7, 3) := by decide +kernel
theorem dX8_off_11 : decode cX8_off 11 = .ok (.iconst 2, 1) := by decide +kernel
theorem dX8_off_12 : decode cX8_off 12 = .ok (.iconst 0, 1) := by decide +kernel
theorem dX8_off_13 : decode cX8_off 13 = .ok (.iastore, 1) := by decide +kernel
theorem dX8_off_14 : decode cX8_off 14 = .ok (.iload_n 1, 1) := by decide +kernel
theorem dX8_off_15 : decode cX8_off 15 = .ok (.ireturn, 1) := by decide +kernel
set_option maxRecDepth 20000 in
theorem ggX8_type_X8_in : GoodIn wsX8_type wsX8_in := goodIn_r _ [7] (by decide +kernel) (by decide +kernel)
set_option maxRecDepth 20000 in
theorem gX8_type_X8_in : GoodIn wsX8_type (va_wsS RX8 40 yX8_in wsX8_in) := goodIn_app (goodIn_of _ (by decide +kernel)) ggX8_type_X8_in
set_option maxRecDepth 20000 in
theorem ggX8_type_X8_bad : GoodIn wsX8_type wsX8_bad := goodIn_r _ [11, 12, 17, 18, 19, 20, 21, 22, 23, 24, 25, 26, 27, 28, 29, 30, 31, 32, 33, 34] (by decide +kernel) (by decide +kernel)
set_option maxRecDepth 20000 in
theorem gX8_type_X8_bad : GoodIn wsX8_type (wsV RX8 54 RX8 yX8_bad wsX8_bad) := goodIn_app (goodIn_of _ (by decide +kernel)) ggX8_type_X8_bad
set_option maxRecDepth 20000 in
theorem ggX8_type_X8_full : GoodIn wsX8_type wsX8_full := goodIn_r _ [16, 12, 17, 18, 19, 20, 21, 22, 23, 24, 25, 26, 27, 28, 29, 30, 31, 32, 33, 34] (by decide +kernel) (by decide +kernel)
set_option maxRecDepth 20000 in
theorem gX8_type_X8_full : GoodIn wsX8_type (wsV RX8 58 RX8 yX8_full wsX8_full) := goodIn_app (goodIn_of _ (by decide +kernel)) ggX8_type_X8_full
theorem dX8_type_0 : decode cX8_type 0 = .ok (.iload_n 1, 1) := by decide +kernel
theorem dX8_type_1 : decode cX8_type 1 = .ok (.i2l, 1) := by decide +kernel
theorem dX8_type_2 : decode cX8_type 2 = .ok (.lconst 0, 1) := by decide +kernel
theorem dX8_type_3 : decode cX8_type 3 = .ok (.ldc2_w 50, 3) := by decide +kernel
theorem dX8_type_6 : decode cX8_type 6 = .ok (.invokestatic 40, 3) := by decide +kernel
theorem dX8_type_9 : decode cX8_type 9 = .ok (.ifCond .ne 8, 3) := by decide +kernel
theorem dX8_type_12 : decode cX8_type 12 = .ok (.aload_n 0, 1) := by decide +kernel
theorem dX8_type_13 : decode cX8_type 13 = .ok (.invokevirtual 54, 3) := by decide +kernel
theorem dX8_type_16 : decode cX8_type 16 = .ok (.ireturn, 1) := by decide +kernel
theorem dX8_type_17 : decode cX8_type 17 = .ok (.aload_n 0, 1) := by decide +kernel
theorem dX8_type_18 : decode cX8_type 18 = .ok (.getfield 90, 3) := by decide +kernel
theorem dX8_type_21 : decode cX8_type 21 = .ok (.sipush 150, 3) := by decide +kernel
theorem dX8_type_24 : decode cX8_type 24 = .ok (.if_icmp .ne 8, 3) := by decide +kernel
theorem dX8_type_27 : decode cX8_type 27 = .ok (.aload_n 0, 1) := by decide +kernel
theorem dX8_type_28 : decode cX8_type 28 = .ok (.invokevirtual 58, 3) := by decide +kernel
theorem dX8_type_31 : decode cX8_type 31 = .ok (.ireturn, 1) := by decide +kernel
theorem dX8_type_32 : decode cX8_type 32 = .ok (.aload_n 0, 1) := by decide +kernel
theorem dX8_type_33 : decode cX8_type 33 = .ok (.getfield 17, 3) := by decide +kernel
theorem dX8_type_36 : decode cX8_type 36 = .ok (.aload_n 0, 1) := by decide +kernel
theorem dX8_type_37 : decode cX8_type 37 = .ok (.getfield 90, 3) := by decide +kernel
theorem dX8_type_40 : decode cX8_type 40 = .ok (.iload_n 1, 1) := by decide +kernel
theorem dX8_type_41 : decode cX8_type 41 = .ok (.iastore, 1) := by decide +kernel
theorem dX8_type_42 : decode cX8_type 42 = .ok (.aload_n 0, 1) := by decide +kernel
theorem dX8_type_43 : decode cX8_type 43 = .ok (.dup, 1) := by decide +kernel
theorem dX8_type_44 : decode cX8_type 44 = .ok (.getfield 90, 3) := by decide +kernel
theorem dX8_type_47 : decode cX8_type 47 = .ok (.iconst 1, 1) := by decide +kernel
theorem dX8_type_48 : decode cX8_type 48 = .ok (.iadd, 1) := by decide +kernel
theorem dX8_type_49 : decode cX8_type 49 = .ok (.putfield 90, 3) := by decide +kernel
theorem dX8_type_52 : decode cX8_type 52 = .ok (.aload_n 0, 1) := by decide +kernel
theorem dX8_type_53 : decode cX8_type 53 = .ok (.getfield 90, 3) := by decide +kernel
theorem dX8_type_56 : decode cX8_type 56 = .ok (.ireturn, 1) := by decide +kernel
theorem dX8_clear_0 : decode cX8_clear 0 = .ok (.aload_n 0, 1) := by decide +kernel
theorem dX8_clear_1 : decode cX8_clear 1 = .ok (.getfield 90, 3) := by decide +kernel
theorem dX8_clear_4 : decode cX8_clear 4 = .ok (.istore_n 1, 1) := by decide +kernel
theorem dX8_clear_5 : decode cX8_clear 5 = .ok (.aload_n 0, 1) := by decide +kernel
theorem dX8_clear_6 : decode cX8_clear 6 = .ok (.iconst 0, 1) := by decide +kernel
theorem dX8_clear_7 : decode cX8_clear 7 = .ok (.putfield 90, 3) := by decide +kernel
theorem dX8_clear_10 : decode cX8_clear 10 = .ok (.iload_n 1, 1) := by decide +kernel
theorem dX8_clear_11 : decode cX8_clear 11 = .ok (.ireturn, 1) := by decide +kernel
theorem dX8_byteAt_0 : decode cX8_byteAt 0 = .ok (.iload_n 1, 1) := by decide +kernel
theorem dX8_byteAt_1 : decode cX8_byteAt 1 = .ok (.aload_n 0, 1) := by decide +kernel
theorem dX8_byteAt_2 : decode cX8_byteAt 2 = .ok (.getfield 90, 3) := by decide +kernel
theorem dX8_byteAt_5 : decode cX8_byteAt 5 = .ok (.if_icmp .ge 12, 3) := by decide +kernel
theorem dX8_byteAt_8 : decode cX8_byteAt 8 = .ok (.aload_n 0, 1) := by decide +kernel
theorem dX8_byteAt_9 : decode cX8_byteAt 9 = .ok (.getfield 17, 3) := by decide +kernel
theorem dX8_byteAt_12 : decode cX8_byteAt 12 = .ok (.iload_n 1, 1) := by decide +kernel
theorem dX8_byteAt_13 : decode cX8_byteAt 13 = .ok (.iaload, 1) := by decide +kernel
theorem dX8_byteAt_14 : decode cX8_byteAt 14 = .ok (.goto 4, 3) := by decide +kernel
theorem dX8_byteAt_17 : decode cX8_byteAt 17 = .ok (.iconst (-1), 1) := by decide +kernel
theorem dX8_byteAt_18 : decode cX8_byteAt 18 = .ok (.ireturn, 1) := by decide +kernel
set_option maxRecDepth 20000 in
theorem ggX8_token_X8_byteAt : GoodIn wsX8_token wsX8_byteAt := goodIn_r _ [14, 9, 15, 19, 20, 21, 22, 23, 24, 25, 26, 27, 28, 29, 30, 31, 32, 33, 34, 35, 36] (by decide +kernel) (by decide +kernel)
set_option maxRecDepth 20000 in
theorem gX8_token_X8_byteAt : GoodIn wsX8_token (wsV RX8 97 RX8 yX8_byteAt wsX8_byteAt) := goodIn_app (goodIn_of _ (by decide +kernel)) ggX8_token_X8_byteAt
set_option maxRecDepth 20000 in
theorem ggX8_token_X8_in : GoodIn wsX8_token wsX8_in := goodIn_r _ [18] (by decide +kernel) (by decide +kernel)
set_option maxRecDepth 20000 in
theorem gX8_token_X8_in : GoodIn wsX8_token (va_wsS RX8 40 yX8_in wsX8_in) := goodIn_app (goodIn_of _ (by decide +kernel)) ggX8_token_X8_in
theorem dX8_token_0 : decode cX8_token 0 = .ok (.aload_n 0, 1) := by decide +kernel
theorem dX8_token_1 : decode cX8_token 1 = .ok (.aload_n 0, 1) := by decide +kernel
theorem dX8_token_2 : decode cX8_token 2 = .ok (.getfield 94, 3) := by decide +kernel
theorem dX8_token_5 : decode cX8_token 5 = .ok (.invokevirtual 97, 3) := by decide +kernel
theorem dX8_token_8 : decode cX8_token 8 = .ok (.bipush 32, 2) := by decide +kernel
theorem dX8_token_10 : decode cX8_token 10 = .ok (.if_icmp .ne 16, 3) := by decide +kernel
theorem dX8_token_13 : decode cX8_token 13 = .ok (.aload_n 0, 1) := by decide +kernel
theorem dX8_token_14 : decode cX8_token 14 = .ok (.dup, 1) := by decide +kernel
theorem dX8_token_15 : decode cX8_token 15 = .ok (.getfield 94, 3) := by decide +kernel
theorem dX8_token_18 : decode cX8_token 18 = .ok (.iconst 1, 1) := by decide +kernel
theorem dX8_token_19 : decode cX8_token 19 = .ok (.iadd, 1) := by decide +kernel
theorem dX8_token_20 : decode cX8_token 20 = .ok (.putfield 94, 3) := by decide +kernel
theorem dX8_token_23 : decode cX8_token 23 = .ok (.goto (-23), 3) := by decide +kernel
theorem dX8_token_26 : decode cX8_token 26 = .ok (.aload_n 0, 1) := by decide +kernel
theorem dX8_token_27 : decode cX8_token 27 = .ok (.aload_n 0, 1) := by decide +kernel
theorem dX8_token_28 : decode cX8_token 28 = .ok (.getfield 94, 3) := by decide +kernel
theorem dX8_token_31 : decode cX8_token 31 = .ok (.putfield 101, 3) := by decide +kernel
theorem dX8_token_34 : decode cX8_token 34 = .ok (.aload_n 0, 1) := by decide +kernel
theorem dX8_token_35 : decode cX8_token 35 = .ok (.aload_n 0, 1) := by decide +kernel
theorem dX8_token_36 : decode cX8_token 36 = .ok (.aload_n 0, 1) := by decide +kernel
theorem dX8_token_37 : decode cX8_token 37 = .ok (.getfield 94, 3) := by decide +kernel
theorem dX8_token_40 : decode cX8_token 40 = .ok (.invokevirtual 97, 3) := by decide +kernel
theorem dX8_token_43 : decode cX8_token 43 = .ok (.i2l, 1) := by decide +kernel
theorem dX8_token_44 : decode cX8_token 44 = .ok (.ldc2_w 104, 3) := by decide +kernel
theorem dX8_token_47 : decode cX8_token 47 = .ok (.ldc2_w 106, 3) := by decide +kernel
theorem dX8_token_50 : decode cX8_token 50 = .ok (.invokestatic 40, 3) := by decide +kernel
theorem dX8_token_53 : decode cX8_token 53 = .ok (.putfield 108, 3) := by decide +kernel
theorem dX8_token_56 : decode cX8_token 56 = .ok (.aload_n 0, 1) := by decide +kernel
theorem dX8_token_57 : decode cX8_token 57 = .ok (.aload_n 0, 1) := by decide +kernel
theorem dX8_token_58 : decode cX8_token 58 = .ok (.aload_n 0, 1) := by decide +kernel
theorem dX8_token_59 : decode cX8_token 59 = .ok (.getfield 94, 3) := by decide +kernel
theorem dX8_token_62 : decode cX8_token 62 = .ok (.invokevirtual 97, 3) := by decide +kernel
theorem dX8_token_65 : decode cX8_token 65 = .ok (.i2l, 1) := by decide +kernel
theorem dX8_token_66 : decode cX8_token 66 = .ok (.ldc2_w 112, 3) := by decide +kernel
theorem dX8_token_69 : decode cX8_token 69 = .ok (.ldc2_w 114, 3) := by decide +kernel
theorem dX8_token_72 : decode cX8_token 72 = .ok (.invokestatic 40, 3) := by decide +kernel
theorem dX8_token_75 : decode cX8_token 75 = .ok (.putfield 116, 3) := by decide +kernel
theorem dX8_token_78 : decode cX8_token 78 = .ok (.aload_n 0, 1) := by decide +kernel
theorem dX8_token_79 : decode cX8_token 79 = .ok (.dup, 1) := by decide +kernel
theorem dX8_token_80 : decode cX8_token 80 = .ok (.getfield 94, 3) := by decide +kernel
theorem dX8_token_83 : decode cX8_token 83 = .ok (.aload_n 0, 1) := by decide +kernel
theorem dX8_token_84 : decode cX8_token 84 = .ok (.getfield 94, 3) := by decide +kernel
theorem dX8_token_87 : decode cX8_token 87 = .ok (.aload_n 0, 1) := by decide +kernel
theorem dX8_token_88 : decode cX8_token 88 = .ok (.getfield 90, 3) := by decide +kernel
theorem dX8_token_91 : decode cX8_token 91 = .ok (.if_icmp .ge 7, 3) := by decide +kernel
theorem dX8_token_94 : decode cX8_token 94 = .ok (.iconst 1, 1) := by decide +kernel
theorem dX8_token_95 : decode cX8_token 95 = .ok (.goto 4, 3) := by decide +kernel
theorem dX8_token_98 : decode cX8_token 98 = .ok (.iconst 0, 1) := by decide +kernel
theorem dX8_token_99 : decode cX8_token 99 = .ok (.iadd, 1) := by decide +kernel
theorem dX8_token_100 : decode cX8_token 100 = .ok (.putfield 94, 3) := by decide +kernel
theorem dX8_token_103 : decode cX8_token 103 = .ok (.aload_n 0, 1) := by decide +kernel
theorem dX8_token_104 : decode cX8_token 104 = .ok (.getfield 108, 3) := by decide +kernel
theorem dX8_token_107 : decode cX8_token 107 = .ok (.ifCond .eq 24, 3) := by decide +kernel
theorem dX8_token_110 : decode cX8_token 110 = .ok (.aload_n 0, 1) := by decide +kernel
theorem dX8_token_111 : decode cX8_token 111 = .ok (.aload_n 0, 1) := by decide +kernel
theorem dX8_token_112 : decode cX8_token 112 = .ok (.getfield 94, 3) := by decide +kernel
theorem dX8_token_115 : decode cX8_token 115 = .ok (.invokevirtual 97, 3) := by decide +kernel
theorem dX8_token_118 : decode cX8_token 118 = .ok (.i2l, 1) := by decide +kernel
theorem dX8_token_119 : decode cX8_token 119 = .ok (.ldc2_w 104, 3) := by decide +kernel
theorem dX8_token_122 : decode cX8_token 122 = .ok (.ldc2_w 106, 3) := by decide +kernel
theorem dX8_token_125 : decode cX8_token 125 = .ok (.invokestatic 40, 3) := by decide +kernel
theorem dX8_token_128 : decode cX8_token 128 = .ok (.ifCond .ne 31, 3) := by decide +kernel
theorem dX8_token_131 : decode cX8_token 131 = .ok (.aload_n 0, 1) := by decide +kernel
theorem dX8_token_132 : decode cX8_token 132 = .ok (.getfield 116, 3) := by decide +kernel
theorem dX8_token_135 : decode cX8_token 135 = .ok (.ifCond .eq 37, 3) := by decide +kernel
theorem dX8_token_138 : decode cX8_token 138 = .ok (.aload_n 0, 1) := by decide +kernel
theorem dX8_token_139 : decode cX8_token 139 = .ok (.aload_n 0, 1) := by decide +kernel
theorem dX8_token_140 : decode cX8_token 140 = .ok (.getfield 94, 3) := by decide +kernel
theorem dX8_token_143 : decode cX8_token 143 = .ok (.invokevirtual 97, 3) := by decide +kernel
theorem dX8_token_146 : decode cX8_token 146 = .ok (.i2l, 1) := by decide +kernel
theorem dX8_token_147 : decode cX8_token 147 = .ok (.ldc2_w 112, 3) := by decide +kernel
theorem dX8_token_150 : decode cX8_token 150 = .ok (.ldc2_w 114, 3) := by decide +kernel
theorem dX8_token_153 : decode cX8_token 153 = .ok (.invokestatic 40, 3) := by decide +kernel
theorem dX8_token_156 : decode cX8_token 156 = .ok (.ifCond .eq 16, 3) := by decide +kernel
theorem dX8_token_159 : decode cX8_token 159 = .ok (.aload_n 0, 1) := by decide +kernel
theorem dX8_token_160 : decode cX8_token 160 = .ok (.dup, 1) := by decide +kernel
theorem dX8_token_161 : decode cX8_token 161 = .ok (.getfield 94, 3) := by decide +kernel
theorem dX8_token_164 : decode cX8_token 164 = .ok (.iconst 1, 1) := by decide +kernel
theorem dX8_token_165 : decode cX8_token 165 = .ok (.iadd, 1) := by decide +kernel
theorem dX8_token_166 : decode cX8_token 166 = .ok (.putfield 94, 3) := by decide +kernel
theorem dX8_token_169 : decode cX8_token 169 = .ok (.goto (-66), 3) := by decide +kernel
theorem dX8_token_172 : decode cX8_token 172 = .ok (.return_, 1) := by decide +kernel
set_option maxRecDepth 20000 in
theorem ggX8_isNamed_X8_byteAt : GoodIn wsX8_isNamed wsX8_byteAt := goodIn_r _ [8, 9, 10, 11, 12, 13, 14, 15, 16, 17, 18, 19, 20, 21, 22, 23, 24, 25, 26, 27, 28] (by decide +kernel) (by decide +kernel)
set_option maxRecDepth 20000 in
theorem gX8_isNamed_X8_byteAt : GoodIn wsX8_isNamed (wsV RX8 97 RX8 yX8_byteAt wsX8_byteAt) := goodIn_app (goodIn_of _ (by decide +kernel)) ggX8_isNamed_X8_byteAt
theorem dX8_isNamed_0 : decode cX8_isNamed 0 = .ok (.aload_n 0, 1) := by decide +kernel
theorem dX8_isNamed_1 : decode cX8_isNamed 1 = .ok (.getfield 108, 3) := by decide +kernel
theorem dX8_isNamed_4 : decode cX8_isNamed 4 = .ok (.ifCond .eq 29, 3) := by decide +kernel
theorem dX8_isNamed_7 : decode cX8_isNamed 7 = .ok (.aload_n 0, 1) := by decide +kernel
theorem dX8_isNamed_8 : decode cX8_isNamed 8 = .ok (.getfield 94, 3) := by decide +kernel
theorem dX8_isNamed_11 : decode cX8_isNamed 11 = .ok (.aload_n 0, 1) := by decide +kernel
theorem dX8_isNamed_12 : decode cX8_isNamed 12 = .ok (.getfield 101, 3) := by decide +kernel
theorem dX8_isNamed_15 : decode cX8_isNamed 15 = .ok (.isub, 1) := by decide +kernel
theorem dX8_isNamed_16 : decode cX8_isNamed 16 = .ok (.iload 4, 2) := by decide +kernel
theorem dX8_isNamed_18 : decode cX8_isNamed 18 = .ok (.ifCond .ne 7, 3) := by decide +kernel
theorem dX8_isNamed_21 : decode cX8_isNamed 21 = .ok (.iconst 3, 1) := by decide +kernel
theorem dX8_isNamed_22 : decode cX8_isNamed 22 = .ok (.goto 4, 3) := by decide +kernel
theorem dX8_isNamed_25 : decode cX8_isNamed 25 = .ok (.iconst 4, 1) := by decide +kernel
theorem dX8_isNamed_26 : decode cX8_isNamed 26 = .ok (.if_icmp .ne 7, 3) := by decide +kernel
theorem dX8_isNamed_29 : decode cX8_isNamed 29 = .ok (.iconst 1, 1) := by decide +kernel
theorem dX8_isNamed_30 : decode cX8_isNamed 30 = .ok (.goto 4, 3) := by decide +kernel
theorem dX8_isNamed_33 : decode cX8_isNamed 33 = .ok (.iconst 0, 1) := by decide +kernel
theorem dX8_isNamed_34 : decode cX8_isNamed 34 = .ok (.istore 5, 2) := by decide +kernel
theorem dX8_isNamed_36 : decode cX8_isNamed 36 = .ok (.iload 5, 2) := by decide +kernel
theorem dX8_isNamed_38 : decode cX8_isNamed 38 = .ok (.ifCond .eq 67, 3) := by decide +kernel
theorem dX8_isNamed_41 : decode cX8_isNamed 41 = .ok (.aload_n 0, 1) := by decide +kernel
theorem dX8_isNamed_42 : decode cX8_isNamed 42 = .ok (.aload_n 0, 1) := by decide +kernel
theorem dX8_isNamed_43 : decode cX8_isNamed 43 = .ok (.getfield 101, 3) := by decide +kernel
theorem dX8_isNamed_46 : decode cX8_isNamed 46 = .ok (.invokevirtual 97, 3) := by decide +kernel
theorem dX8_isNamed_49 : decode cX8_isNamed 49 = .ok (.iload_n 1, 1) := by decide +kernel
theorem dX8_isNamed_50 : decode cX8_isNamed 50 = .ok (.if_icmp .ne 55, 3) := by decide +kernel
theorem dX8_isNamed_53 : decode cX8_isNamed 53 = .ok (.aload_n 0, 1) := by decide +kernel
theorem dX8_isNamed_54 : decode cX8_isNamed 54 = .ok (.aload_n 0, 1) := by decide +kernel
theorem dX8_isNamed_55 : decode cX8_isNamed 55 = .ok (.getfield 101, 3) := by decide +kernel
theorem dX8_isNamed_58 : decode cX8_isNamed 58 = .ok (.iconst 1, 1) := by decide +kernel
theorem dX8_isNamed_59 : decode cX8_isNamed 59 = .ok (.iadd, 1) := by decide +kernel
theorem dX8_isNamed_60 : decode cX8_isNamed 60 = .ok (.invokevirtual 97, 3) := by decide +kernel
theorem dX8_isNamed_63 : decode cX8_isNamed 63 = .ok (.iload_n 2, 1) := by decide +kernel
theorem dX8_isNamed_64 : decode cX8_isNamed 64 = .ok (.if_icmp .ne 41, 3) := by decide +kernel
theorem dX8_isNamed_67 : decode cX8_isNamed 67 = .ok (.aload_n 0, 1) := by decide +kernel
theorem dX8_isNamed_68 : decode cX8_isNamed 68 = .ok (.aload_n 0, 1) := by decide +kernel
theorem dX8_isNamed_69 : decode cX8_isNamed 69 = .ok (.getfield 101, 3) := by decide +kernel
theorem dX8_isNamed_72 : decode cX8_isNamed 72 = .ok (.iconst 2, 1) := by decide +kernel
theorem dX8_isNamed_73 : decode cX8_isNamed 73 = .ok (.iadd, 1) := by decide +kernel
theorem dX8_isNamed_74 : decode cX8_isNamed 74 = .ok (.invokevirtual 97, 3) := by decide +kernel
theorem dX8_isNamed_77 : decode cX8_isNamed 77 = .ok (.iload_n 3, 1) := by decide +kernel
theorem dX8_isNamed_78 : decode cX8_isNamed 78 = .ok (.if_icmp .ne 27, 3) := by decide +kernel
theorem dX8_isNamed_81 : decode cX8_isNamed 81 = .ok (.iload 4, 2) := by decide +kernel
theorem dX8_isNamed_83 : decode cX8_isNamed 83 = .ok (.ifCond .eq 18, 3) := by decide +kernel
theorem dX8_isNamed_86 : decode cX8_isNamed 86 = .ok (.aload_n 0, 1) := by decide +kernel
theorem dX8_isNamed_87 : decode cX8_isNamed 87 = .ok (.aload_n 0, 1) := by decide +kernel
theorem dX8_isNamed_88 : decode cX8_isNamed 88 = .ok (.getfield 101, 3) := by decide +kernel
theorem dX8_isNamed_91 : decode cX8_isNamed 91 = .ok (.iconst 3, 1) := by decide +kernel
theorem dX8_isNamed_92 : decode cX8_isNamed 92 = .ok (.iadd, 1) := by decide +kernel
theorem dX8_isNamed_93 : decode cX8_isNamed 93 = .ok (.invokevirtual 97, 3) := by decide +kernel
theorem dX8_isNamed_96 : decode cX8_isNamed 96 = .ok (.iload 4, 2) := by decide +kernel
theorem dX8_isNamed_98 : decode cX8_isNamed 98 = .ok (.if_icmp .ne 7, 3) := by decide +kernel
theorem dX8_isNamed_101 : decode cX8_isNamed 101 = .ok (.iconst 1, 1) := by decide +kernel
theorem dX8_isNamed_102 : decode cX8_isNamed 102 = .ok (.goto 4, 3) := by decide +kernel
theorem dX8_isNamed_105 : decode cX8_isNamed 105 = .ok (.iconst 0, 1) := by decide +kernel
theorem dX8_isNamed_106 : decode cX8_isNamed 106 = .ok (.ireturn, 1) := by decide +kernel
set_option maxRecDepth 20000 in
theorem ggX8_wordNow_X8_isNamed : GoodIn wsX8_wordNow wsX8_isNamed := goodIn_r _ [5, 6, 7, 8, 9, 10, 11, 4, 12, 13, 14, 15, 16, 17, 18, 19, 20, 21, 22, 23, 24, 25, 26, 27, 28, 29, 30, 31, 32] (by decide +kernel) (by decide +kernel)
set_option maxRecDepth 20000 in
theorem gX8_wordNow_X8_isNamed : GoodIn wsX8_wordNow (wsV RX8 119 RX8 yX8_isNamed wsX8_isNamed) := goodIn_app (goodIn_of _ (by decide +kernel)) ggX8_wordNow_X8_isNamed
theorem dX8_wordNow_0 : decode cX8_wordNow 0 = .ok (.aload_n 0, 1) := by decide +kernel
theorem dX8_wordNow_1 : decode cX8_wordNow 1 = .ok (.bipush 112, 2) := by decide +kernel
theorem dX8_wordNow_3 : decode cX8_wordNow 3 = .ok (.bipush 97, 2) := by decide +kernel
theorem dX8_wordNow_5 : decode cX8_wordNow 5 = .ok (.bipush 115, 2) := by decide +kernel
theorem dX8_wordNow_7 : decode cX8_wordNow 7 = .ok (.bipush 116, 2) := by decide +kernel
theorem dX8_wordNow_9 : decode cX8_wordNow 9 = .ok (.invokevirtual 119, 3) := by decide +kernel
theorem dX8_wordNow_12 : decode cX8_wordNow 12 = .ok (.ifCond .eq 5, 3) := by decide +kernel
theorem dX8_wordNow_15 : decode cX8_wordNow 15 = .ok (.iconst 0, 1) := by decide +kernel
theorem dX8_wordNow_16 : decode cX8_wordNow 16 = .ok (.ireturn, 1) := by decide +kernel
theorem dX8_wordNow_17 : decode cX8_wordNow 17 = .ok (.aload_n 0, 1) := by decide +kernel
theorem dX8_wordNow_18 : decode cX8_wordNow 18 = .ok (.bipush 114, 2) := by decide +kernel
theorem dX8_wordNow_20 : decode cX8_wordNow 20 = .ok (.bipush 117, 2) := by decide +kernel
theorem dX8_wordNow_22 : decode cX8_wordNow 22 = .ok (.bipush 108, 2) := by decide +kernel
theorem dX8_wordNow_24 : decode cX8_wordNow 24 = .ok (.bipush 101, 2) := by decide +kernel
theorem dX8_wordNow_26 : decode cX8_wordNow 26 = .ok (.invokevirtual 119, 3) := by decide +kernel
theorem dX8_wordNow_29 : decode cX8_wordNow 29 = .ok (.ifCond .eq 5, 3) := by decide +kernel
theorem dX8_wordNow_32 : decode cX8_wordNow 32 = .ok (.iconst 1, 1) := by decide +kernel
theorem dX8_wordNow_33 : decode cX8_wordNow 33 = .ok (.ireturn, 1) := by decide +kernel
theorem dX8_wordNow_34 : decode cX8_wordNow 34 = .ok (.aload_n 0, 1) := by decide +kernel
theorem dX8_wordNow_35 : decode cX8_wordNow 35 = .ok (.bipush 102, 2) := by decide +kernel
theorem dX8_wordNow_37 : decode cX8_wordNow 37 = .ok (.bipush 105, 2) := by decide +kernel
theorem dX8_wordNow_39 : decode cX8_wordNow 39 = .ok (.bipush 110, 2) := by decide +kernel
theorem dX8_wordNow_41 : decode cX8_wordNow 41 = .ok (.bipush 100, 2) := by decide +kernel
theorem dX8_wordNow_43 : decode cX8_wordNow 43 = .ok (.invokevirtual 119, 3) := by decide +kernel
theorem dX8_wordNow_46 : decode cX8_wordNow 46 = .ok (.ifCond .eq 7, 3) := by decide +kernel
theorem dX8_wordNow_49 : decode cX8_wordNow 49 = .ok (.iconst 2, 1) := by decide +kernel
theorem dX8_wordNow_50 : decode cX8_wordNow 50 = .ok (.goto 22, 3) := by decide +kernel
theorem dX8_wordNow_53 : decode cX8_wordNow 53 = .ok (.aload_n 0, 1) := by decide +kernel
theorem dX8_wordNow_54 : decode cX8_wordNow 54 = .ok (.bipush 98, 2) := by decide +kernel
theorem dX8_wordNow_56 : decode cX8_wordNow 56 = .ok (.bipush 101, 2) := by decide +kernel
theorem dX8_wordNow_58 : decode cX8_wordNow 58 = .ok (.bipush 116, 2) := by decide +kernel
theorem dX8_wordNow_60 : decode cX8_wordNow 60 = .ok (.iconst 0, 1) := by decide +kernel
theorem dX8_wordNow_61 : decode cX8_wordNow 61 = .ok (.invokevirtual 119, 3) := by decide +kernel
theorem dX8_wordNow_64 : decode cX8_wordNow 64 = .ok (.ifCond .eq 7, 3) := by decide +kernel
theorem dX8_wordNow_67 : decode cX8_wordNow 67 = .ok (.iconst 3, 1) := by decide +kernel
theorem dX8_wordNow_68 : decode cX8_wordNow 68 = .ok (.goto 4, 3) := by decide +kernel
theorem dX8_wordNow_71 : decode cX8_wordNow 71 = .ok (.iconst (-1), 1) := by decide +kernel
theorem dX8_wordNow_72 : decode cX8_wordNow 72 = .ok (.ireturn, 1) := by decide +kernel
set_option maxRecDepth 20000 in
theorem ggX8_takes_X8_token : GoodIn wsX8_takes wsX8_token := goodIn_r _ [9, 2, 3, 10, 11, 12, 13, 14, 1, 15, 16, 17, 18, 8, 19, 20, 21, 22, 23, 24, 25, 26, 27, 28, 29, 30, 31, 32, 33, 34, 35, 36, 37, 38, 39, 40, 41] (by decide +kernel) (by decide +kernel)
set_option maxRecDepth 20000 in
theorem gX8_takes_X8_token : GoodIn wsX8_takes (wsV RX8 123 RX8 yX8_token wsX8_token) := goodIn_app (goodIn_of _ (by decide +kernel)) ggX8_takes_X8_token
set_option maxRecDepth 20000 in
theorem ggX8_takes_X8_byteAt : GoodIn wsX8_takes wsX8_byteAt := goodIn_r _ [19, 15, 20, 24, 25, 26, 27, 28, 29, 30, 31, 32, 33, 34, 35, 36, 37, 38, 39, 40, 41] (by decide +kernel) (by decide +kernel)
set_option maxRecDepth 20000 in
theorem gX8_takes_X8_byteAt : GoodIn wsX8_takes (wsV RX8 97 RX8 yX8_byteAt wsX8_byteAt) := goodIn_app (goodIn_of _ (by decide +kernel)) ggX8_takes_X8_byteAt
set_option maxRecDepth 20000 in
theorem ggX8_takes_X8_in : GoodIn wsX8_takes wsX8_in := goodIn_r _ [23] (by decide +kernel) (by decide +kernel)
set_option maxRecDepth 20000 in
theorem gX8_takes_X8_in : GoodIn wsX8_takes (va_wsS RX8 40 yX8_in wsX8_in) := goodIn_app (goodIn_of _ (by decide +kernel)) ggX8_takes_X8_in
theorem dX8_takes_0 : decode cX8_takes 0 = .ok (.aload_n 0, 1) := by decide +kernel
theorem dX8_takes_1 : decode cX8_takes 1 = .ok (.invokevirtual 123, 3) := by decide +kernel
theorem dX8_takes_4 : decode cX8_takes 4 = .ok (.aload_n 0, 1) := by decide +kernel
theorem dX8_takes_5 : decode cX8_takes 5 = .ok (.getfield 116, 3) := by decide +kernel
theorem dX8_takes_8 : decode cX8_takes 8 = .ok (.ifCond .eq 16, 3) := by decide +kernel
theorem dX8_takes_11 : decode cX8_takes 11 = .ok (.aload_n 0, 1) := by decide +kernel
theorem dX8_takes_12 : decode cX8_takes 12 = .ok (.getfield 94, 3) := by decide +kernel
theorem dX8_takes_15 : decode cX8_takes 15 = .ok (.aload_n 0, 1) := by decide +kernel
theorem dX8_takes_16 : decode cX8_takes 16 = .ok (.getfield 101, 3) := by decide +kernel
theorem dX8_takes_19 : decode cX8_takes 19 = .ok (.isub, 1) := by decide +kernel
theorem dX8_takes_20 : decode cX8_takes 20 = .ok (.iconst 2, 1) := by decide +kernel
theorem dX8_takes_21 : decode cX8_takes 21 = .ok (.if_icmp .le 5, 3) := by decide +kernel
theorem dX8_takes_24 : decode cX8_takes 24 = .ok (.iconst 0, 1) := by decide +kernel
theorem dX8_takes_25 : decode cX8_takes 25 = .ok (.ireturn, 1) := by decide +kernel
theorem dX8_takes_26 : decode cX8_takes 26 = .ok (.iconst 0, 1) := by decide +kernel
theorem dX8_takes_27 : decode cX8_takes 27 = .ok (.istore 4, 2) := by decide +kernel
theorem dX8_takes_29 : decode cX8_takes 29 = .ok (.aload_n 0, 1) := by decide +kernel
theorem dX8_takes_30 : decode cX8_takes 30 = .ok (.getfield 101, 3) := by decide +kernel
theorem dX8_takes_33 : decode cX8_takes 33 = .ok (.istore 5, 2) := by decide +kernel
theorem dX8_takes_35 : decode cX8_takes 35 = .ok (.iload 5, 2) := by decide +kernel
theorem dX8_takes_37 : decode cX8_takes 37 = .ok (.aload_n 0, 1) := by decide +kernel
theorem dX8_takes_38 : decode cX8_takes 38 = .ok (.getfield 94, 3) := by decide +kernel
theorem dX8_takes_41 : decode cX8_takes 41 = .ok (.if_icmp .ge 26, 3) := by decide +kernel
theorem dX8_takes_44 : decode cX8_takes 44 = .ok (.bipush 10, 2) := by decide +kernel
theorem dX8_takes_46 : decode cX8_takes 46 = .ok (.iload 4, 2) := by decide +kernel
theorem dX8_takes_48 : decode cX8_takes 48 = .ok (.imul, 1) := by decide +kernel
theorem dX8_takes_49 : decode cX8_takes 49 = .ok (.aload_n 0, 1) := by decide +kernel
theorem dX8_takes_50 : decode cX8_takes 50 = .ok (.iload 5, 2) := by decide +kernel
theorem dX8_takes_52 : decode cX8_takes 52 = .ok (.invokevirtual 97, 3) := by decide +kernel
theorem dX8_takes_55 : decode cX8_takes 55 = .ok (.iadd, 1) := by decide +kernel
theorem dX8_takes_56 : decode cX8_takes 56 = .ok (.bipush 48, 2) := by decide +kernel
theorem dX8_takes_58 : decode cX8_takes 58 = .ok (.isub, 1) := by decide +kernel
theorem dX8_takes_59 : decode cX8_takes 59 = .ok (.istore 4, 2) := by decide +kernel
theorem dX8_takes_61 : decode cX8_takes 61 = .ok (.iinc 5 1, 3) := by decide +kernel
theorem dX8_takes_64 : decode cX8_takes 64 = .ok (.goto (-29), 3) := by decide +kernel
theorem dX8_takes_67 : decode cX8_takes 67 = .ok (.aload_n 0, 1) := by decide +kernel
theorem dX8_takes_68 : decode cX8_takes 68 = .ok (.getfield 27, 3) := by decide +kernel
theorem dX8_takes_71 : decode cX8_takes 71 = .ok (.iload_n 1, 1) := by decide +kernel
theorem dX8_takes_72 : decode cX8_takes 72 = .ok (.iload 4, 2) := by decide +kernel
theorem dX8_takes_74 : decode cX8_takes 74 = .ok (.iastore, 1) := by decide +kernel
theorem dX8_takes_75 : decode cX8_takes 75 = .ok (.iload 4, 2) := by decide +kernel
theorem dX8_takes_77 : decode cX8_takes 77 = .ok (.i2l, 1) := by decide +kernel
theorem dX8_takes_78 : decode cX8_takes 78 = .ok (.iload_n 2, 1) := by decide +kernel
theorem dX8_takes_79 : decode cX8_takes 79 = .ok (.i2l, 1) := by decide +kernel
theorem dX8_takes_80 : decode cX8_takes 80 = .ok (.iload_n 3, 1) := by decide +kernel
theorem dX8_takes_81 : decode cX8_takes 81 = .ok (.i2l, 1) := by decide +kernel
theorem dX8_takes_82 : decode cX8_takes 82 = .ok (.invokestatic 40, 3) := by decide +kernel
theorem dX8_takes_85 : decode cX8_takes 85 = .ok (.ireturn, 1) := by decide +kernel
set_option maxRecDepth 20000 in
theorem ggX8_takesRule_X8_takes : GoodIn wsX8_takesRule wsX8_takes := goodIn_r _ [7, 8, 9, 10, 2, 11, 12, 13, 6, 14, 15, 16, 17, 18, 19, 20, 21, 22, 23, 24, 25, 26, 27, 28, 33, 34, 35, 36, 37, 38, 39, 40, 41, 42, 43, 44, 45, 46, 47, 48, 49, 50] (by decide +kernel) (by decide +kernel)
set_option maxRecDepth 20000 in
theorem gX8_takesRule_X8_takes : GoodIn wsX8_takesRule (wsV RX8 126 RX8 yX8_takes wsX8_takes) := goodIn_app (goodIn_of _ (by decide +kernel)) ggX8_takesRule_X8_takes
set_option maxRecDepth 20000 in
theorem ggX8_takesRule_X8_adds : GoodIn wsX8_takesRule wsX8_adds := goodIn_r _ [32, 1, 33, 34, 35, 36, 37, 38, 39, 40, 41, 42, 43, 44, 45, 46, 47, 48, 49, 50] (by decide +kernel) (by decide +kernel)
set_option maxRecDepth 20000 in
theorem gX8_takesRule_X8_adds : GoodIn wsX8_takesRule (wsV RX8 61 RX8 yX8_adds wsX8_adds) := goodIn_app (goodIn_of _ (by decide +kernel)) ggX8_takesRule_X8_adds
theorem dX8_takesRule_0 : decode cX8_takesRule 0 = .ok (.aload_n 0, 1) := by decide +kernel
theorem dX8_takesRule_1 : decode cX8_takesRule 1 = .ok (.getfield 7, 3) := by decide +kernel
theorem dX8_takesRule_4 : decode cX8_takesRule 4 = .ok (.sipush 1131, 3) := by decide +kernel
theorem dX8_takesRule_7 : decode cX8_takesRule 7 = .ok (.iaload, 1) := by decide +kernel
theorem dX8_takesRule_8 : decode cX8_takesRule 8 = .ok (.bipush 8, 2) := by decide +kernel
theorem dX8_takesRule_10 : decode cX8_takesRule 10 = .ok (.if_icmp .eq 35, 3) := by decide +kernel
theorem dX8_takesRule_13 : decode cX8_takesRule 13 = .ok (.aload_n 0, 1) := by decide +kernel
theorem dX8_takesRule_14 : decode cX8_takesRule 14 = .ok (.iconst 0, 1) := by decide +kernel
theorem dX8_takesRule_15 : decode cX8_takesRule 15 = .ok (.iconst 0, 1) := by decide +kernel
theorem dX8_takesRule_16 : decode cX8_takesRule 16 = .ok (.iconst 3, 1) := by decide +kernel
theorem dX8_takesRule_17 : decode cX8_takesRule 17 = .ok (.invokevirtual 126, 3) := by decide +kernel
theorem dX8_takesRule_20 : decode cX8_takesRule 20 = .ok (.ifCond .eq 25, 3) := by decide +kernel
theorem dX8_takesRule_23 : decode cX8_takesRule 23 = .ok (.aload_n 0, 1) := by decide +kernel
theorem dX8_takesRule_24 : decode cX8_takesRule 24 = .ok (.iconst 1, 1) := by decide +kernel
theorem dX8_takesRule_25 : decode cX8_takesRule 25 = .ok (.iconst 0, 1) := by decide +kernel
theorem dX8_takesRule_26 : decode cX8_takesRule 26 = .ok (.bipush 6, 2) := by decide +kernel
theorem dX8_takesRule_28 : decode cX8_takesRule 28 = .ok (.invokevirtual 126, 3) := by decide +kernel
theorem dX8_takesRule_31 : decode cX8_takesRule 31 = .ok (.ifCond .eq 14, 3) := by decide +kernel
theorem dX8_takesRule_34 : decode cX8_takesRule 34 = .ok (.aload_n 0, 1) := by decide +kernel
theorem dX8_takesRule_35 : decode cX8_takesRule 35 = .ok (.iconst 2, 1) := by decide +kernel
theorem dX8_takesRule_36 : decode cX8_takesRule 36 = .ok (.iconst 0, 1) := by decide +kernel
theorem dX8_takesRule_37 : decode cX8_takesRule 37 = .ok (.bipush 6, 2) := by decide +kernel
theorem dX8_takesRule_39 : decode cX8_takesRule 39 = .ok (.invokevirtual 126, 3) := by decide +kernel
theorem dX8_takesRule_42 : decode cX8_takesRule 42 = .ok (.ifCond .ne 5, 3) := by decide +kernel
theorem dX8_takesRule_45 : decode cX8_takesRule 45 = .ok (.iconst 0, 1) := by decide +kernel
theorem dX8_takesRule_46 : decode cX8_takesRule 46 = .ok (.ireturn, 1) := by decide +kernel
theorem dX8_takesRule_47 : decode cX8_takesRule 47 = .ok (.aload_n 0, 1) := by decide +kernel
theorem dX8_takesRule_48 : decode cX8_takesRule 48 = .ok (.sipush 1131, 3) := by decide +kernel
theorem dX8_takesRule_51 : decode cX8_takesRule 51 = .ok (.iconst 0, 1) := by decide +kernel
theorem dX8_takesRule_52 : decode cX8_takesRule 52 = .ok (.iconst 5, 1) := by decide +kernel
theorem dX8_takesRule_53 : decode cX8_takesRule 53 = .ok (.aload_n 0, 1) := by decide +kernel
theorem dX8_takesRule_54 : decode cX8_takesRule 54 = .ok (.getfield 27, 3) := by decide +kernel
theorem dX8_takesRule_57 : decode cX8_takesRule 57 = .ok (.iconst 0, 1) := by decide +kernel
theorem dX8_takesRule_58 : decode cX8_takesRule 58 = .ok (.iaload, 1) := by decide +kernel
theorem dX8_takesRule_59 : decode cX8_takesRule 59 = .ok (.aload_n 0, 1) := by decide +kernel
theorem dX8_takesRule_60 : decode cX8_takesRule 60 = .ok (.getfield 27, 3) := by decide +kernel
theorem dX8_takesRule_63 : decode cX8_takesRule 63 = .ok (.iconst 1, 1) := by decide +kernel
theorem dX8_takesRule_64 : decode cX8_takesRule 64 = .ok (.iaload, 1) := by decide +kernel
theorem dX8_takesRule_65 : decode cX8_takesRule 65 = .ok (.aload_n 0, 1) := by decide +kernel
theorem dX8_takesRule_66 : decode cX8_takesRule 66 = .ok (.getfield 27, 3) := by decide +kernel
theorem dX8_takesRule_69 : decode cX8_takesRule 69 = .ok (.iconst 2, 1) := by decide +kernel
theorem dX8_takesRule_70 : decode cX8_takesRule 70 = .ok (.iaload, 1) := by decide +kernel
theorem dX8_takesRule_71 : decode cX8_takesRule 71 = .ok (.invokevirtual 61, 3) := by decide +kernel
theorem dX8_takesRule_74 : decode cX8_takesRule 74 = .ok (.ifCond .lt 7, 3) := by decide +kernel
theorem dX8_takesRule_77 : decode cX8_takesRule 77 = .ok (.iconst 1, 1) := by decide +kernel
theorem dX8_takesRule_78 : decode cX8_takesRule 78 = .ok (.goto 4, 3) := by decide +kernel
theorem dX8_takesRule_81 : decode cX8_takesRule 81 = .ok (.iconst 0, 1) := by decide +kernel
theorem dX8_takesRule_82 : decode cX8_takesRule 82 = .ok (.ireturn, 1) := by decide +kernel
set_option maxRecDepth 20000 in
theorem ggX8_takesFind_X8_takes : GoodIn wsX8_takesFind wsX8_takes := goodIn_r _ [7, 8, 9, 10, 2, 11, 12, 13, 6, 14, 15, 16, 17, 18, 19, 20, 21, 22, 23, 24, 25, 26, 27, 28, 33, 34, 35, 36, 37, 38, 39, 40, 41, 42, 43, 44, 45, 46, 47, 48, 49, 50] (by decide +kernel) (by decide +kernel)
set_option maxRecDepth 20000 in
theorem gX8_takesFind_X8_takes : GoodIn wsX8_takesFind (wsV RX8 126 RX8 yX8_takes wsX8_takes) := goodIn_app (goodIn_of _ (by decide +kernel)) ggX8_takesFind_X8_takes
set_option maxRecDepth 20000 in
theorem ggX8_takesFind_X8_adds : GoodIn wsX8_takesFind wsX8_adds := goodIn_r _ [32, 1, 33, 34, 35, 36, 37, 38, 39, 40, 41, 42, 43, 44, 45, 46, 47, 48, 49, 50] (by decide +kernel) (by decide +kernel)
set_option maxRecDepth 20000 in
theorem gX8_takesFind_X8_adds : GoodIn wsX8_takesFind (wsV RX8 61 RX8 yX8_adds wsX8_adds) := goodIn_app (goodIn_of _ (by decide +kernel)) ggX8_takesFind_X8_adds
theorem dX8_takesFind_0 : decode cX8_takesFind 0 = .ok (.aload_n 0, 1) := by decide +kernel
theorem dX8_takesFind_1 : decode cX8_takesFind 1 = .ok (.getfield 7, 3) := by decide +kernel
theorem dX8_takesFind_4 : decode cX8_takesFind 4 = .ok (.sipush 1132, 3) := by decide +kernel
theorem dX8_takesFind_7 : decode cX8_takesFind 7 = .ok (.iaload, 1) := by decide +kernel
theorem dX8_takesFind_8 : decode cX8_takesFind 8 = .ok (.bipush 10, 2) := by decide +kernel
theorem dX8_takesFind_10 : decode cX8_takesFind 10 = .ok (.if_icmp .eq 35, 3) := by decide +kernel
theorem dX8_takesFind_13 : decode cX8_takesFind 13 = .ok (.aload_n 0, 1) := by decide +kernel
theorem dX8_takesFind_14 : decode cX8_takesFind 14 = .ok (.iconst 0, 1) := by decide +kernel
theorem dX8_takesFind_15 : decode cX8_takesFind 15 = .ok (.iconst 0, 1) := by decide +kernel
theorem dX8_takesFind_16 : decode cX8_takesFind 16 = .ok (.bipush 6, 2) := by decide +kernel
theorem dX8_takesFind_18 : decode cX8_takesFind 18 = .ok (.invokevirtual 126, 3) := by decide +kernel
theorem dX8_takesFind_21 : decode cX8_takesFind 21 = .ok (.ifCond .eq 24, 3) := by decide +kernel
theorem dX8_takesFind_24 : decode cX8_takesFind 24 = .ok (.aload_n 0, 1) := by decide +kernel
theorem dX8_takesFind_25 : decode cX8_takesFind 25 = .ok (.iconst 1, 1) := by decide +kernel
theorem dX8_takesFind_26 : decode cX8_takesFind 26 = .ok (.iconst 0, 1) := by decide +kernel
theorem dX8_takesFind_27 : decode cX8_takesFind 27 = .ok (.iconst 1, 1) := by decide +kernel
theorem dX8_takesFind_28 : decode cX8_takesFind 28 = .ok (.invokevirtual 126, 3) := by decide +kernel
theorem dX8_takesFind_31 : decode cX8_takesFind 31 = .ok (.ifCond .eq 14, 3) := by decide +kernel
theorem dX8_takesFind_34 : decode cX8_takesFind 34 = .ok (.aload_n 0, 1) := by decide +kernel
theorem dX8_takesFind_35 : decode cX8_takesFind 35 = .ok (.iconst 2, 1) := by decide +kernel
theorem dX8_takesFind_36 : decode cX8_takesFind 36 = .ok (.iconst 0, 1) := by decide +kernel
theorem dX8_takesFind_37 : decode cX8_takesFind 37 = .ok (.bipush 10, 2) := by decide +kernel
theorem dX8_takesFind_39 : decode cX8_takesFind 39 = .ok (.invokevirtual 126, 3) := by decide +kernel
theorem dX8_takesFind_42 : decode cX8_takesFind 42 = .ok (.ifCond .ne 5, 3) := by decide +kernel
theorem dX8_takesFind_45 : decode cX8_takesFind 45 = .ok (.iconst 0, 1) := by decide +kernel
theorem dX8_takesFind_46 : decode cX8_takesFind 46 = .ok (.ireturn, 1) := by decide +kernel
theorem dX8_takesFind_47 : decode cX8_takesFind 47 = .ok (.aload_n 0, 1) := by decide +kernel
theorem dX8_takesFind_48 : decode cX8_takesFind 48 = .ok (.sipush 1131, 3) := by decide +kernel
theorem dX8_takesFind_51 : decode cX8_takesFind 51 = .ok (.iconst 1, 1) := by decide +kernel
theorem dX8_takesFind_52 : decode cX8_takesFind 52 = .ok (.bipush 29, 2) := by decide +kernel
theorem dX8_takesFind_54 : decode cX8_takesFind 54 = .ok (.aload_n 0, 1) := by decide +kernel
theorem dX8_takesFind_55 : decode cX8_takesFind 55 = .ok (.getfield 27, 3) := by decide +kernel
theorem dX8_takesFind_58 : decode cX8_takesFind 58 = .ok (.iconst 0, 1) := by decide +kernel
theorem dX8_takesFind_59 : decode cX8_takesFind 59 = .ok (.iaload, 1) := by decide +kernel
theorem dX8_takesFind_60 : decode cX8_takesFind 60 = .ok (.aload_n 0, 1) := by decide +kernel
theorem dX8_takesFind_61 : decode cX8_takesFind 61 = .ok (.getfield 27, 3) := by decide +kernel
theorem dX8_takesFind_64 : decode cX8_takesFind 64 = .ok (.iconst 1, 1) := by decide +kernel
theorem dX8_takesFind_65 : decode cX8_takesFind 65 = .ok (.iaload, 1) := by decide +kernel
theorem dX8_takesFind_66 : decode cX8_takesFind 66 = .ok (.aload_n 0, 1) := by decide +kernel
theorem dX8_takesFind_67 : decode cX8_takesFind 67 = .ok (.getfield 27, 3) := by decide +kernel
theorem dX8_takesFind_70 : decode cX8_takesFind 70 = .ok (.iconst 2, 1) := by decide +kernel
theorem dX8_takesFind_71 : decode cX8_takesFind 71 = .ok (.iaload, 1) := by decide +kernel
theorem dX8_takesFind_72 : decode cX8_takesFind 72 = .ok (.invokevirtual 61, 3) := by decide +kernel
theorem dX8_takesFind_75 : decode cX8_takesFind 75 = .ok (.ifCond .lt 7, 3) := by decide +kernel
theorem dX8_takesFind_78 : decode cX8_takesFind 78 = .ok (.iconst 1, 1) := by decide +kernel
theorem dX8_takesFind_79 : decode cX8_takesFind 79 = .ok (.goto 4, 3) := by decide +kernel
theorem dX8_takesFind_82 : decode cX8_takesFind 82 = .ok (.iconst 0, 1) := by decide +kernel
theorem dX8_takesFind_83 : decode cX8_takesFind 83 = .ok (.ireturn, 1) := by decide +kernel
set_option maxRecDepth 20000 in
theorem ggX8_takesBet_X8_takes : GoodIn wsX8_takesBet wsX8_takes := goodIn_r _ [7, 8, 9, 10, 2, 11, 12, 13, 6, 14, 15, 16, 17, 18, 19, 20, 21, 22, 23, 24, 25, 26, 27, 28, 33, 34, 35, 36, 37, 38, 39, 40, 41, 42, 43, 44, 45, 46, 47, 48, 49, 50] (by decide +kernel) (by decide +kernel)
set_option maxRecDepth 20000 in
theorem gX8_takesBet_X8_takes : GoodIn wsX8_takesBet (wsV RX8 126 RX8 yX8_takes wsX8_takes) := goodIn_app (goodIn_of _ (by decide +kernel)) ggX8_takesBet_X8_takes
set_option maxRecDepth 20000 in
theorem ggX8_takesBet_X8_adds5 : GoodIn wsX8_takesBet wsX8_adds5 := goodIn_r _ [32, 1, 33, 34, 35, 36, 37, 38, 39, 40, 41, 42, 43, 44, 45, 46, 47, 48, 49, 50] (by decide +kernel) (by decide +kernel)
set_option maxRecDepth 20000 in
theorem gX8_takesBet_X8_adds5 : GoodIn wsX8_takesBet (wsV RX8 86 RX8 yX8_adds5 wsX8_adds5) := goodIn_app (goodIn_of _ (by decide +kernel)) ggX8_takesBet_X8_adds5
theorem dX8_takesBet_0 : decode cX8_takesBet 0 = .ok (.aload_n 0, 1) := by decide +kernel
theorem dX8_takesBet_1 : decode cX8_takesBet 1 = .ok (.getfield 7, 3) := by decide +kernel
theorem dX8_takesBet_4 : decode cX8_takesBet 4 = .ok (.sipush 1133, 3) := by decide +kernel
theorem dX8_takesBet_7 : decode cX8_takesBet 7 = .ok (.iaload, 1) := by decide +kernel
theorem dX8_takesBet_8 : decode cX8_takesBet 8 = .ok (.bipush 8, 2) := by decide +kernel
theorem dX8_takesBet_10 : decode cX8_takesBet 10 = .ok (.if_icmp .eq 57, 3) := by decide +kernel
theorem dX8_takesBet_13 : decode cX8_takesBet 13 = .ok (.aload_n 0, 1) := by decide +kernel
theorem dX8_takesBet_14 : decode cX8_takesBet 14 = .ok (.iconst 0, 1) := by decide +kernel
theorem dX8_takesBet_15 : decode cX8_takesBet 15 = .ok (.iconst 0, 1) := by decide +kernel
theorem dX8_takesBet_16 : decode cX8_takesBet 16 = .ok (.iconst 5, 1) := by decide +kernel
theorem dX8_takesBet_17 : decode cX8_takesBet 17 = .ok (.invokevirtual 126, 3) := by decide +kernel
theorem dX8_takesBet_20 : decode cX8_takesBet 20 = .ok (.ifCond .eq 47, 3) := by decide +kernel
theorem dX8_takesBet_23 : decode cX8_takesBet 23 = .ok (.aload_n 0, 1) := by decide +kernel
theorem dX8_takesBet_24 : decode cX8_takesBet 24 = .ok (.iconst 1, 1) := by decide +kernel
theorem dX8_takesBet_25 : decode cX8_takesBet 25 = .ok (.iconst 0, 1) := by decide +kernel
theorem dX8_takesBet_26 : decode cX8_takesBet 26 = .ok (.bipush 6, 2) := by decide +kernel
theorem dX8_takesBet_28 : decode cX8_takesBet 28 = .ok (.invokevirtual 126, 3) := by decide +kernel
theorem dX8_takesBet_31 : decode cX8_takesBet 31 = .ok (.ifCond .eq 36, 3) := by decide +kernel
theorem dX8_takesBet_34 : decode cX8_takesBet 34 = .ok (.aload_n 0, 1) := by decide +kernel
