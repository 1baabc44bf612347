theorem dX8_takesBet_35 : decode cX8_takesBet 35 = .ok (.iconst 2, 1) := by decide +kernel
theorem dX8_takesBet_36 : decode cX8_takesBet 36 = .ok (.iconst 0, 1) := by decide +kernel
theorem dX8_takesBet_37 : decode cX8_takesBet 37 = .ok (.bipush 6, 2) := by decide +kernel
theorem dX8_takesBet_39 : decode cX8_takesBet 39 = .ok (.invokevirtual 126, 3) := by decide +kernel
theorem dX8_takesBet_42 : decode cX8_takesBet 42 = .ok (.ifCond .eq 25, 3) := by decide +kernel
theorem dX8_takesBet_45 : decode cX8_takesBet 45 = .ok (.aload_n 0, 1) := by decide +kernel
theorem dX8_takesBet_46 : decode cX8_takesBet 46 = .ok (.iconst 3, 1) := by decide +kernel
theorem dX8_takesBet_47 : decode cX8_takesBet 47 = .ok (.iconst 1, 1) := by decide +kernel
theorem dX8_takesBet_48 : decode cX8_takesBet 48 = .ok (.bipush 99, 2) := by decide +kernel
theorem dX8_takesBet_50 : decode cX8_takesBet 50 = .ok (.invokevirtual 126, 3) := by decide +kernel
theorem dX8_takesBet_53 : decode cX8_takesBet 53 = .ok (.ifCond .eq 14, 3) := by decide +kernel
theorem dX8_takesBet_56 : decode cX8_takesBet 56 = .ok (.aload_n 0, 1) := by decide +kernel
theorem dX8_takesBet_57 : decode cX8_takesBet 57 = .ok (.iconst 4, 1) := by decide +kernel
theorem dX8_takesBet_58 : decode cX8_takesBet 58 = .ok (.iconst 0, 1) := by decide +kernel
theorem dX8_takesBet_59 : decode cX8_takesBet 59 = .ok (.bipush 99, 2) := by decide +kernel
theorem dX8_takesBet_61 : decode cX8_takesBet 61 = .ok (.invokevirtual 126, 3) := by decide +kernel
theorem dX8_takesBet_64 : decode cX8_takesBet 64 = .ok (.ifCond .ne 5, 3) := by decide +kernel
theorem dX8_takesBet_67 : decode cX8_takesBet 67 = .ok (.iconst 0, 1) := by decide +kernel
theorem dX8_takesBet_68 : decode cX8_takesBet 68 = .ok (.ireturn, 1) := by decide +kernel
theorem dX8_takesBet_69 : decode cX8_takesBet 69 = .ok (.aload_n 0, 1) := by decide +kernel
theorem dX8_takesBet_70 : decode cX8_takesBet 70 = .ok (.sipush 1131, 3) := by decide +kernel
theorem dX8_takesBet_73 : decode cX8_takesBet 73 = .ok (.iconst 2, 1) := by decide +kernel
theorem dX8_takesBet_74 : decode cX8_takesBet 74 = .ok (.bipush 59, 2) := by decide +kernel
theorem dX8_takesBet_76 : decode cX8_takesBet 76 = .ok (.aload_n 0, 1) := by decide +kernel
theorem dX8_takesBet_77 : decode cX8_takesBet 77 = .ok (.getfield 27, 3) := by decide +kernel
theorem dX8_takesBet_80 : decode cX8_takesBet 80 = .ok (.iconst 0, 1) := by decide +kernel
theorem dX8_takesBet_81 : decode cX8_takesBet 81 = .ok (.iaload, 1) := by decide +kernel
theorem dX8_takesBet_82 : decode cX8_takesBet 82 = .ok (.aload_n 0, 1) := by decide +kernel
theorem dX8_takesBet_83 : decode cX8_takesBet 83 = .ok (.getfield 27, 3) := by decide +kernel
theorem dX8_takesBet_86 : decode cX8_takesBet 86 = .ok (.iconst 1, 1) := by decide +kernel
theorem dX8_takesBet_87 : decode cX8_takesBet 87 = .ok (.iaload, 1) := by decide +kernel
theorem dX8_takesBet_88 : decode cX8_takesBet 88 = .ok (.aload_n 0, 1) := by decide +kernel
theorem dX8_takesBet_89 : decode cX8_takesBet 89 = .ok (.getfield 27, 3) := by decide +kernel
theorem dX8_takesBet_92 : decode cX8_takesBet 92 = .ok (.iconst 2, 1) := by decide +kernel
theorem dX8_takesBet_93 : decode cX8_takesBet 93 = .ok (.iaload, 1) := by decide +kernel
theorem dX8_takesBet_94 : decode cX8_takesBet 94 = .ok (.aload_n 0, 1) := by decide +kernel
theorem dX8_takesBet_95 : decode cX8_takesBet 95 = .ok (.getfield 27, 3) := by decide +kernel
theorem dX8_takesBet_98 : decode cX8_takesBet 98 = .ok (.iconst 3, 1) := by decide +kernel
theorem dX8_takesBet_99 : decode cX8_takesBet 99 = .ok (.iaload, 1) := by decide +kernel
theorem dX8_takesBet_100 : decode cX8_takesBet 100 = .ok (.aload_n 0, 1) := by decide +kernel
theorem dX8_takesBet_101 : decode cX8_takesBet 101 = .ok (.getfield 27, 3) := by decide +kernel
theorem dX8_takesBet_104 : decode cX8_takesBet 104 = .ok (.iconst 4, 1) := by decide +kernel
theorem dX8_takesBet_105 : decode cX8_takesBet 105 = .ok (.iaload, 1) := by decide +kernel
theorem dX8_takesBet_106 : decode cX8_takesBet 106 = .ok (.invokevirtual 86, 3) := by decide +kernel
theorem dX8_takesBet_109 : decode cX8_takesBet 109 = .ok (.ifCond .lt 7, 3) := by decide +kernel
theorem dX8_takesBet_112 : decode cX8_takesBet 112 = .ok (.iconst 1, 1) := by decide +kernel
theorem dX8_takesBet_113 : decode cX8_takesBet 113 = .ok (.goto 4, 3) := by decide +kernel
theorem dX8_takesBet_116 : decode cX8_takesBet 116 = .ok (.iconst 0, 1) := by decide +kernel
theorem dX8_takesBet_117 : decode cX8_takesBet 117 = .ok (.ireturn, 1) := by decide +kernel
set_option maxRecDepth 20000 in
theorem ggX8_takesItem_X8_wordNow : GoodIn wsX8_takesItem wsX8_wordNow := goodIn_r _ [6, 7, 8, 9, 5, 10, 11, 12, 1, 13, 14, 15, 16, 17, 18, 57, 58, 59, 60, 61, 62, 63, 64, 65, 66, 67, 68, 69, 70, 71, 72, 73, 74] (by decide +kernel) (by decide +kernel)
set_option maxRecDepth 20000 in
theorem gX8_takesItem_X8_wordNow : GoodIn wsX8_takesItem (wsV RX8 129 RX8 yX8_wordNow wsX8_wordNow) := goodIn_app (goodIn_of _ (by decide +kernel)) ggX8_takesItem_X8_wordNow
set_option maxRecDepth 20000 in
theorem ggX8_takesItem_X8_takesRule : GoodIn wsX8_takesItem wsX8_takesRule := goodIn_r _ [22, 23, 24, 25, 26, 27, 5, 28, 29, 12, 1, 30, 31, 32, 33, 34, 35, 11, 36, 37, 17, 13, 14, 15, 16, 18, 38, 39, 40, 41, 42, 43, 44, 57, 58, 59, 60, 61, 62, 63, 64, 65, 66, 67, 68, 69, 70, 71, 72, 73, 74] (by decide +kernel) (by decide +kernel)
set_option maxRecDepth 20000 in
theorem gX8_takesItem_X8_takesRule : GoodIn wsX8_takesItem (wsV RX8 132 RX8 yX8_takesRule wsX8_takesRule) := goodIn_app (goodIn_of _ (by decide +kernel)) ggX8_takesItem_X8_takesRule
set_option maxRecDepth 20000 in
theorem ggX8_takesItem_X8_takesFind : GoodIn wsX8_takesItem wsX8_takesFind := goodIn_r _ [48, 23, 24, 25, 26, 27, 5, 28, 29, 12, 1, 30, 31, 32, 33, 34, 35, 11, 36, 37, 17, 13, 14, 15, 16, 18, 38, 39, 40, 41, 42, 43, 44, 57, 58, 59, 60, 61, 62, 63, 64, 65, 66, 67, 68, 69, 70, 71, 72, 73, 74] (by decide +kernel) (by decide +kernel)
set_option maxRecDepth 20000 in
theorem gX8_takesItem_X8_takesFind : GoodIn wsX8_takesItem (wsV RX8 136 RX8 yX8_takesFind wsX8_takesFind) := goodIn_app (goodIn_of _ (by decide +kernel)) ggX8_takesItem_X8_takesFind
set_option maxRecDepth 20000 in
theorem ggX8_takesItem_X8_takesBet : GoodIn wsX8_takesItem wsX8_takesBet := goodIn_r _ [52, 23, 24, 25, 26, 27, 5, 28, 29, 12, 1, 30, 31, 32, 33, 34, 35, 11, 36, 37, 17, 13, 14, 15, 16, 18, 38, 39, 40, 53, 54, 55, 56, 57, 58, 59, 60, 61, 62, 63, 64, 65, 66, 67, 68, 69, 70, 71, 72, 73, 74] (by decide +kernel) (by decide +kernel)
set_option maxRecDepth 20000 in
theorem gX8_takesItem_X8_takesBet : GoodIn wsX8_takesItem (wsV RX8 139 RX8 yX8_takesBet wsX8_takesBet) := goodIn_app (goodIn_of _ (by decide +kernel)) ggX8_takesItem_X8_takesBet
set_option maxRecDepth 20000 in
theorem ggX8_takesItem_X8_token : GoodIn wsX8_takesItem wsX8_token := goodIn_r _ [33, 12, 1, 34, 35, 11, 36, 37, 29, 17, 13, 14, 15, 5, 16, 18, 38, 39, 40, 57, 58, 59, 60, 61, 62, 63, 64, 65, 66, 67, 68, 69, 70, 71, 72, 73, 74] (by decide +kernel) (by decide +kernel)
set_option maxRecDepth 20000 in
theorem gX8_takesItem_X8_token : GoodIn wsX8_takesItem (wsV RX8 123 RX8 yX8_token wsX8_token) := goodIn_app (goodIn_of _ (by decide +kernel)) ggX8_takesItem_X8_token
set_option maxRecDepth 20000 in
theorem ggX8_takesItem_X8_byteAt : GoodIn wsX8_takesItem wsX8_byteAt := goodIn_r _ [16, 17, 18, 57, 58, 59, 60, 61, 62, 63, 64, 65, 66, 67, 68, 69, 70, 71, 72, 73, 74] (by decide +kernel) (by decide +kernel)
set_option maxRecDepth 20000 in
theorem gX8_takesItem_X8_byteAt : GoodIn wsX8_takesItem (wsV RX8 97 RX8 yX8_byteAt wsX8_byteAt) := goodIn_app (goodIn_of _ (by decide +kernel)) ggX8_takesItem_X8_byteAt
theorem dX8_takesItem_0 : decode cX8_takesItem 0 = .ok (.aload_n 0, 1) := by decide +kernel
theorem dX8_takesItem_1 : decode cX8_takesItem 1 = .ok (.invokevirtual 129, 3) := by decide +kernel
theorem dX8_takesItem_4 : decode cX8_takesItem 4 = .ok (.istore_n 2, 1) := by decide +kernel
theorem dX8_takesItem_5 : decode cX8_takesItem 5 = .ok (.iload_n 2, 1) := by decide +kernel
theorem dX8_takesItem_6 : decode cX8_takesItem 6 = .ok (.iconst (-1), 1) := by decide +kernel
theorem dX8_takesItem_7 : decode cX8_takesItem 7 = .ok (.if_icmp .eq 24, 3) := by decide +kernel
theorem dX8_takesItem_10 : decode cX8_takesItem 10 = .ok (.iload_n 2, 1) := by decide +kernel
theorem dX8_takesItem_11 : decode cX8_takesItem 11 = .ok (.ifCond .ne 7, 3) := by decide +kernel
theorem dX8_takesItem_14 : decode cX8_takesItem 14 = .ok (.iconst 1, 1) := by decide +kernel
theorem dX8_takesItem_15 : decode cX8_takesItem 15 = .ok (.goto 4, 3) := by decide +kernel
theorem dX8_takesItem_18 : decode cX8_takesItem 18 = .ok (.iconst 0, 1) := by decide +kernel
theorem dX8_takesItem_19 : decode cX8_takesItem 19 = .ok (.iload_n 1, 1) := by decide +kernel
theorem dX8_takesItem_20 : decode cX8_takesItem 20 = .ok (.ifCond .ne 7, 3) := by decide +kernel
theorem dX8_takesItem_23 : decode cX8_takesItem 23 = .ok (.iconst 1, 1) := by decide +kernel
theorem dX8_takesItem_24 : decode cX8_takesItem 24 = .ok (.goto 4, 3) := by decide +kernel
theorem dX8_takesItem_27 : decode cX8_takesItem 27 = .ok (.iconst 0, 1) := by decide +kernel
theorem dX8_takesItem_28 : decode cX8_takesItem 28 = .ok (.if_icmp .eq 5, 3) := by decide +kernel
theorem dX8_takesItem_31 : decode cX8_takesItem 31 = .ok (.iconst 0, 1) := by decide +kernel
theorem dX8_takesItem_32 : decode cX8_takesItem 32 = .ok (.ireturn, 1) := by decide +kernel
theorem dX8_takesItem_33 : decode cX8_takesItem 33 = .ok (.iload_n 2, 1) := by decide +kernel
theorem dX8_takesItem_34 : decode cX8_takesItem 34 = .ok (.ifCond .eq 40, 3) := by decide +kernel
theorem dX8_takesItem_37 : decode cX8_takesItem 37 = .ok (.iload_n 2, 1) := by decide +kernel
theorem dX8_takesItem_38 : decode cX8_takesItem 38 = .ok (.iconst 1, 1) := by decide +kernel
theorem dX8_takesItem_39 : decode cX8_takesItem 39 = .ok (.if_icmp .ne 13, 3) := by decide +kernel
theorem dX8_takesItem_42 : decode cX8_takesItem 42 = .ok (.aload_n 0, 1) := by decide +kernel
theorem dX8_takesItem_43 : decode cX8_takesItem 43 = .ok (.invokevirtual 132, 3) := by decide +kernel
theorem dX8_takesItem_46 : decode cX8_takesItem 46 = .ok (.ifCond .eq 32, 3) := by decide +kernel
theorem dX8_takesItem_49 : decode cX8_takesItem 49 = .ok (.goto 25, 3) := by decide +kernel
theorem dX8_takesItem_52 : decode cX8_takesItem 52 = .ok (.iload_n 2, 1) := by decide +kernel
theorem dX8_takesItem_53 : decode cX8_takesItem 53 = .ok (.iconst 2, 1) := by decide +kernel
theorem dX8_takesItem_54 : decode cX8_takesItem 54 = .ok (.if_icmp .ne 13, 3) := by decide +kernel
theorem dX8_takesItem_57 : decode cX8_takesItem 57 = .ok (.aload_n 0, 1) := by decide +kernel
theorem dX8_takesItem_58 : decode cX8_takesItem 58 = .ok (.invokevirtual 136, 3) := by decide +kernel
theorem dX8_takesItem_61 : decode cX8_takesItem 61 = .ok (.ifCond .eq 17, 3) := by decide +kernel
theorem dX8_takesItem_64 : decode cX8_takesItem 64 = .ok (.goto 10, 3) := by decide +kernel
theorem dX8_takesItem_67 : decode cX8_takesItem 67 = .ok (.aload_n 0, 1) := by decide +kernel
theorem dX8_takesItem_68 : decode cX8_takesItem 68 = .ok (.invokevirtual 139, 3) := by decide +kernel
theorem dX8_takesItem_71 : decode cX8_takesItem 71 = .ok (.ifCond .eq 7, 3) := by decide +kernel
theorem dX8_takesItem_74 : decode cX8_takesItem 74 = .ok (.iconst 1, 1) := by decide +kernel
theorem dX8_takesItem_75 : decode cX8_takesItem 75 = .ok (.goto 4, 3) := by decide +kernel
theorem dX8_takesItem_78 : decode cX8_takesItem 78 = .ok (.iconst 0, 1) := by decide +kernel
theorem dX8_takesItem_79 : decode cX8_takesItem 79 = .ok (.istore_n 3, 1) := by decide +kernel
theorem dX8_takesItem_80 : decode cX8_takesItem 80 = .ok (.iload_n 3, 1) := by decide +kernel
theorem dX8_takesItem_81 : decode cX8_takesItem 81 = .ok (.ifCond .ne 5, 3) := by decide +kernel
theorem dX8_takesItem_84 : decode cX8_takesItem 84 = .ok (.iconst 0, 1) := by decide +kernel
theorem dX8_takesItem_85 : decode cX8_takesItem 85 = .ok (.ireturn, 1) := by decide +kernel
theorem dX8_takesItem_86 : decode cX8_takesItem 86 = .ok (.aload_n 0, 1) := by decide +kernel
theorem dX8_takesItem_87 : decode cX8_takesItem 87 = .ok (.invokevirtual 123, 3) := by decide +kernel
theorem dX8_takesItem_90 : decode cX8_takesItem 90 = .ok (.aload_n 0, 1) := by decide +kernel
theorem dX8_takesItem_91 : decode cX8_takesItem 91 = .ok (.aload_n 0, 1) := by decide +kernel
theorem dX8_takesItem_92 : decode cX8_takesItem 92 = .ok (.getfield 101, 3) := by decide +kernel
theorem dX8_takesItem_95 : decode cX8_takesItem 95 = .ok (.invokevirtual 97, 3) := by decide +kernel
theorem dX8_takesItem_98 : decode cX8_takesItem 98 = .ok (.bipush 59, 2) := by decide +kernel
theorem dX8_takesItem_100 : decode cX8_takesItem 100 = .ok (.if_icmp .ne 7, 3) := by decide +kernel
theorem dX8_takesItem_103 : decode cX8_takesItem 103 = .ok (.iconst 1, 1) := by decide +kernel
theorem dX8_takesItem_104 : decode cX8_takesItem 104 = .ok (.goto 4, 3) := by decide +kernel
theorem dX8_takesItem_107 : decode cX8_takesItem 107 = .ok (.iconst 0, 1) := by decide +kernel
theorem dX8_takesItem_108 : decode cX8_takesItem 108 = .ok (.ireturn, 1) := by decide +kernel
set_option maxRecDepth 20000 in
theorem ggX8_read_X8_begins : GoodIn wsX8_read wsX8_begins := goodIn_r _ [8, 9, 69, 70, 71, 72, 73, 74, 75, 76, 77, 78, 79, 80, 81, 82, 83, 84, 85, 86] (by decide +kernel) (by decide +kernel)
set_option maxRecDepth 20000 in
theorem gX8_read_X8_begins : GoodIn wsX8_read (wsV RX8 34 RX8 yX8_begins wsX8_begins) := goodIn_app (goodIn_of _ (by decide +kernel)) ggX8_read_X8_begins
set_option maxRecDepth 20000 in
theorem ggX8_read_X8_token : GoodIn wsX8_read wsX8_token := goodIn_r _ [13, 1, 2, 14, 15, 16, 17, 18, 19, 3, 20, 21, 22, 7, 23, 24, 25, 26, 27, 69, 70, 71, 72, 73, 74, 75, 76, 77, 78, 79, 80, 81, 82, 83, 84, 85, 86] (by decide +kernel) (by decide +kernel)
set_option maxRecDepth 20000 in
theorem gX8_read_X8_token : GoodIn wsX8_read (wsV RX8 123 RX8 yX8_token wsX8_token) := goodIn_app (goodIn_of _ (by decide +kernel)) ggX8_read_X8_token
set_option maxRecDepth 20000 in
theorem ggX8_read_X8_takesItem : GoodIn wsX8_read wsX8_takesItem := goodIn_r _ [31, 2, 32, 33, 34, 7, 35, 36, 37, 38, 39, 16, 1, 20, 21, 22, 23, 3, 24, 40, 41, 42, 43, 9, 44, 45, 46, 47, 48, 19, 10, 11, 12, 13, 14, 15, 17, 18, 25, 26, 27, 49, 50, 51, 52, 53, 54, 55, 56, 57, 58, 59, 60, 61, 62, 63, 64, 69, 70, 71, 72, 73, 74, 75, 76, 77, 78, 79, 80, 81, 82, 83, 84, 85, 86] (by decide +kernel) (by decide +kernel)
set_option maxRecDepth 20000 in
theorem gX8_read_X8_takesItem : GoodIn wsX8_read (wsV RX8 142 RX8 yX8_takesItem wsX8_takesItem) := goodIn_app (goodIn_of _ (by decide +kernel)) ggX8_read_X8_takesItem
set_option maxRecDepth 20000 in
theorem ggX8_read_X8_copy : GoodIn wsX8_read wsX8_copy := goodIn_r _ [68, 9, 69, 70, 71, 72, 73, 74, 75, 76, 77, 78, 79, 80, 81, 82, 83, 84, 85, 86] (by decide +kernel) (by decide +kernel)
set_option maxRecDepth 20000 in
theorem gX8_read_X8_copy : GoodIn wsX8_read (wsV RX8 145 RX8 yX8_copy wsX8_copy) := goodIn_app (goodIn_of _ (by decide +kernel)) ggX8_read_X8_copy
theorem dX8_read_0 : decode cX8_read 0 = .ok (.aload_n 0, 1) := by decide +kernel
theorem dX8_read_1 : decode cX8_read 1 = .ok (.iconst 0, 1) := by decide +kernel
theorem dX8_read_2 : decode cX8_read 2 = .ok (.putfield 94, 3) := by decide +kernel
theorem dX8_read_5 : decode cX8_read 5 = .ok (.iconst 0, 1) := by decide +kernel
theorem dX8_read_6 : decode cX8_read 6 = .ok (.istore_n 1, 1) := by decide +kernel
theorem dX8_read_7 : decode cX8_read 7 = .ok (.aload_n 0, 1) := by decide +kernel
theorem dX8_read_8 : decode cX8_read 8 = .ok (.sipush 1131, 3) := by decide +kernel
theorem dX8_read_11 : decode cX8_read 11 = .ok (.invokevirtual 34, 3) := by decide +kernel
theorem dX8_read_14 : decode cX8_read 14 = .ok (.aload_n 0, 1) := by decide +kernel
theorem dX8_read_15 : decode cX8_read 15 = .ok (.invokevirtual 123, 3) := by decide +kernel
theorem dX8_read_18 : decode cX8_read 18 = .ok (.aload_n 0, 1) := by decide +kernel
theorem dX8_read_19 : decode cX8_read 19 = .ok (.getfield 101, 3) := by decide +kernel
theorem dX8_read_22 : decode cX8_read 22 = .ok (.aload_n 0, 1) := by decide +kernel
theorem dX8_read_23 : decode cX8_read 23 = .ok (.getfield 90, 3) := by decide +kernel
theorem dX8_read_26 : decode cX8_read 26 = .ok (.if_icmp .lt 7, 3) := by decide +kernel
theorem dX8_read_29 : decode cX8_read 29 = .ok (.iload_n 1, 1) := by decide +kernel
theorem dX8_read_30 : decode cX8_read 30 = .ok (.ifCond .ne 29, 3) := by decide +kernel
theorem dX8_read_33 : decode cX8_read 33 = .ok (.aload_n 0, 1) := by decide +kernel
theorem dX8_read_34 : decode cX8_read 34 = .ok (.iload_n 1, 1) := by decide +kernel
theorem dX8_read_35 : decode cX8_read 35 = .ok (.invokevirtual 142, 3) := by decide +kernel
theorem dX8_read_38 : decode cX8_read 38 = .ok (.ifCond .ne 11, 3) := by decide +kernel
theorem dX8_read_41 : decode cX8_read 41 = .ok (.bipush (-10), 2) := by decide +kernel
theorem dX8_read_43 : decode cX8_read 43 = .ok (.aload_n 0, 1) := by decide +kernel
theorem dX8_read_44 : decode cX8_read 44 = .ok (.getfield 101, 3) := by decide +kernel
theorem dX8_read_47 : decode cX8_read 47 = .ok (.isub, 1) := by decide +kernel
theorem dX8_read_48 : decode cX8_read 48 = .ok (.ireturn, 1) := by decide +kernel
theorem dX8_read_49 : decode cX8_read 49 = .ok (.iinc 1 1, 3) := by decide +kernel
theorem dX8_read_52 : decode cX8_read 52 = .ok (.aload_n 0, 1) := by decide +kernel
theorem dX8_read_53 : decode cX8_read 53 = .ok (.invokevirtual 123, 3) := by decide +kernel
theorem dX8_read_56 : decode cX8_read 56 = .ok (.goto (-38), 3) := by decide +kernel
theorem dX8_read_59 : decode cX8_read 59 = .ok (.aload_n 0, 1) := by decide +kernel
theorem dX8_read_60 : decode cX8_read 60 = .ok (.sipush 1131, 3) := by decide +kernel
theorem dX8_read_63 : decode cX8_read 63 = .ok (.iconst 0, 1) := by decide +kernel
theorem dX8_read_64 : decode cX8_read 64 = .ok (.invokevirtual 145, 3) := by decide +kernel
theorem dX8_read_67 : decode cX8_read 67 = .ok (.iload_n 1, 1) := by decide +kernel
theorem dX8_read_68 : decode cX8_read 68 = .ok (.ireturn, 1) := by decide +kernel
set_option maxRecDepth 20000 in
theorem ggX8_of_X8_isBet : GoodIn wsX8_of wsX8_isBet := goodIn_r _ [7, 2, 8, 9, 6, 10, 16, 17, 18, 19, 20, 21, 22, 23, 24, 25, 26, 27, 28, 29, 30, 31, 32, 33] (by decide +kernel) (by decide +kernel)
set_option maxRecDepth 20000 in
theorem gX8_of_X8_isBet : GoodIn wsX8_of (wsV RX8 149 RX8 yX8_isBet wsX8_isBet) := goodIn_app (goodIn_of _ (by decide +kernel)) ggX8_of_X8_isBet
set_option maxRecDepth 20000 in
theorem ggX8_of_X8_in : GoodIn wsX8_of wsX8_in := goodIn_r _ [10] (by decide +kernel) (by decide +kernel)
set_option maxRecDepth 20000 in
theorem gX8_of_X8_in : GoodIn wsX8_of (va_wsS RX8 40 yX8_in wsX8_in) := goodIn_app (goodIn_of _ (by decide +kernel)) ggX8_of_X8_in
set_option maxRecDepth 20000 in
theorem ggX8_of_X8_bad : GoodIn wsX8_of wsX8_bad := goodIn_r _ [14, 15, 16, 17, 18, 19, 20, 21, 22, 23, 24, 25, 26, 27, 28, 29, 30, 31, 32, 33] (by decide +kernel) (by decide +kernel)
set_option maxRecDepth 20000 in
theorem gX8_of_X8_bad : GoodIn wsX8_of (wsV RX8 54 RX8 yX8_bad wsX8_bad) := goodIn_app (goodIn_of _ (by decide +kernel)) ggX8_of_X8_bad
theorem dX8_of_0 : decode cX8_of 0 = .ok (.aload_n 0, 1) := by decide +kernel
theorem dX8_of_1 : decode cX8_of 1 = .ok (.iload_n 1, 1) := by decide +kernel
theorem dX8_of_2 : decode cX8_of 2 = .ok (.invokevirtual 149, 3) := by decide +kernel
theorem dX8_of_5 : decode cX8_of 5 = .ok (.ifCond .eq 31, 3) := by decide +kernel
theorem dX8_of_8 : decode cX8_of 8 = .ok (.iload_n 2, 1) := by decide +kernel
theorem dX8_of_9 : decode cX8_of 9 = .ok (.i2l, 1) := by decide +kernel
theorem dX8_of_10 : decode cX8_of 10 = .ok (.lconst 0, 1) := by decide +kernel
theorem dX8_of_11 : decode cX8_of 11 = .ok (.ldc2_w 152, 3) := by decide +kernel
theorem dX8_of_14 : decode cX8_of 14 = .ok (.invokestatic 40, 3) := by decide +kernel
theorem dX8_of_17 : decode cX8_of 17 = .ok (.ifCond .eq 19, 3) := by decide +kernel
theorem dX8_of_20 : decode cX8_of 20 = .ok (.aload_n 0, 1) := by decide +kernel
theorem dX8_of_21 : decode cX8_of 21 = .ok (.getfield 7, 3) := by decide +kernel
theorem dX8_of_24 : decode cX8_of 24 = .ok (.bipush 59, 2) := by decide +kernel
theorem dX8_of_26 : decode cX8_of 26 = .ok (.iconst 5, 1) := by decide +kernel
theorem dX8_of_27 : decode cX8_of 27 = .ok (.iload_n 1, 1) := by decide +kernel
theorem dX8_of_28 : decode cX8_of 28 = .ok (.imul, 1) := by decide +kernel
theorem dX8_of_29 : decode cX8_of 29 = .ok (.iadd, 1) := by decide +kernel
theorem dX8_of_30 : decode cX8_of 30 = .ok (.iload_n 2, 1) := by decide +kernel
theorem dX8_of_31 : decode cX8_of 31 = .ok (.iadd, 1) := by decide +kernel
theorem dX8_of_32 : decode cX8_of 32 = .ok (.iaload, 1) := by decide +kernel
theorem dX8_of_33 : decode cX8_of 33 = .ok (.goto 7, 3) := by decide +kernel
theorem dX8_of_36 : decode cX8_of 36 = .ok (.aload_n 0, 1) := by decide +kernel
theorem dX8_of_37 : decode cX8_of 37 = .ok (.invokevirtual 54, 3) := by decide +kernel
theorem dX8_of_40 : decode cX8_of 40 = .ok (.ireturn, 1) := by decide +kernel
set_option maxRecDepth 20000 in
theorem ggX8_isPossible_X8_has : GoodIn wsX8_isPossible wsX8_has := goodIn_r _ [5] (by decide +kernel) (by decide +kernel)
set_option maxRecDepth 20000 in
theorem gX8_isPossible_X8_has : GoodIn wsX8_isPossible (va_wsS RX8 154 yX8_has wsX8_has) := goodIn_app (goodIn_of _ (by decide +kernel)) ggX8_isPossible_X8_has
theorem dX8_isPossible_0 : decode cX8_isPossible 0 = .ok (.iconst 1, 1) := by decide +kernel
theorem dX8_isPossible_1 : decode cX8_isPossible 1 = .ok (.istore_n 2, 1) := by decide +kernel
theorem dX8_isPossible_2 : decode cX8_isPossible 2 = .ok (.iconst 0, 1) := by decide +kernel
theorem dX8_isPossible_3 : decode cX8_isPossible 3 = .ok (.istore_n 3, 1) := by decide +kernel
theorem dX8_isPossible_4 : decode cX8_isPossible 4 = .ok (.iload_n 3, 1) := by decide +kernel
theorem dX8_isPossible_5 : decode cX8_isPossible 5 = .ok (.aload_n 0, 1) := by decide +kernel
theorem dX8_isPossible_6 : decode cX8_isPossible 6 = .ok (.getfield 7, 3) := by decide +kernel
theorem dX8_isPossible_9 : decode cX8_isPossible 9 = .ok (.iconst 0, 1) := by decide +kernel
theorem dX8_isPossible_10 : decode cX8_isPossible 10 = .ok (.iaload, 1) := by decide +kernel
theorem dX8_isPossible_11 : decode cX8_isPossible 11 = .ok (.if_icmp .ge 130, 3) := by decide +kernel
theorem dX8_isPossible_14 : decode cX8_isPossible 14 = .ok (.iload_n 1, 1) := by decide +kernel
theorem dX8_isPossible_15 : decode cX8_isPossible 15 = .ok (.aload_n 0, 1) := by decide +kernel
theorem dX8_isPossible_16 : decode cX8_isPossible 16 = .ok (.getfield 7, 3) := by decide +kernel
theorem dX8_isPossible_19 : decode cX8_isPossible 19 = .ok (.iconst 5, 1) := by decide +kernel
theorem dX8_isPossible_20 : decode cX8_isPossible 20 = .ok (.iconst 3, 1) := by decide +kernel
theorem dX8_isPossible_21 : decode cX8_isPossible 21 = .ok (.iload_n 3, 1) := by decide +kernel
theorem dX8_isPossible_22 : decode cX8_isPossible 22 = .ok (.imul, 1) := by decide +kernel
theorem dX8_isPossible_23 : decode cX8_isPossible 23 = .ok (.iadd, 1) := by decide +kernel
theorem dX8_isPossible_24 : decode cX8_isPossible 24 = .ok (.iconst 1, 1) := by decide +kernel
theorem dX8_isPossible_25 : decode cX8_isPossible 25 = .ok (.iadd, 1) := by decide +kernel
theorem dX8_isPossible_26 : decode cX8_isPossible 26 = .ok (.iaload, 1) := by decide +kernel
theorem dX8_isPossible_27 : decode cX8_isPossible 27 = .ok (.invokestatic 154, 3) := by decide +kernel
theorem dX8_isPossible_30 : decode cX8_isPossible 30 = .ok (.istore 4, 2) := by decide +kernel
theorem dX8_isPossible_32 : decode cX8_isPossible 32 = .ok (.iload_n 1, 1) := by decide +kernel
theorem dX8_isPossible_33 : decode cX8_isPossible 33 = .ok (.aload_n 0, 1) := by decide +kernel
theorem dX8_isPossible_34 : decode cX8_isPossible 34 = .ok (.getfield 7, 3) := by decide +kernel
theorem dX8_isPossible_37 : decode cX8_isPossible 37 = .ok (.iconst 5, 1) := by decide +kernel
theorem dX8_isPossible_38 : decode cX8_isPossible 38 = .ok (.iconst 3, 1) := by decide +kernel
theorem dX8_isPossible_39 : decode cX8_isPossible 39 = .ok (.iload_n 3, 1) := by decide +kernel
theorem dX8_isPossible_40 : decode cX8_isPossible 40 = .ok (.imul, 1) := by decide +kernel
theorem dX8_isPossible_41 : decode cX8_isPossible 41 = .ok (.iadd, 1) := by decide +kernel
theorem dX8_isPossible_42 : decode cX8_isPossible 42 = .ok (.iconst 2, 1) := by decide +kernel
theorem dX8_isPossible_43 : decode cX8_isPossible 43 = .ok (.iadd, 1) := by decide +kernel
theorem dX8_isPossible_44 : decode cX8_isPossible 44 = .ok (.iaload, 1) := by decide +kernel
theorem dX8_isPossible_45 : decode cX8_isPossible 45 = .ok (.invokestatic 154, 3) := by decide +kernel
theorem dX8_isPossible_48 : decode cX8_isPossible 48 = .ok (.istore 5, 2) := by decide +kernel
theorem dX8_isPossible_50 : decode cX8_isPossible 50 = .ok (.aload_n 0, 1) := by decide +kernel
theorem dX8_isPossible_51 : decode cX8_isPossible 51 = .ok (.getfield 7, 3) := by decide +kernel
theorem dX8_isPossible_54 : decode cX8_isPossible 54 = .ok (.iconst 5, 1) := by decide +kernel
theorem dX8_isPossible_55 : decode cX8_isPossible 55 = .ok (.iconst 3, 1) := by decide +kernel
theorem dX8_isPossible_56 : decode cX8_isPossible 56 = .ok (.iload_n 3, 1) := by decide +kernel
theorem dX8_isPossible_57 : decode cX8_isPossible 57 = .ok (.imul, 1) := by decide +kernel
theorem dX8_isPossible_58 : decode cX8_isPossible 58 = .ok (.iadd, 1) := by decide +kernel
theorem dX8_isPossible_59 : decode cX8_isPossible 59 = .ok (.iaload, 1) := by decide +kernel
theorem dX8_isPossible_60 : decode cX8_isPossible 60 = .ok (.istore 6, 2) := by decide +kernel
theorem dX8_isPossible_62 : decode cX8_isPossible 62 = .ok (.iload_n 2, 1) := by decide +kernel
theorem dX8_isPossible_63 : decode cX8_isPossible 63 = .ok (.ifCond .eq 70, 3) := by decide +kernel
theorem dX8_isPossible_66 : decode cX8_isPossible 66 = .ok (.iload 6, 2) := by decide +kernel
theorem dX8_isPossible_68 : decode cX8_isPossible 68 = .ok (.ifCond .ne 16, 3) := by decide +kernel
theorem dX8_isPossible_71 : decode cX8_isPossible 71 = .ok (.iload 4, 2) := by decide +kernel
theorem dX8_isPossible_73 : decode cX8_isPossible 73 = .ok (.ifCond .eq 56, 3) := by decide +kernel
theorem dX8_isPossible_76 : decode cX8_isPossible 76 = .ok (.iload 5, 2) := by decide +kernel
theorem dX8_isPossible_78 : decode cX8_isPossible 78 = .ok (.ifCond .eq 55, 3) := by decide +kernel
theorem dX8_isPossible_81 : decode cX8_isPossible 81 = .ok (.goto 48, 3) := by decide +kernel
theorem dX8_isPossible_84 : decode cX8_isPossible 84 = .ok (.iload 6, 2) := by decide +kernel
theorem dX8_isPossible_86 : decode cX8_isPossible 86 = .ok (.iconst 1, 1) := by decide +kernel
theorem dX8_isPossible_87 : decode cX8_isPossible 87 = .ok (.if_icmp .ne 16, 3) := by decide +kernel
theorem dX8_isPossible_90 : decode cX8_isPossible 90 = .ok (.iload 4, 2) := by decide +kernel
theorem dX8_isPossible_92 : decode cX8_isPossible 92 = .ok (.ifCond .eq 37, 3) := by decide +kernel
theorem dX8_isPossible_95 : decode cX8_isPossible 95 = .ok (.iload 5, 2) := by decide +kernel
theorem dX8_isPossible_97 : decode cX8_isPossible 97 = .ok (.ifCond .ne 36, 3) := by decide +kernel
theorem dX8_isPossible_100 : decode cX8_isPossible 100 = .ok (.goto 29, 3) := by decide +kernel
theorem dX8_isPossible_103 : decode cX8_isPossible 103 = .ok (.iload 6, 2) := by decide +kernel
theorem dX8_isPossible_105 : decode cX8_isPossible 105 = .ok (.iconst 2, 1) := by decide +kernel
theorem dX8_isPossible_106 : decode cX8_isPossible 106 = .ok (.if_icmp .ne 16, 3) := by decide +kernel
theorem dX8_isPossible_109 : decode cX8_isPossible 109 = .ok (.iload 4, 2) := by decide +kernel
theorem dX8_isPossible_111 : decode cX8_isPossible 111 = .ok (.ifCond .ne 18, 3) := by decide +kernel
theorem dX8_isPossible_114 : decode cX8_isPossible 114 = .ok (.iload 5, 2) := by decide +kernel
theorem dX8_isPossible_116 : decode cX8_isPossible 116 = .ok (.ifCond .eq 17, 3) := by decide +kernel
theorem dX8_isPossible_119 : decode cX8_isPossible 119 = .ok (.goto 10, 3) := by decide +kernel
theorem dX8_isPossible_122 : decode cX8_isPossible 122 = .ok (.iload 4, 2) := by decide +kernel
theorem dX8_isPossible_124 : decode cX8_isPossible 124 = .ok (.iload 5, 2) := by decide +kernel
theorem dX8_isPossible_126 : decode cX8_isPossible 126 = .ok (.if_icmp .ne 7, 3) := by decide +kernel
theorem dX8_isPossible_129 : decode cX8_isPossible 129 = .ok (.iconst 1, 1) := by decide +kernel
theorem dX8_isPossible_130 : decode cX8_isPossible 130 = .ok (.goto 4, 3) := by decide +kernel
theorem dX8_isPossible_133 : decode cX8_isPossible 133 = .ok (.iconst 0, 1) := by decide +kernel
theorem dX8_isPossible_134 : decode cX8_isPossible 134 = .ok (.istore_n 2, 1) := by decide +kernel
theorem dX8_isPossible_135 : decode cX8_isPossible 135 = .ok (.iinc 3 1, 3) := by decide +kernel
theorem dX8_isPossible_138 : decode cX8_isPossible 138 = .ok (.goto (-134), 3) := by decide +kernel
theorem dX8_isPossible_141 : decode cX8_isPossible 141 = .ok (.iload_n 2, 1) := by decide +kernel
theorem dX8_isPossible_142 : decode cX8_isPossible 142 = .ok (.ireturn, 1) := by decide +kernel
set_option maxRecDepth 20000 in
theorem ggX8_weighed_X8_isPossible : GoodIn wsX8_weighed wsX8_isPossible := goodIn_r _ [6, 1, 7, 8, 5, 9, 10, 11, 12, 13, 14, 15, 16, 17, 18, 19, 20, 21, 22, 23, 24, 25, 26, 27] (by decide +kernel) (by decide +kernel)
set_option maxRecDepth 20000 in
theorem gX8_weighed_X8_isPossible : GoodIn wsX8_weighed (wsV RX8 158 RX8 yX8_isPossible wsX8_isPossible) := goodIn_app (goodIn_of _ (by decide +kernel)) ggX8_weighed_X8_isPossible
set_option maxRecDepth 20000 in
theorem ggX8_weighed_X8_has : GoodIn wsX8_weighed wsX8_has := goodIn_r _ [9] (by decide +kernel) (by decide +kernel)
set_option maxRecDepth 20000 in
theorem gX8_weighed_X8_has : GoodIn wsX8_weighed (va_wsS RX8 154 yX8_has wsX8_has) := goodIn_app (goodIn_of _ (by decide +kernel)) ggX8_weighed_X8_has
theorem dX8_weighed_0 : decode cX8_weighed 0 = .ok (.aload_n 0, 1) := by decide +kernel
theorem dX8_weighed_1 : decode cX8_weighed 1 = .ok (.iload_n 1, 1) := by decide +kernel
theorem dX8_weighed_2 : decode cX8_weighed 2 = .ok (.invokevirtual 158, 3) := by decide +kernel
theorem dX8_weighed_5 : decode cX8_weighed 5 = .ok (.ifCond .eq 7, 3) := by decide +kernel
theorem dX8_weighed_8 : decode cX8_weighed 8 = .ok (.lconst 1, 1) := by decide +kernel
theorem dX8_weighed_9 : decode cX8_weighed 9 = .ok (.goto 4, 3) := by decide +kernel
theorem dX8_weighed_12 : decode cX8_weighed 12 = .ok (.lconst 0, 1) := by decide +kernel
theorem dX8_weighed_13 : decode cX8_weighed 13 = .ok (.lstore_n 3, 1) := by decide +kernel
theorem dX8_weighed_14 : decode cX8_weighed 14 = .ok (.iconst 0, 1) := by decide +kernel
theorem dX8_weighed_15 : decode cX8_weighed 15 = .ok (.istore 5, 2) := by decide +kernel
theorem dX8_weighed_17 : decode cX8_weighed 17 = .ok (.iload 5, 2) := by decide +kernel
theorem dX8_weighed_19 : decode cX8_weighed 19 = .ok (.aload_n 0, 1) := by decide +kernel
theorem dX8_weighed_20 : decode cX8_weighed 20 = .ok (.getfield 7, 3) := by decide +kernel
theorem dX8_weighed_23 : decode cX8_weighed 23 = .ok (.iconst 1, 1) := by decide +kernel
theorem dX8_weighed_24 : decode cX8_weighed 24 = .ok (.iaload, 1) := by decide +kernel
theorem dX8_weighed_25 : decode cX8_weighed 25 = .ok (.if_icmp .ge 107, 3) := by decide +kernel
theorem dX8_weighed_28 : decode cX8_weighed 28 = .ok (.iload_n 1, 1) := by decide +kernel
theorem dX8_weighed_29 : decode cX8_weighed 29 = .ok (.aload_n 0, 1) := by decide +kernel
theorem dX8_weighed_30 : decode cX8_weighed 30 = .ok (.getfield 7, 3) := by decide +kernel
theorem dX8_weighed_33 : decode cX8_weighed 33 = .ok (.bipush 29, 2) := by decide +kernel
theorem dX8_weighed_35 : decode cX8_weighed 35 = .ok (.iconst 3, 1) := by decide +kernel
theorem dX8_weighed_36 : decode cX8_weighed 36 = .ok (.iload 5, 2) := by decide +kernel
theorem dX8_weighed_38 : decode cX8_weighed 38 = .ok (.imul, 1) := by decide +kernel
theorem dX8_weighed_39 : decode cX8_weighed 39 = .ok (.iadd, 1) := by decide +kernel
theorem dX8_weighed_40 : decode cX8_weighed 40 = .ok (.iaload, 1) := by decide +kernel
theorem dX8_weighed_41 : decode cX8_weighed 41 = .ok (.invokestatic 154, 3) := by decide +kernel
theorem dX8_weighed_44 : decode cX8_weighed 44 = .ok (.aload_n 0, 1) := by decide +kernel
theorem dX8_weighed_45 : decode cX8_weighed 45 = .ok (.getfield 7, 3) := by decide +kernel
theorem dX8_weighed_48 : decode cX8_weighed 48 = .ok (.bipush 29, 2) := by decide +kernel
theorem dX8_weighed_50 : decode cX8_weighed 50 = .ok (.iconst 3, 1) := by decide +kernel
theorem dX8_weighed_51 : decode cX8_weighed 51 = .ok (.iload 5, 2) := by decide +kernel
theorem dX8_weighed_53 : decode cX8_weighed 53 = .ok (.imul, 1) := by decide +kernel
theorem dX8_weighed_54 : decode cX8_weighed 54 = .ok (.iadd, 1) := by decide +kernel
theorem dX8_weighed_55 : decode cX8_weighed 55 = .ok (.iconst 1, 1) := by decide +kernel
theorem dX8_weighed_56 : decode cX8_weighed 56 = .ok (.iadd, 1) := by decide +kernel
theorem dX8_weighed_57 : decode cX8_weighed 57 = .ok (.iaload, 1) := by decide +kernel
theorem dX8_weighed_58 : decode cX8_weighed 58 = .ok (.iconst 1, 1) := by decide +kernel
theorem dX8_weighed_59 : decode cX8_weighed 59 = .ok (.if_icmp .ne 7, 3) := by decide +kernel
theorem dX8_weighed_62 : decode cX8_weighed 62 = .ok (.iconst 1, 1) := by decide +kernel
theorem dX8_weighed_63 : decode cX8_weighed 63 = .ok (.goto 4, 3) := by decide +kernel
theorem dX8_weighed_66 : decode cX8_weighed 66 = .ok (.iconst 0, 1) := by decide +kernel
theorem dX8_weighed_67 : decode cX8_weighed 67 = .ok (.if_icmp .ne 7, 3) := by decide +kernel
theorem dX8_weighed_70 : decode cX8_weighed 70 = .ok (.iconst 1, 1) := by decide +kernel
theorem dX8_weighed_71 : decode cX8_weighed 71 = .ok (.goto 4, 3) := by decide +kernel
theorem dX8_weighed_74 : decode cX8_weighed 74 = .ok (.iconst 0, 1) := by decide +kernel
theorem dX8_weighed_75 : decode cX8_weighed 75 = .ok (.istore 6, 2) := by decide +kernel
theorem dX8_weighed_77 : decode cX8_weighed 77 = .ok (.aload_n 0, 1) := by decide +kernel
theorem dX8_weighed_78 : decode cX8_weighed 78 = .ok (.getfield 7, 3) := by decide +kernel
theorem dX8_weighed_81 : decode cX8_weighed 81 = .ok (.bipush 29, 2) := by decide +kernel
theorem dX8_weighed_83 : decode cX8_weighed 83 = .ok (.iconst 3, 1) := by decide +kernel
theorem dX8_weighed_84 : decode cX8_weighed 84 = .ok (.iload 5, 2) := by decide +kernel
theorem dX8_weighed_86 : decode cX8_weighed 86 = .ok (.imul, 1) := by decide +kernel
theorem dX8_weighed_87 : decode cX8_weighed 87 = .ok (.iadd, 1) := by decide +kernel
theorem dX8_weighed_88 : decode cX8_weighed 88 = .ok (.iconst 2, 1) := by decide +kernel
theorem dX8_weighed_89 : decode cX8_weighed 89 = .ok (.iadd, 1) := by decide +kernel
theorem dX8_weighed_90 : decode cX8_weighed 90 = .ok (.iaload, 1) := by decide +kernel
theorem dX8_weighed_91 : decode cX8_weighed 91 = .ok (.istore 7, 2) := by decide +kernel
theorem dX8_weighed_93 : decode cX8_weighed 93 = .ok (.lload_n 3, 1) := by decide +kernel
theorem dX8_weighed_94 : decode cX8_weighed 94 = .ok (.iload_n 2, 1) := by decide +kernel
theorem dX8_weighed_95 : decode cX8_weighed 95 = .ok (.iload 5, 2) := by decide +kernel
theorem dX8_weighed_97 : decode cX8_weighed 97 = .ok (.invokestatic 154, 3) := by decide +kernel
theorem dX8_weighed_100 : decode cX8_weighed 100 = .ok (.ifCond .eq 7, 3) := by decide +kernel
theorem dX8_weighed_103 : decode cX8_weighed 103 = .ok (.lconst 1, 1) := by decide +kernel
theorem dX8_weighed_104 : decode cX8_weighed 104 = .ok (.goto 20, 3) := by decide +kernel
theorem dX8_weighed_107 : decode cX8_weighed 107 = .ok (.iload 6, 2) := by decide +kernel
theorem dX8_weighed_109 : decode cX8_weighed 109 = .ok (.ifCond .eq 9, 3) := by decide +kernel
theorem dX8_weighed_112 : decode cX8_weighed 112 = .ok (.iload 7, 2) := by decide +kernel
theorem dX8_weighed_114 : decode cX8_weighed 114 = .ok (.i2l, 1) := by decide +kernel
theorem dX8_weighed_115 : decode cX8_weighed 115 = .ok (.goto 9, 3) := by decide +kernel
theorem dX8_weighed_118 : decode cX8_weighed 118 = .ok (.bipush 10, 2) := by decide +kernel
theorem dX8_weighed_120 : decode cX8_weighed 120 = .ok (.iload 7, 2) := by decide +kernel
theorem dX8_weighed_122 : decode cX8_weighed 122 = .ok (.isub, 1) := by decide +kernel
theorem dX8_weighed_123 : decode cX8_weighed 123 = .ok (.i2l, 1) := by decide +kernel
theorem dX8_weighed_124 : decode cX8_weighed 124 = .ok (.lmul, 1) := by decide +kernel
theorem dX8_weighed_125 : decode cX8_weighed 125 = .ok (.lstore_n 3, 1) := by decide +kernel
theorem dX8_weighed_126 : decode cX8_weighed 126 = .ok (.iinc 5 1, 3) := by decide +kernel
theorem dX8_weighed_129 : decode cX8_weighed 129 = .ok (.goto (-112), 3) := by decide +kernel
theorem dX8_weighed_132 : decode cX8_weighed 132 = .ok (.lload_n 3, 1) := by decide +kernel
theorem dX8_weighed_133 : decode cX8_weighed 133 = .ok (.lreturn, 1) := by decide +kernel
set_option maxRecDepth 20000 in
theorem ggX8_weighAll_X8_weighed : GoodIn wsX8_weighAll wsX8_weighed := goodIn_r _ [7, 8, 9, 10, 11, 6, 12, 13, 14, 15, 16, 17, 18, 19, 20, 21, 22, 23, 24, 25, 26, 27, 28, 29, 30, 31, 32, 33] (by decide +kernel) (by decide +kernel)
set_option maxRecDepth 20000 in
theorem gX8_weighAll_X8_weighed : GoodIn wsX8_weighAll (wsV RX8 164 RX8 yX8_weighed wsX8_weighed) := goodIn_app (goodIn_of _ (by decide +kernel)) ggX8_weighAll_X8_weighed
theorem dX8_weighAll_0 : decode cX8_weighAll 0 = .ok (.aload_n 0, 1) := by decide +kernel
theorem dX8_weighAll_1 : decode cX8_weighAll 1 = .ok (.lconst 0, 1) := by decide +kernel
theorem dX8_weighAll_2 : decode cX8_weighAll 2 = .ok (.putfield 161, 3) := by decide +kernel
theorem dX8_weighAll_5 : decode cX8_weighAll 5 = .ok (.iconst 0, 1) := by decide +kernel
theorem dX8_weighAll_6 : decode cX8_weighAll 6 = .ok (.istore_n 2, 1) := by decide +kernel
theorem dX8_weighAll_7 : decode cX8_weighAll 7 = .ok (.iload_n 2, 1) := by decide +kernel
theorem dX8_weighAll_8 : decode cX8_weighAll 8 = .ok (.sipush 128, 3) := by decide +kernel
theorem dX8_weighAll_11 : decode cX8_weighAll 11 = .ok (.if_icmp .ge 36, 3) := by decide +kernel
theorem dX8_weighAll_14 : decode cX8_weighAll 14 = .ok (.aload_n 0, 1) := by decide +kernel
theorem dX8_weighAll_15 : decode cX8_weighAll 15 = .ok (.getfield 30, 3) := by decide +kernel
theorem dX8_weighAll_18 : decode cX8_weighAll 18 = .ok (.iload_n 2, 1) := by decide +kernel
theorem dX8_weighAll_19 : decode cX8_weighAll 19 = .ok (.aload_n 0, 1) := by decide +kernel
theorem dX8_weighAll_20 : decode cX8_weighAll 20 = .ok (.iload_n 2, 1) := by decide +kernel
theorem dX8_weighAll_21 : decode cX8_weighAll 21 = .ok (.iload_n 1, 1) := by decide +kernel
theorem dX8_weighAll_22 : decode cX8_weighAll 22 = .ok (.invokevirtual 164, 3) := by decide +kernel
theorem dX8_weighAll_25 : decode cX8_weighAll 25 = .ok (.lastore, 1) := by decide +kernel
theorem dX8_weighAll_26 : decode cX8_weighAll 26 = .ok (.aload_n 0, 1) := by decide +kernel
theorem dX8_weighAll_27 : decode cX8_weighAll 27 = .ok (.dup, 1) := by decide +kernel
theorem dX8_weighAll_28 : decode cX8_weighAll 28 = .ok (.getfield 161, 3) := by decide +kernel
theorem dX8_weighAll_31 : decode cX8_weighAll 31 = .ok (.aload_n 0, 1) := by decide +kernel
theorem dX8_weighAll_32 : decode cX8_weighAll 32 = .ok (.getfield 30, 3) := by decide +kernel
theorem dX8_weighAll_35 : decode cX8_weighAll 35 = .ok (.iload_n 2, 1) := by decide +kernel
theorem dX8_weighAll_36 : decode cX8_weighAll 36 = .ok (.laload, 1) := by decide +kernel
theorem dX8_weighAll_37 : decode cX8_weighAll 37 = .ok (.ladd, 1) := by decide +kernel
theorem dX8_weighAll_38 : decode cX8_weighAll 38 = .ok (.putfield 161, 3) := by decide +kernel
theorem dX8_weighAll_41 : decode cX8_weighAll 41 = .ok (.iinc 2 1, 3) := by decide +kernel
theorem dX8_weighAll_44 : decode cX8_weighAll 44 = .ok (.goto (-37), 3) := by decide +kernel
theorem dX8_weighAll_47 : decode cX8_weighAll 47 = .ok (.return_, 1) := by decide +kernel
set_option maxRecDepth 20000 in
theorem ggX8_fits_X8_weighAll : GoodIn wsX8_fits wsX8_weighAll := goodIn_r _ [6, 1, 7, 8, 9, 10, 5, 11, 12, 13, 14, 15, 16, 17, 18, 19, 20, 21, 22, 23, 24, 25, 26, 27, 28, 29, 30, 31, 32, 33, 34, 35, 36, 37] (by decide +kernel) (by decide +kernel)
set_option maxRecDepth 20000 in
theorem gX8_fits_X8_weighAll : GoodIn wsX8_fits (wsV RX8 168 RX8 yX8_weighAll wsX8_weighAll) := goodIn_app (goodIn_of _ (by decide +kernel)) ggX8_fits_X8_weighAll
theorem dX8_fits_0 : decode cX8_fits 0 = .ok (.aload_n 0, 1) := by decide +kernel
theorem dX8_fits_1 : decode cX8_fits 1 = .ok (.iconst 0, 1) := by decide +kernel
theorem dX8_fits_2 : decode cX8_fits 2 = .ok (.invokevirtual 168, 3) := by decide +kernel
theorem dX8_fits_5 : decode cX8_fits 5 = .ok (.aload_n 0, 1) := by decide +kernel
theorem dX8_fits_6 : decode cX8_fits 6 = .ok (.getfield 161, 3) := by decide +kernel
theorem dX8_fits_9 : decode cX8_fits 9 = .ok (.lconst 0, 1) := by decide +kernel
theorem dX8_fits_10 : decode cX8_fits 10 = .ok (.lcmp, 1) := by decide +kernel
theorem dX8_fits_11 : decode cX8_fits 11 = .ok (.ifCond .le 7, 3) := by decide +kernel
theorem dX8_fits_14 : decode cX8_fits 14 = .ok (.iconst 1, 1) := by decide +kernel
theorem dX8_fits_15 : decode cX8_fits 15 = .ok (.goto 4, 3) := by decide +kernel
theorem dX8_fits_18 : decode cX8_fits 18 = .ok (.iconst 0, 1) := by decide +kernel
theorem dX8_fits_19 : decode cX8_fits 19 = .ok (.ireturn, 1) := by decide +kernel
set_option maxRecDepth 20000 in
theorem ggX8_possible_X8_badAs : GoodIn wsX8_possible wsX8_badAs := goodIn_r _ [5, 6, 15, 16, 17, 18, 19, 20, 21, 22, 23, 24, 25, 26, 27, 28, 29, 30, 31, 32] (by decide +kernel) (by decide +kernel)
set_option maxRecDepth 20000 in
theorem gX8_possible_X8_badAs : GoodIn wsX8_possible (wsV RX8 171 RX8 yX8_badAs wsX8_badAs) := goodIn_app (goodIn_of _ (by decide +kernel)) ggX8_possible_X8_badAs
set_option maxRecDepth 20000 in
theorem ggX8_possible_X8_isPossible : GoodIn wsX8_possible wsX8_isPossible := goodIn_r _ [10, 11, 12, 13, 4, 14, 15, 16, 17, 18, 19, 20, 21, 22, 23, 24, 25, 26, 27, 28, 29, 30, 31, 32] (by decide +kernel) (by decide +kernel)
set_option maxRecDepth 20000 in
theorem gX8_possible_X8_isPossible : GoodIn wsX8_possible (wsV RX8 158 RX8 yX8_isPossible wsX8_isPossible) := goodIn_app (goodIn_of _ (by decide +kernel)) ggX8_possible_X8_isPossible
theorem dX8_possible_0 : decode cX8_possible 0 = .ok (.iload_n 1, 1) := by decide +kernel
theorem dX8_possible_1 : decode cX8_possible 1 = .ok (.iconst (-1), 1) := by decide +kernel
theorem dX8_possible_2 : decode cX8_possible 2 = .ok (.if_icmp .ge 10, 3) := by decide +kernel
theorem dX8_possible_5 : decode cX8_possible 5 = .ok (.aload_n 0, 1) := by decide +kernel
theorem dX8_possible_6 : decode cX8_possible 6 = .ok (.bipush (-10), 2) := by decide +kernel
theorem dX8_possible_8 : decode cX8_possible 8 = .ok (.invokevirtual 171, 3) := by decide +kernel
theorem dX8_possible_11 : decode cX8_possible 11 = .ok (.ireturn, 1) := by decide +kernel
theorem dX8_possible_12 : decode cX8_possible 12 = .ok (.iconst 0, 1) := by decide +kernel
theorem dX8_possible_13 : decode cX8_possible 13 = .ok (.istore_n 2, 1) := by decide +kernel
theorem dX8_possible_14 : decode cX8_possible 14 = .ok (.iconst 0, 1) := by decide +kernel
theorem dX8_possible_15 : decode cX8_possible 15 = .ok (.istore_n 3, 1) := by decide +kernel
theorem dX8_possible_16 : decode cX8_possible 16 = .ok (.iload_n 3, 1) := by decide +kernel
theorem dX8_possible_17 : decode cX8_possible 17 = .ok (.sipush 128, 3) := by decide +kernel
theorem dX8_possible_20 : decode cX8_possible 20 = .ok (.if_icmp .ge 27, 3) := by decide +kernel
theorem dX8_possible_23 : decode cX8_possible 23 = .ok (.aload_n 0, 1) := by decide +kernel
theorem dX8_possible_24 : decode cX8_possible 24 = .ok (.iload_n 3, 1) := by decide +kernel
theorem dX8_possible_25 : decode cX8_possible 25 = .ok (.invokevirtual 158, 3) := by decide +kernel
theorem dX8_possible_28 : decode cX8_possible 28 = .ok (.ifCond .eq 13, 3) := by decide +kernel
theorem dX8_possible_31 : decode cX8_possible 31 = .ok (.iload_n 2, 1) := by decide +kernel
theorem dX8_possible_32 : decode cX8_possible 32 = .ok (.iload_n 1, 1) := by decide +kernel
theorem dX8_possible_33 : decode cX8_possible 33 = .ok (.if_icmp .ne 5, 3) := by decide +kernel
theorem dX8_possible_36 : decode cX8_possible 36 = .ok (.iload_n 3, 1) := by decide +kernel
theorem dX8_possible_37 : decode cX8_possible 37 = .ok (.ireturn, 1) := by decide +kernel
theorem dX8_possible_38 : decode cX8_possible 38 = .ok (.iinc 2 1, 3) := by decide +kernel
theorem dX8_possible_41 : decode cX8_possible 41 = .ok (.iinc 3 1, 3) := by decide +kernel
theorem dX8_possible_44 : decode cX8_possible 44 = .ok (.goto (-28), 3) := by decide +kernel
theorem dX8_possible_47 : decode cX8_possible 47 = .ok (.iload_n 1, 1) := by decide +kernel
theorem dX8_possible_48 : decode cX8_possible 48 = .ok (.iconst (-1), 1) := by decide +kernel
theorem dX8_possible_49 : decode cX8_possible 49 = .ok (.if_icmp .ne 7, 3) := by decide +kernel
theorem dX8_possible_52 : decode cX8_possible 52 = .ok (.iload_n 2, 1) := by decide +kernel
theorem dX8_possible_53 : decode cX8_possible 53 = .ok (.goto 5, 3) := by decide +kernel
theorem dX8_possible_56 : decode cX8_possible 56 = .ok (.bipush (-5), 2) := by decide +kernel
theorem dX8_possible_58 : decode cX8_possible 58 = .ok (.ireturn, 1) := by decide +kernel
set_option maxRecDepth 20000 in
theorem ggX8_weighs_X8_isPast : GoodIn wsX8_weighs wsX8_isPast := goodIn_r _ [4, 5, 6, 7, 3, 8] (by decide +kernel) (by decide +kernel)
set_option maxRecDepth 20000 in
theorem gX8_weighs_X8_isPast : GoodIn wsX8_weighs (va_wsS RX8 174 yX8_isPast wsX8_isPast) := goodIn_app (goodIn_of _ (by decide +kernel)) ggX8_weighs_X8_isPast
set_option maxRecDepth 20000 in
theorem ggX8_weighs_X8_weighed : GoodIn wsX8_weighs wsX8_weighed := goodIn_r _ [12, 13, 14, 15, 16, 3, 17, 18, 19, 20, 26, 27, 28, 29, 30, 31, 32, 33, 34, 35, 36, 37, 38, 39, 40, 41, 42, 43] (by decide +kernel) (by decide +kernel)
set_option maxRecDepth 20000 in
theorem gX8_weighs_X8_weighed : GoodIn wsX8_weighs (wsV RX8 164 RX8 yX8_weighed wsX8_weighed) := goodIn_app (goodIn_of _ (by decide +kernel)) ggX8_weighs_X8_weighed
set_option maxRecDepth 20000 in
theorem ggX8_weighs_X8_badAs : GoodIn wsX8_weighs wsX8_badAs := goodIn_r _ [24, 25, 26, 27, 28, 29, 30, 31, 32, 33, 34, 35, 36, 37, 38, 39, 40, 41, 42, 43] (by decide +kernel) (by decide +kernel)
set_option maxRecDepth 20000 in
theorem gX8_weighs_X8_badAs : GoodIn wsX8_weighs (wsV RX8 171 RX8 yX8_badAs wsX8_badAs) := goodIn_app (goodIn_of _ (by decide +kernel)) ggX8_weighs_X8_badAs
theorem dX8_weighs_0 : decode cX8_weighs 0 = .ok (.iload_n 1, 1) := by decide +kernel
theorem dX8_weighs_1 : decode cX8_weighs 1 = .ok (.invokestatic 174, 3) := by decide +kernel
theorem dX8_weighs_4 : decode cX8_weighs 4 = .ok (.ifCond .eq 12, 3) := by decide +kernel
theorem dX8_weighs_7 : decode cX8_weighs 7 = .ok (.aload_n 0, 1) := by decide +kernel
theorem dX8_weighs_8 : decode cX8_weighs 8 = .ok (.iload_n 1, 1) := by decide +kernel
theorem dX8_weighs_9 : decode cX8_weighs 9 = .ok (.iconst 0, 1) := by decide +kernel
theorem dX8_weighs_10 : decode cX8_weighs 10 = .ok (.invokevirtual 164, 3) := by decide +kernel
theorem dX8_weighs_13 : decode cX8_weighs 13 = .ok (.goto 10, 3) := by decide +kernel
theorem dX8_weighs_16 : decode cX8_weighs 16 = .ok (.aload_n 0, 1) := by decide +kernel
theorem dX8_weighs_17 : decode cX8_weighs 17 = .ok (.bipush (-10), 2) := by decide +kernel
theorem dX8_weighs_19 : decode cX8_weighs 19 = .ok (.invokevirtual 171, 3) := by decide +kernel
theorem dX8_weighs_22 : decode cX8_weighs 22 = .ok (.i2l, 1) := by decide +kernel
theorem dX8_weighs_23 : decode cX8_weighs 23 = .ok (.lreturn, 1) := by decide +kernel
set_option maxRecDepth 20000 in
theorem ggX8_heaviest_X8_fits : GoodIn wsX8_heaviest wsX8_fits := goodIn_r _ [6, 7, 8, 9, 10, 5, 11, 1, 12, 13, 14, 15, 16, 17, 18, 19, 20, 21, 22, 23, 24, 25, 26, 27, 28, 29, 30, 31, 32, 33, 34, 35, 36, 37, 38, 39, 40, 41] (by decide +kernel) (by decide +kernel)
set_option maxRecDepth 20000 in
theorem gX8_heaviest_X8_fits : GoodIn wsX8_heaviest (wsV RX8 177 RX8 yX8_fits wsX8_fits) := goodIn_app (goodIn_of _ (by decide +kernel)) ggX8_heaviest_X8_fits
theorem dX8_heaviest_0 : decode cX8_heaviest 0 = .ok (.aload_n 0, 1) := by decide +kernel
theorem dX8_heaviest_1 : decode cX8_heaviest 1 = .ok (.invokevirtual 177, 3) := by decide +kernel
theorem dX8_heaviest_4 : decode cX8_heaviest 4 = .ok (.ifCond .ne 5, 3) := by decide +kernel
theorem dX8_heaviest_7 : decode cX8_heaviest 7 = .ok (.iconst (-1), 1) := by decide +kernel
theorem dX8_heaviest_8 : decode cX8_heaviest 8 = .ok (.ireturn, 1) := by decide +kernel
theorem dX8_heaviest_9 : decode cX8_heaviest 9 = .ok (.iconst 0, 1) := by decide +kernel
theorem dX8_heaviest_10 : decode cX8_heaviest 10 = .ok (.istore_n 1, 1) := by decide +kernel
theorem dX8_heaviest_11 : decode cX8_heaviest 11 = .ok (.iconst 1, 1) := by decide +kernel
theorem dX8_heaviest_12 : decode cX8_heaviest 12 = .ok (.istore_n 2, 1) := by decide +kernel
theorem dX8_heaviest_13 : decode cX8_heaviest 13 = .ok (.iload_n 2, 1) := by decide +kernel
theorem dX8_heaviest_14 : decode cX8_heaviest 14 = .ok (.sipush 128, 3) := by decide +kernel
theorem dX8_heaviest_17 : decode cX8_heaviest 17 = .ok (.if_icmp .ge 31, 3) := by decide +kernel
theorem dX8_heaviest_20 : decode cX8_heaviest 20 = .ok (.aload_n 0, 1) := by decide +kernel
theorem dX8_heaviest_21 : decode cX8_heaviest 21 = .ok (.getfield 30, 3) := by decide +kernel
theorem dX8_heaviest_24 : decode cX8_heaviest 24 = .ok (.iload_n 2, 1) := by decide +kernel
theorem dX8_heaviest_25 : decode cX8_heaviest 25 = .ok (.laload, 1) := by decide +kernel
theorem dX8_heaviest_26 : decode cX8_heaviest 26 = .ok (.aload_n 0, 1) := by decide +kernel
theorem dX8_heaviest_27 : decode cX8_heaviest 27 = .ok (.getfield 30, 3) := by decide +kernel
theorem dX8_heaviest_30 : decode cX8_heaviest 30 = .ok (.iload_n 1, 1) := by decide +kernel
theorem dX8_heaviest_31 : decode cX8_heaviest 31 = .ok (.laload, 1) := by decide +kernel
theorem dX8_heaviest_32 : decode cX8_heaviest 32 = .ok (.lcmp, 1) := by decide +kernel
theorem dX8_heaviest_33 : decode cX8_heaviest 33 = .ok (.ifCond .le 7, 3) := by decide +kernel
theorem dX8_heaviest_36 : decode cX8_heaviest 36 = .ok (.iload_n 2, 1) := by decide +kernel
theorem dX8_heaviest_37 : decode cX8_heaviest 37 = .ok (.goto 4, 3) := by decide +kernel
theorem dX8_heaviest_40 : decode cX8_heaviest 40 = .ok (.iload_n 1, 1) := by decide +kernel
theorem dX8_heaviest_41 : decode cX8_heaviest 41 = .ok (.istore_n 1, 1) := by decide +kernel
theorem dX8_heaviest_42 : decode cX8_heaviest 42 = .ok (.iinc 2 1, 3) := by decide +kernel
theorem dX8_heaviest_45 : decode cX8_heaviest 45 = .ok (.goto (-32), 3) := by decide +kernel
theorem dX8_heaviest_48 : decode cX8_heaviest 48 = .ok (.iload_n 1, 1) := by decide +kernel
theorem dX8_heaviest_49 : decode cX8_heaviest 49 = .ok (.ireturn, 1) := by decide +kernel
set_option maxRecDepth 20000 in
theorem ggX8_isSo_X8_has : GoodIn wsX8_isSo wsX8_has := goodIn_r _ [4] (by decide +kernel) (by decide +kernel)
set_option maxRecDepth 20000 in
theorem gX8_isSo_X8_has : GoodIn wsX8_isSo (va_wsS RX8 154 yX8_has wsX8_has) := goodIn_app (goodIn_of _ (by decide +kernel)) ggX8_isSo_X8_has
theorem dX8_isSo_0 : decode cX8_isSo 0 = .ok (.iload_n 3, 1) := by decide +kernel
theorem dX8_isSo_1 : decode cX8_isSo 1 = .ok (.iload_n 1, 1) := by decide +kernel
theorem dX8_isSo_2 : decode cX8_isSo 2 = .ok (.invokestatic 154, 3) := by decide +kernel
theorem dX8_isSo_5 : decode cX8_isSo 5 = .ok (.istore 4, 2) := by decide +kernel
theorem dX8_isSo_7 : decode cX8_isSo 7 = .ok (.iload_n 3, 1) := by decide +kernel
theorem dX8_isSo_8 : decode cX8_isSo 8 = .ok (.iload_n 2, 1) := by decide +kernel
theorem dX8_isSo_9 : decode cX8_isSo 9 = .ok (.invokestatic 154, 3) := by decide +kernel
theorem dX8_isSo_12 : decode cX8_isSo 12 = .ok (.istore 5, 2) := by decide +kernel
theorem dX8_isSo_14 : decode cX8_isSo 14 = .ok (.iload_n 0, 1) := by decide +kernel
theorem dX8_isSo_15 : decode cX8_isSo 15 = .ok (.tableswitch 95 0 4 #[33, 36, 47, 63, 79], 33) := by decide +kernel
theorem dX8_isSo_48 : decode cX8_isSo 48 = .ok (.iload 4, 2) := by decide +kernel
theorem dX8_isSo_50 : decode cX8_isSo 50 = .ok (.ireturn, 1) := by decide +kernel
theorem dX8_isSo_51 : decode cX8_isSo 51 = .ok (.iload 4, 2) := by decide +kernel
theorem dX8_isSo_53 : decode cX8_isSo 53 = .ok (.ifCond .ne 7, 3) := by decide +kernel
theorem dX8_isSo_56 : decode cX8_isSo 56 = .ok (.iconst 1, 1) := by decide +kernel
theorem dX8_isSo_57 : decode cX8_isSo 57 = .ok (.goto 4, 3) := by decide +kernel
theorem dX8_isSo_60 : decode cX8_isSo 60 = .ok (.iconst 0, 1) := by decide +kernel
theorem dX8_isSo_61 : decode cX8_isSo 61 = .ok (.ireturn, 1) := by decide +kernel
theorem dX8_isSo_62 : decode cX8_isSo 62 = .ok (.iload 4, 2) := by decide +kernel
theorem dX8_isSo_64 : decode cX8_isSo 64 = .ok (.ifCond .eq 12, 3) := by decide +kernel
theorem dX8_isSo_67 : decode cX8_isSo 67 = .ok (.iload 5, 2) := by decide +kernel
theorem dX8_isSo_69 : decode cX8_isSo 69 = .ok (.ifCond .eq 7, 3) := by decide +kernel
theorem dX8_isSo_72 : decode cX8_isSo 72 = .ok (.iconst 1, 1) := by decide +kernel
theorem dX8_isSo_73 : decode cX8_isSo 73 = .ok (.goto 4, 3) := by decide +kernel
theorem dX8_isSo_76 : decode cX8_isSo 76 = .ok (.iconst 0, 1) := by decide +kernel
theorem dX8_isSo_77 : decode cX8_isSo 77 = .ok (.ireturn, 1) := by decide +kernel
theorem dX8_isSo_78 : decode cX8_isSo 78 = .ok (.iload 4, 2) := by decide +kernel
theorem dX8_isSo_80 : decode cX8_isSo 80 = .ok (.ifCond .ne 8, 3) := by decide +kernel
theorem dX8_isSo_83 : decode cX8_isSo 83 = .ok (.iload 5, 2) := by decide +kernel
theorem dX8_isSo_85 : decode cX8_isSo 85 = .ok (.ifCond .eq 7, 3) := by decide +kernel
theorem dX8_isSo_88 : decode cX8_isSo 88 = .ok (.iconst 1, 1) := by decide +kernel
theorem dX8_isSo_89 : decode cX8_isSo 89 = .ok (.goto 4, 3) := by decide +kernel
theorem dX8_isSo_92 : decode cX8_isSo 92 = .ok (.iconst 0, 1) := by decide +kernel
theorem dX8_isSo_93 : decode cX8_isSo 93 = .ok (.ireturn, 1) := by decide +kernel
theorem dX8_isSo_94 : decode cX8_isSo 94 = .ok (.iload 4, 2) := by decide +kernel
theorem dX8_isSo_96 : decode cX8_isSo 96 = .ok (.ifCond .ne 12, 3) := by decide +kernel
theorem dX8_isSo_99 : decode cX8_isSo 99 = .ok (.iload 5, 2) := by decide +kernel
theorem dX8_isSo_101 : decode cX8_isSo 101 = .ok (.ifCond .ne 7, 3) := by decide +kernel
theorem dX8_isSo_104 : decode cX8_isSo 104 = .ok (.iconst 1, 1) := by decide +kernel
theorem dX8_isSo_105 : decode cX8_isSo 105 = .ok (.goto 4, 3) := by decide +kernel
theorem dX8_isSo_108 : decode cX8_isSo 108 = .ok (.iconst 0, 1) := by decide +kernel
theorem dX8_isSo_109 : decode cX8_isSo 109 = .ok (.ireturn, 1) := by decide +kernel
theorem dX8_isSo_110 : decode cX8_isSo 110 = .ok (.iload 4, 2) := by decide +kernel
theorem dX8_isSo_112 : decode cX8_isSo 112 = .ok (.ifCond .eq 12, 3) := by decide +kernel
theorem dX8_isSo_115 : decode cX8_isSo 115 = .ok (.iload 5, 2) := by decide +kernel
theorem dX8_isSo_117 : decode cX8_isSo 117 = .ok (.ifCond .ne 7, 3) := by decide +kernel
theorem dX8_isSo_120 : decode cX8_isSo 120 = .ok (.iconst 1, 1) := by decide +kernel
theorem dX8_isSo_121 : decode cX8_isSo 121 = .ok (.goto 4, 3) := by decide +kernel
theorem dX8_isSo_124 : decode cX8_isSo 124 = .ok (.iconst 0, 1) := by decide +kernel
theorem dX8_isSo_125 : decode cX8_isSo 125 = .ok (.ireturn, 1) := by decide +kernel
set_option maxRecDepth 20000 in
theorem ggX8_holds_X8_isClaim : GoodIn wsX8_holds wsX8_isClaim := goodIn_r _ [4, 5, 6, 7, 3, 8, 9, 10, 11, 12] (by decide +kernel) (by decide +kernel)
set_option maxRecDepth 20000 in
theorem gX8_holds_X8_isClaim : GoodIn wsX8_holds (va_wsS RX8 77 yX8_isClaim wsX8_isClaim) := goodIn_app (goodIn_of _ (by decide +kernel)) ggX8_holds_X8_isClaim
set_option maxRecDepth 20000 in
theorem ggX8_holds_X8_isPast : GoodIn wsX8_holds wsX8_isPast := goodIn_r _ [15, 16, 6, 7, 3, 8] (by decide +kernel) (by decide +kernel)
set_option maxRecDepth 20000 in
theorem gX8_holds_X8_isPast : GoodIn wsX8_holds (va_wsS RX8 174 yX8_isPast wsX8_isPast) := goodIn_app (goodIn_of _ (by decide +kernel)) ggX8_holds_X8_isPast
set_option maxRecDepth 20000 in
theorem ggX8_holds_X8_bad : GoodIn wsX8_holds wsX8_bad := goodIn_r _ [20, 21, 28, 29, 30, 31, 32, 33, 34, 35, 36, 37, 38, 39, 40, 41, 42, 43, 44, 45] (by decide +kernel) (by decide +kernel)
set_option maxRecDepth 20000 in
theorem gX8_holds_X8_bad : GoodIn wsX8_holds (wsV RX8 54 RX8 yX8_bad wsX8_bad) := goodIn_app (goodIn_of _ (by decide +kernel)) ggX8_holds_X8_bad
set_option maxRecDepth 20000 in
theorem ggX8_holds_X8_isSo : GoodIn wsX8_holds wsX8_isSo := goodIn_r _ [24, 25, 26, 3, 27] (by decide +kernel) (by decide +kernel)
set_option maxRecDepth 20000 in
theorem gX8_holds_X8_isSo : GoodIn wsX8_holds (va_wsS RX8 180 yX8_isSo wsX8_isSo) := goodIn_app (goodIn_of _ (by decide +kernel)) ggX8_holds_X8_isSo
theorem dX8_holds_0 : decode cX8_holds 0 = .ok (.iload_n 1, 1) := by decide +kernel
theorem dX8_holds_1 : decode cX8_holds 1 = .ok (.iload_n 2, 1) := by decide +kernel
theorem dX8_holds_2 : decode cX8_holds 2 = .ok (.iload_n 3, 1) := by decide +kernel
theorem dX8_holds_3 : decode cX8_holds 3 = .ok (.invokestatic 77, 3) := by decide +kernel
theorem dX8_holds_6 : decode cX8_holds 6 = .ok (.ifCond .eq 11, 3) := by decide +kernel
theorem dX8_holds_9 : decode cX8_holds 9 = .ok (.iload 4, 2) := by decide +kernel
theorem dX8_holds_11 : decode cX8_holds 11 = .ok (.invokestatic 174, 3) := by decide +kernel
theorem dX8_holds_14 : decode cX8_holds 14 = .ok (.ifCond .ne 8, 3) := by decide +kernel
theorem dX8_holds_17 : decode cX8_holds 17 = .ok (.aload_n 0, 1) := by decide +kernel
theorem dX8_holds_18 : decode cX8_holds 18 = .ok (.invokevirtual 54, 3) := by decide +kernel
theorem dX8_holds_21 : decode cX8_holds 21 = .ok (.ireturn, 1) := by decide +kernel
theorem dX8_holds_22 : decode cX8_holds 22 = .ok (.iload_n 1, 1) := by decide +kernel
theorem dX8_holds_23 : decode cX8_holds 23 = .ok (.iload_n 2, 1) := by decide +kernel
theorem dX8_holds_24 : decode cX8_holds 24 = .ok (.iload_n 3, 1) := by decide +kernel
theorem dX8_holds_25 : decode cX8_holds 25 = .ok (.iload 4, 2) := by decide +kernel
theorem dX8_holds_27 : decode cX8_holds 27 = .ok (.invokestatic 180, 3) := by decide +kernel
theorem dX8_holds_30 : decode cX8_holds 30 = .ok (.ifCond .eq 7, 3) := by decide +kernel
theorem dX8_holds_33 : decode cX8_holds 33 = .ok (.iconst 1, 1) := by decide +kernel
theorem dX8_holds_34 : decode cX8_holds 34 = .ok (.goto 4, 3) := by decide +kernel
theorem dX8_holds_37 : decode cX8_holds 37 = .ok (.iconst 0, 1) := by decide +kernel
theorem dX8_holds_38 : decode cX8_holds 38 = .ok (.ireturn, 1) := by decide +kernel
theorem dX8_isLeft_0 : decode cX8_isLeft 0 = .ok (.aload_n 0, 1) := by decide +kernel
theorem dX8_isLeft_1 : decode cX8_isLeft 1 = .ok (.getfield 30, 3) := by decide +kernel
theorem dX8_isLeft_4 : decode cX8_isLeft 4 = .ok (.iload_n 1, 1) := by decide +kernel
theorem dX8_isLeft_5 : decode cX8_isLeft 5 = .ok (.laload, 1) := by decide +kernel
theorem dX8_isLeft_6 : decode cX8_isLeft 6 = .ok (.lconst 0, 1) := by decide +kernel
theorem dX8_isLeft_7 : decode cX8_isLeft 7 = .ok (.lcmp, 1) := by decide +kernel
theorem dX8_isLeft_8 : decode cX8_isLeft 8 = .ok (.ifCond .le 21, 3) := by decide +kernel
theorem dX8_isLeft_11 : decode cX8_isLeft 11 = .ok (.iload_n 1, 1) := by decide +kernel
theorem dX8_isLeft_12 : decode cX8_isLeft 12 = .ok (.aload_n 0, 1) := by decide +kernel
theorem dX8_isLeft_13 : decode cX8_isLeft 13 = .ok (.getfield 183, 3) := by decide +kernel
theorem dX8_isLeft_16 : decode cX8_isLeft 16 = .ok (.ixor, 1) := by decide +kernel
theorem dX8_isLeft_17 : decode cX8_isLeft 17 = .ok (.aload_n 0, 1) := by decide +kernel
theorem dX8_isLeft_18 : decode cX8_isLeft 18 = .ok (.getfield 186, 3) := by decide +kernel
theorem dX8_isLeft_21 : decode cX8_isLeft 21 = .ok (.iand, 1) := by decide +kernel
theorem dX8_isLeft_22 : decode cX8_isLeft 22 = .ok (.ifCond .ne 7, 3) := by decide +kernel
theorem dX8_isLeft_25 : decode cX8_isLeft 25 = .ok (.iconst 1, 1) := by decide +kernel
theorem dX8_isLeft_26 : decode cX8_isLeft 26 = .ok (.goto 4, 3) := by decide +kernel
theorem dX8_isLeft_29 : decode cX8_isLeft 29 = .ok (.iconst 0, 1) := by decide +kernel
theorem dX8_isLeft_30 : decode cX8_isLeft 30 = .ok (.ireturn, 1) := by decide +kernel
set_option maxRecDepth 20000 in
theorem ggX8_settledNow_X8_isLeft : GoodIn wsX8_settledNow wsX8_isLeft := goodIn_r _ [5, 6, 7, 8, 15, 16, 17, 18, 19, 20, 21, 22, 23, 24, 25, 26, 27, 28, 29, 30, 31, 32] (by decide +kernel) (by decide +kernel)
set_option maxRecDepth 20000 in
theorem gX8_settledNow_X8_isLeft : GoodIn wsX8_settledNow (wsV RX8 189 RX8 yX8_isLeft wsX8_isLeft) := goodIn_app (goodIn_of _ (by decide +kernel)) ggX8_settledNow_X8_isLeft
set_option maxRecDepth 20000 in
theorem ggX8_settledNow_X8_isSo : GoodIn wsX8_settledNow wsX8_isSo := goodIn_r _ [11, 12, 13, 4, 14] (by decide +kernel) (by decide +kernel)
set_option maxRecDepth 20000 in
theorem gX8_settledNow_X8_isSo : GoodIn wsX8_settledNow (va_wsS RX8 180 yX8_isSo wsX8_isSo) := goodIn_app (goodIn_of _ (by decide +kernel)) ggX8_settledNow_X8_isSo
theorem dX8_settledNow_0 : decode cX8_settledNow 0 = .ok (.iconst 0, 1) := by decide +kernel
theorem dX8_settledNow_1 : decode cX8_settledNow 1 = .ok (.istore 4, 2) := by decide +kernel
theorem dX8_settledNow_3 : decode cX8_settledNow 3 = .ok (.iconst 0, 1) := by decide +kernel
theorem dX8_settledNow_4 : decode cX8_settledNow 4 = .ok (.istore 5, 2) := by decide +kernel
theorem dX8_settledNow_6 : decode cX8_settledNow 6 = .ok (.iconst 0, 1) := by decide +kernel
theorem dX8_settledNow_7 : decode cX8_settledNow 7 = .ok (.istore 6, 2) := by decide +kernel
theorem dX8_settledNow_9 : decode cX8_settledNow 9 = .ok (.iload 6, 2) := by decide +kernel
theorem dX8_settledNow_11 : decode cX8_settledNow 11 = .ok (.sipush 128, 3) := by decide +kernel
theorem dX8_settledNow_14 : decode cX8_settledNow 14 = .ok (.if_icmp .ge 73, 3) := by decide +kernel
theorem dX8_settledNow_17 : decode cX8_settledNow 17 = .ok (.iload 4, 2) := by decide +kernel
theorem dX8_settledNow_19 : decode cX8_settledNow 19 = .ok (.ifCond .ne 23, 3) := by decide +kernel
theorem dX8_settledNow_22 : decode cX8_settledNow 22 = .ok (.aload_n 0, 1) := by decide +kernel
theorem dX8_settledNow_23 : decode cX8_settledNow 23 = .ok (.iload 6, 2) := by decide +kernel
theorem dX8_settledNow_25 : decode cX8_settledNow 25 = .ok (.invokevirtual 189, 3) := by decide +kernel
theorem dX8_settledNow_28 : decode cX8_settledNow 28 = .ok (.ifCond .eq 18, 3) := by decide +kernel
theorem dX8_settledNow_31 : decode cX8_settledNow 31 = .ok (.iload_n 1, 1) := by decide +kernel
theorem dX8_settledNow_32 : decode cX8_settledNow 32 = .ok (.iload_n 2, 1) := by decide +kernel
theorem dX8_settledNow_33 : decode cX8_settledNow 33 = .ok (.iload_n 3, 1) := by decide +kernel
theorem dX8_settledNow_34 : decode cX8_settledNow 34 = .ok (.iload 6, 2) := by decide +kernel
theorem dX8_settledNow_36 : decode cX8_settledNow 36 = .ok (.invokestatic 180, 3) := by decide +kernel
theorem dX8_settledNow_39 : decode cX8_settledNow 39 = .ok (.ifCond .eq 7, 3) := by decide +kernel
theorem dX8_settledNow_42 : decode cX8_settledNow 42 = .ok (.iconst 1, 1) := by decide +kernel
theorem dX8_settledNow_43 : decode cX8_settledNow 43 = .ok (.goto 4, 3) := by decide +kernel
theorem dX8_settledNow_46 : decode cX8_settledNow 46 = .ok (.iconst 0, 1) := by decide +kernel
theorem dX8_settledNow_47 : decode cX8_settledNow 47 = .ok (.istore 4, 2) := by decide +kernel
theorem dX8_settledNow_49 : decode cX8_settledNow 49 = .ok (.iload 5, 2) := by decide +kernel
theorem dX8_settledNow_51 : decode cX8_settledNow 51 = .ok (.ifCond .ne 23, 3) := by decide +kernel
theorem dX8_settledNow_54 : decode cX8_settledNow 54 = .ok (.aload_n 0, 1) := by decide +kernel
theorem dX8_settledNow_55 : decode cX8_settledNow 55 = .ok (.iload 6, 2) := by decide +kernel
theorem dX8_settledNow_57 : decode cX8_settledNow 57 = .ok (.invokevirtual 189, 3) := by decide +kernel
theorem dX8_settledNow_60 : decode cX8_settledNow 60 = .ok (.ifCond .eq 18, 3) := by decide +kernel
theorem dX8_settledNow_63 : decode cX8_settledNow 63 = .ok (.iload_n 1, 1) := by decide +kernel
theorem dX8_settledNow_64 : decode cX8_settledNow 64 = .ok (.iload_n 2, 1) := by decide +kernel
theorem dX8_settledNow_65 : decode cX8_settledNow 65 = .ok (.iload_n 3, 1) := by decide +kernel
theorem dX8_settledNow_66 : decode cX8_settledNow 66 = .ok (.iload 6, 2) := by decide +kernel
theorem dX8_settledNow_68 : decode cX8_settledNow 68 = .ok (.invokestatic 180, 3) := by decide +kernel
theorem dX8_settledNow_71 : decode cX8_settledNow 71 = .ok (.ifCond .ne 7, 3) := by decide +kernel
theorem dX8_settledNow_74 : decode cX8_settledNow 74 = .ok (.iconst 1, 1) := by decide +kernel
theorem dX8_settledNow_75 : decode cX8_settledNow 75 = .ok (.goto 4, 3) := by decide +kernel
theorem dX8_settledNow_78 : decode cX8_settledNow 78 = .ok (.iconst 0, 1) := by decide +kernel
theorem dX8_settledNow_79 : decode cX8_settledNow 79 = .ok (.istore 5, 2) := by decide +kernel
theorem dX8_settledNow_81 : decode cX8_settledNow 81 = .ok (.iinc 6 1, 3) := by decide +kernel
theorem dX8_settledNow_84 : decode cX8_settledNow 84 = .ok (.goto (-75), 3) := by decide +kernel
theorem dX8_settledNow_87 : decode cX8_settledNow 87 = .ok (.iload 4, 2) := by decide +kernel
theorem dX8_settledNow_89 : decode cX8_settledNow 89 = .ok (.ifCond .eq 16, 3) := by decide +kernel
theorem dX8_settledNow_92 : decode cX8_settledNow 92 = .ok (.iload 5, 2) := by decide +kernel
theorem dX8_settledNow_94 : decode cX8_settledNow 94 = .ok (.ifCond .eq 7, 3) := by decide +kernel
theorem dX8_settledNow_97 : decode cX8_settledNow 97 = .ok (.iconst 2, 1) := by decide +kernel
theorem dX8_settledNow_98 : decode cX8_settledNow 98 = .ok (.goto 17, 3) := by decide +kernel
theorem dX8_settledNow_101 : decode cX8_settledNow 101 = .ok (.iconst 1, 1) := by decide +kernel
theorem dX8_settledNow_102 : decode cX8_settledNow 102 = .ok (.goto 13, 3) := by decide +kernel
theorem dX8_settledNow_105 : decode cX8_settledNow 105 = .ok (.iload 5, 2) := by decide +kernel
theorem dX8_settledNow_107 : decode cX8_settledNow 107 = .ok (.ifCond .eq 7, 3) := by decide +kernel
theorem dX8_settledNow_110 : decode cX8_settledNow 110 = .ok (.iconst 0, 1) := by decide +kernel
theorem dX8_settledNow_111 : decode cX8_settledNow 111 = .ok (.goto 4, 3) := by decide +kernel
theorem dX8_settledNow_114 : decode cX8_settledNow 114 = .ok (.iconst (-1), 1) := by decide +kernel
theorem dX8_settledNow_115 : decode cX8_settledNow 115 = .ok (.ireturn, 1) := by decide +kernel
set_option maxRecDepth 20000 in
theorem ggX8_settled_X8_isClaim : GoodIn wsX8_settled wsX8_isClaim := goodIn_r _ [5, 6, 7, 8, 4, 9, 10, 11, 12, 13] (by decide +kernel) (by decide +kernel)
set_option maxRecDepth 20000 in
theorem gX8_settled_X8_isClaim : GoodIn wsX8_settled (va_wsS RX8 77 yX8_isClaim wsX8_isClaim) := goodIn_app (goodIn_of _ (by decide +kernel)) ggX8_settled_X8_isClaim
set_option maxRecDepth 20000 in
theorem ggX8_settled_X8_bad : GoodIn wsX8_settled wsX8_bad := goodIn_r _ [17, 18, 49, 50, 51, 52, 53, 54, 55, 56, 57, 58, 59, 60, 61, 62, 63, 64, 65, 66] (by decide +kernel) (by decide +kernel)
set_option maxRecDepth 20000 in
theorem gX8_settled_X8_bad : GoodIn wsX8_settled (wsV RX8 54 RX8 yX8_bad wsX8_bad) := goodIn_app (goodIn_of _ (by decide +kernel)) ggX8_settled_X8_bad
set_option maxRecDepth 20000 in
theorem ggX8_settled_X8_weighAll : GoodIn wsX8_settled wsX8_weighAll := goodIn_r _ [22, 23, 24, 25, 26, 27, 4, 28, 29, 30, 31, 32, 33, 34, 35, 36, 49, 50, 51, 52, 53, 54, 55, 56, 57, 58, 59, 60, 61, 62, 63, 64, 65, 66] (by decide +kernel) (by decide +kernel)
set_option maxRecDepth 20000 in
theorem gX8_settled_X8_weighAll : GoodIn wsX8_settled (wsV RX8 168 RX8 yX8_weighAll wsX8_weighAll) := goodIn_app (goodIn_of _ (by decide +kernel)) ggX8_settled_X8_weighAll
set_option maxRecDepth 20000 in
theorem ggX8_settled_X8_settledNow : GoodIn wsX8_settled wsX8_settledNow := goodIn_r _ [40, 41, 42, 43, 4, 44, 24, 45, 1, 46, 47, 48, 34, 35, 36, 49, 50, 51, 52, 53, 54, 55, 56, 57, 58, 59, 60, 61, 62, 63, 64, 65, 66] (by decide +kernel) (by decide +kernel)
set_option maxRecDepth 20000 in
theorem gX8_settled_X8_settledNow : GoodIn wsX8_settled (wsV RX8 192 RX8 yX8_settledNow wsX8_settledNow) := goodIn_app (goodIn_of _ (by decide +kernel)) ggX8_settled_X8_settledNow
theorem dX8_settled_0 : decode cX8_settled 0 = .ok (.iload_n 1, 1) := by decide +kernel
theorem dX8_settled_1 : decode cX8_settled 1 = .ok (.iload_n 2, 1) := by decide +kernel
theorem dX8_settled_2 : decode cX8_settled 2 = .ok (.iload_n 3, 1) := by decide +kernel
theorem dX8_settled_3 : decode cX8_settled 3 = .ok (.invokestatic 77, 3) := by decide +kernel
theorem dX8_settled_6 : decode cX8_settled 6 = .ok (.ifCond .ne 8, 3) := by decide +kernel
theorem dX8_settled_9 : decode cX8_settled 9 = .ok (.aload_n 0, 1) := by decide +kernel
theorem dX8_settled_10 : decode cX8_settled 10 = .ok (.invokevirtual 54, 3) := by decide +kernel
theorem dX8_settled_13 : decode cX8_settled 13 = .ok (.ireturn, 1) := by decide +kernel
theorem dX8_settled_14 : decode cX8_settled 14 = .ok (.aload_n 0, 1) := by decide +kernel
theorem dX8_settled_15 : decode cX8_settled 15 = .ok (.iconst 0, 1) := by decide +kernel
theorem dX8_settled_16 : decode cX8_settled 16 = .ok (.invokevirtual 168, 3) := by decide +kernel
theorem dX8_settled_19 : decode cX8_settled 19 = .ok (.aload_n 0, 1) := by decide +kernel
theorem dX8_settled_20 : decode cX8_settled 20 = .ok (.iconst 0, 1) := by decide +kernel
theorem dX8_settled_21 : decode cX8_settled 21 = .ok (.putfield 186, 3) := by decide +kernel
theorem dX8_settled_24 : decode cX8_settled 24 = .ok (.aload_n 0, 1) := by decide +kernel
theorem dX8_settled_25 : decode cX8_settled 25 = .ok (.iload_n 1, 1) := by decide +kernel
theorem dX8_settled_26 : decode cX8_settled 26 = .ok (.iload_n 2, 1) := by decide +kernel
theorem dX8_settled_27 : decode cX8_settled 27 = .ok (.iload_n 3, 1) := by decide +kernel
theorem dX8_settled_28 : decode cX8_settled 28 = .ok (.invokevirtual 192, 3) := by decide +kernel
theorem dX8_settled_31 : decode cX8_settled 31 = .ok (.ireturn, 1) := by decide +kernel
theorem dX8_tells_0 : decode cX8_tells 0 = .ok (.lload_n 1, 1) := by decide +kernel
theorem dX8_tells_1 : decode cX8_tells 1 = .ok (.lconst 0, 1) := by decide +kernel
theorem dX8_tells_2 : decode cX8_tells 2 = .ok (.lcmp, 1) := by decide +kernel
theorem dX8_tells_3 : decode cX8_tells 3 = .ok (.ifCond .ge 8, 3) := by decide +kernel
theorem dX8_tells_6 : decode cX8_tells 6 = .ok (.lload_n 1, 1) := by decide +kernel
theorem dX8_tells_7 : decode cX8_tells 7 = .ok (.lneg, 1) := by decide +kernel
theorem dX8_tells_8 : decode cX8_tells 8 = .ok (.goto 4, 3) := by decide +kernel
theorem dX8_tells_11 : decode cX8_tells 11 = .ok (.lload_n 1, 1) := by decide +kernel
theorem dX8_tells_12 : decode cX8_tells 12 = .ok (.lstore 5, 2) := by decide +kernel
theorem dX8_tells_14 : decode cX8_tells 14 = .ok (.lload_n 3, 1) := by decide +kernel
theorem dX8_tells_15 : decode cX8_tells 15 = .ok (.lstore 7, 2) := by decide +kernel
theorem dX8_tells_17 : decode cX8_tells 17 = .ok (.lload 7, 2) := by decide +kernel
theorem dX8_tells_19 : decode cX8_tells 19 = .ok (.lconst 0, 1) := by decide +kernel
theorem dX8_tells_20 : decode cX8_tells 20 = .ok (.lcmp, 1) := by decide +kernel
theorem dX8_tells_21 : decode cX8_tells 21 = .ok (.ifCond .eq 21, 3) := by decide +kernel
theorem dX8_tells_24 : decode cX8_tells 24 = .ok (.lload 5, 2) := by decide +kernel
theorem dX8_tells_26 : decode cX8_tells 26 = .ok (.lload 7, 2) := by decide +kernel
theorem dX8_tells_28 : decode cX8_tells 28 = .ok (.lrem, 1) := by decide +kernel
theorem dX8_tells_29 : decode cX8_tells 29 = .ok (.lstore 9, 2) := by decide +kernel
theorem dX8_tells_31 : decode cX8_tells 31 = .ok (.lload 7, 2) := by decide +kernel
theorem dX8_tells_33 : decode cX8_tells 33 = .ok (.lstore 5, 2) := by decide +kernel
theorem dX8_tells_35 : decode cX8_tells 35 = .ok (.lload 9, 2) := by decide +kernel
theorem dX8_tells_37 : decode cX8_tells 37 = .ok (.lstore 7, 2) := by decide +kernel
theorem dX8_tells_39 : decode cX8_tells 39 = .ok (.goto (-22), 3) := by decide +kernel
theorem dX8_tells_42 : decode cX8_tells 42 = .ok (.aload_n 0, 1) := by decide +kernel
theorem dX8_tells_43 : decode cX8_tells 43 = .ok (.lload_n 1, 1) := by decide +kernel
theorem dX8_tells_44 : decode cX8_tells 44 = .ok (.lload 5, 2) := by decide +kernel
theorem dX8_tells_46 : decode cX8_tells 46 = .ok (.ldiv, 1) := by decide +kernel
theorem dX8_tells_47 : decode cX8_tells 47 = .ok (.putfield 196, 3) := by decide +kernel
theorem dX8_tells_50 : decode cX8_tells 50 = .ok (.aload_n 0, 1) := by decide +kernel
theorem dX8_tells_51 : decode cX8_tells 51 = .ok (.lload_n 3, 1) := by decide +kernel
theorem dX8_tells_52 : decode cX8_tells 52 = .ok (.lload 5, 2) := by decide +kernel
theorem dX8_tells_54 : decode cX8_tells 54 = .ok (.ldiv, 1) := by decide +kernel
theorem dX8_tells_55 : decode cX8_tells 55 = .ok (.putfield 23, 3) := by decide +kernel
theorem dX8_tells_58 : decode cX8_tells 58 = .ok (.iconst 1, 1) := by decide +kernel
theorem dX8_tells_59 : decode cX8_tells 59 = .ok (.ireturn, 1) := by decide +kernel
set_option maxRecDepth 20000 in
theorem ggX8_weightOf_X8_isSo : GoodIn wsX8_weightOf wsX8_isSo := goodIn_r _ [5, 6, 7, 4, 8] (by decide +kernel) (by decide +kernel)
set_option maxRecDepth 20000 in
theorem gX8_weightOf_X8_isSo : GoodIn wsX8_weightOf (va_wsS RX8 180 yX8_isSo wsX8_isSo) := goodIn_app (goodIn_of _ (by decide +kernel)) ggX8_weightOf_X8_isSo
theorem dX8_weightOf_0 : decode cX8_weightOf 0 = .ok (.lconst 0, 1) := by decide +kernel
theorem dX8_weightOf_1 : decode cX8_weightOf 1 = .ok (.lstore 4, 2) := by decide +kernel
theorem dX8_weightOf_3 : decode cX8_weightOf 3 = .ok (.iconst 0, 1) := by decide +kernel
theorem dX8_weightOf_4 : decode cX8_weightOf 4 = .ok (.istore 6, 2) := by decide +kernel
theorem dX8_weightOf_6 : decode cX8_weightOf 6 = .ok (.iload 6, 2) := by decide +kernel
theorem dX8_weightOf_8 : decode cX8_weightOf 8 = .ok (.sipush 128, 3) := by decide +kernel
theorem dX8_weightOf_11 : decode cX8_weightOf 11 = .ok (.if_icmp .ge 36, 3) := by decide +kernel
theorem dX8_weightOf_14 : decode cX8_weightOf 14 = .ok (.lload 4, 2) := by decide +kernel
theorem dX8_weightOf_16 : decode cX8_weightOf 16 = .ok (.iload_n 1, 1) := by decide +kernel
theorem dX8_weightOf_17 : decode cX8_weightOf 17 = .ok (.iload_n 2, 1) := by decide +kernel
theorem dX8_weightOf_18 : decode cX8_weightOf 18 = .ok (.iload_n 3, 1) := by decide +kernel
theorem dX8_weightOf_19 : decode cX8_weightOf 19 = .ok (.iload 6, 2) := by decide +kernel
theorem dX8_weightOf_21 : decode cX8_weightOf 21 = .ok (.invokestatic 180, 3) := by decide +kernel
theorem dX8_weightOf_24 : decode cX8_weightOf 24 = .ok (.ifCond .eq 13, 3) := by decide +kernel
theorem dX8_weightOf_27 : decode cX8_weightOf 27 = .ok (.aload_n 0, 1) := by decide +kernel
theorem dX8_weightOf_28 : decode cX8_weightOf 28 = .ok (.getfield 30, 3) := by decide +kernel
theorem dX8_weightOf_31 : decode cX8_weightOf 31 = .ok (.iload 6, 2) := by decide +kernel
theorem dX8_weightOf_33 : decode cX8_weightOf 33 = .ok (.laload, 1) := by decide +kernel
theorem dX8_weightOf_34 : decode cX8_weightOf 34 = .ok (.goto 4, 3) := by decide +kernel
theorem dX8_weightOf_37 : decode cX8_weightOf 37 = .ok (.lconst 0, 1) := by decide +kernel
theorem dX8_weightOf_38 : decode cX8_weightOf 38 = .ok (.ladd, 1) := by decide +kernel
theorem dX8_weightOf_39 : decode cX8_weightOf 39 = .ok (.lstore 4, 2) := by decide +kernel
theorem dX8_weightOf_41 : decode cX8_weightOf 41 = .ok (.iinc 6 1, 3) := by decide +kernel
theorem dX8_weightOf_44 : decode cX8_weightOf 44 = .ok (.goto (-38), 3) := by decide +kernel
theorem dX8_weightOf_47 : decode cX8_weightOf 47 = .ok (.lload 4, 2) := by decide +kernel
theorem dX8_weightOf_49 : decode cX8_weightOf 49 = .ok (.lreturn, 1) := by decide +kernel
set_option maxRecDepth 20000 in
theorem ggX8_chance_X8_isClaim : GoodIn wsX8_chance wsX8_isClaim := goodIn_r _ [5, 6, 7, 8, 4, 9, 10, 11, 12, 13] (by decide +kernel) (by decide +kernel)
set_option maxRecDepth 20000 in
theorem gX8_chance_X8_isClaim : GoodIn wsX8_chance (va_wsS RX8 77 yX8_isClaim wsX8_isClaim) := goodIn_app (goodIn_of _ (by decide +kernel)) ggX8_chance_X8_isClaim
set_option maxRecDepth 20000 in
theorem ggX8_chance_X8_bad : GoodIn wsX8_chance wsX8_bad := goodIn_r _ [17, 18, 57, 58, 59, 60, 61, 62, 63, 64, 65, 66, 67, 68, 69, 70, 71, 72, 73, 74] (by decide +kernel) (by decide +kernel)
set_option maxRecDepth 20000 in
theorem gX8_chance_X8_bad : GoodIn wsX8_chance (wsV RX8 54 RX8 yX8_bad wsX8_bad) := goodIn_app (goodIn_of _ (by decide +kernel)) ggX8_chance_X8_bad
set_option maxRecDepth 20000 in
theorem ggX8_chance_X8_fits : GoodIn wsX8_chance wsX8_fits := goodIn_r _ [22, 1, 23, 24, 25, 4, 26, 27, 28, 29, 30, 31, 32, 33, 34, 35, 36, 37, 38, 39, 57, 58, 59, 60, 61, 62, 63, 64, 65, 66, 67, 68, 69, 70, 71, 72, 73, 74] (by decide +kernel) (by decide +kernel)
set_option maxRecDepth 20000 in
theorem gX8_chance_X8_fits : GoodIn wsX8_chance (wsV RX8 177 RX8 yX8_fits wsX8_fits) := goodIn_app (goodIn_of _ (by decide +kernel)) ggX8_chance_X8_fits
set_option maxRecDepth 20000 in
theorem ggX8_chance_X8_weightOf : GoodIn wsX8_chance wsX8_weightOf := goodIn_r _ [43, 27, 44, 45, 4, 46, 37, 38, 39, 57, 58, 59, 60, 61, 62, 63, 64, 65, 66, 67, 68, 69, 70, 71, 72, 73, 74] (by decide +kernel) (by decide +kernel)
set_option maxRecDepth 20000 in
theorem gX8_chance_X8_weightOf : GoodIn wsX8_chance (wsV RX8 199 RX8 yX8_weightOf wsX8_weightOf) := goodIn_app (goodIn_of _ (by decide +kernel)) ggX8_chance_X8_weightOf
set_option maxRecDepth 20000 in
theorem ggX8_chance_X8_tells : GoodIn wsX8_chance wsX8_tells := goodIn_r _ [50, 51, 52, 57, 58, 59, 60, 61, 62, 63, 64, 65, 66, 67, 68, 69, 70, 71, 72, 73, 74] (by decide +kernel) (by decide +kernel)
set_option maxRecDepth 20000 in
theorem gX8_chance_X8_tells : GoodIn wsX8_chance (wsV RX8 203 RX8 yX8_tells wsX8_tells) := goodIn_app (goodIn_of _ (by decide +kernel)) ggX8_chance_X8_tells
set_option maxRecDepth 20000 in
theorem ggX8_chance_X8_no : GoodIn wsX8_chance wsX8_no := goodIn_r _ [56, 18, 57, 58, 59, 60, 61, 62, 63, 64, 65, 66, 67, 68, 69, 70, 71, 72, 73, 74] (by decide +kernel) (by decide +kernel)
set_option maxRecDepth 20000 in
theorem gX8_chance_X8_no : GoodIn wsX8_chance (wsV RX8 74 RX8 yX8_no wsX8_no) := goodIn_app (goodIn_of _ (by decide +kernel)) ggX8_chance_X8_no
theorem dX8_chance_0 : decode cX8_chance 0 = .ok (.iload_n 1, 1) := by decide +kernel
theorem dX8_chance_1 : decode cX8_chance 1 = .ok (.iload_n 2, 1) := by decide +kernel
theorem dX8_chance_2 : decode cX8_chance 2 = .ok (.iload_n 3, 1) := by decide +kernel
theorem dX8_chance_3 : decode cX8_chance 3 = .ok (.invokestatic 77, 3) := by decide +kernel
theorem dX8_chance_6 : decode cX8_chance 6 = .ok (.ifCond .ne 8, 3) := by decide +kernel
theorem dX8_chance_9 : decode cX8_chance 9 = .ok (.aload_n 0, 1) := by decide +kernel
theorem dX8_chance_10 : decode cX8_chance 10 = .ok (.invokevirtual 54, 3) := by decide +kernel
theorem dX8_chance_13 : decode cX8_chance 13 = .ok (.ireturn, 1) := by decide +kernel
theorem dX8_chance_14 : decode cX8_chance 14 = .ok (.aload_n 0, 1) := by decide +kernel
theorem dX8_chance_15 : decode cX8_chance 15 = .ok (.invokevirtual 177, 3) := by decide +kernel
theorem dX8_chance_18 : decode cX8_chance 18 = .ok (.ifCond .eq 21, 3) := by decide +kernel
theorem dX8_chance_21 : decode cX8_chance 21 = .ok (.aload_n 0, 1) := by decide +kernel
theorem dX8_chance_22 : decode cX8_chance 22 = .ok (.aload_n 0, 1) := by decide +kernel
theorem dX8_chance_23 : decode cX8_chance 23 = .ok (.iload_n 1, 1) := by decide +kernel
theorem dX8_chance_24 : decode cX8_chance 24 = .ok (.iload_n 2, 1) := by decide +kernel
theorem dX8_chance_25 : decode cX8_chance 25 = .ok (.iload_n 3, 1) := by decide +kernel
theorem dX8_chance_26 : decode cX8_chance 26 = .ok (.invokevirtual 199, 3) := by decide +kernel
theorem dX8_chance_29 : decode cX8_chance 29 = .ok (.aload_n 0, 1) := by decide +kernel
theorem dX8_chance_30 : decode cX8_chance 30 = .ok (.getfield 161, 3) := by decide +kernel
theorem dX8_chance_33 : decode cX8_chance 33 = .ok (.invokevirtual 203, 3) := by decide +kernel
theorem dX8_chance_36 : decode cX8_chance 36 = .ok (.goto 7, 3) := by decide +kernel
theorem dX8_chance_39 : decode cX8_chance 39 = .ok (.aload_n 0, 1) := by decide +kernel
theorem dX8_chance_40 : decode cX8_chance 40 = .ok (.invokevirtual 74, 3) := by decide +kernel
theorem dX8_chance_43 : decode cX8_chance 43 = .ok (.ireturn, 1) := by decide +kernel
set_option maxRecDepth 20000 in
theorem ggX8_ifFound_X8_isClaim : GoodIn wsX8_ifFound wsX8_isClaim := goodIn_r _ [6, 7, 8, 9, 5, 10, 11, 12, 13, 14] (by decide +kernel) (by decide +kernel)
set_option maxRecDepth 20000 in
theorem gX8_ifFound_X8_isClaim : GoodIn wsX8_ifFound (va_wsS RX8 77 yX8_isClaim wsX8_isClaim) := goodIn_app (goodIn_of _ (by decide +kernel)) ggX8_ifFound_X8_isClaim
set_option maxRecDepth 20000 in
theorem ggX8_ifFound_X8_isFind : GoodIn wsX8_ifFound wsX8_isFind := goodIn_r _ [17, 18, 11, 12, 5, 13, 14, 8, 9, 10] (by decide +kernel) (by decide +kernel)
set_option maxRecDepth 20000 in
theorem gX8_ifFound_X8_isFind : GoodIn wsX8_ifFound (va_wsS RX8 67 yX8_isFind wsX8_isFind) := goodIn_app (goodIn_of _ (by decide +kernel)) ggX8_ifFound_X8_isFind
set_option maxRecDepth 20000 in
theorem ggX8_ifFound_X8_bad : GoodIn wsX8_ifFound wsX8_bad := goodIn_r _ [22, 23, 61, 62, 63, 64, 65, 66, 67, 68, 69, 70, 71, 72, 73, 74, 75, 76, 77, 78] (by decide +kernel) (by decide +kernel)
set_option maxRecDepth 20000 in
theorem gX8_ifFound_X8_bad : GoodIn wsX8_ifFound (wsV RX8 54 RX8 yX8_bad wsX8_bad) := goodIn_app (goodIn_of _ (by decide +kernel)) ggX8_ifFound_X8_bad
set_option maxRecDepth 20000 in
theorem ggX8_ifFound_X8_fits : GoodIn wsX8_ifFound wsX8_fits := goodIn_r _ [27, 1, 28, 29, 30, 5, 31, 2, 32, 33, 34, 35, 36, 37, 38, 39, 40, 41, 42, 43, 61, 62, 63, 64, 65, 66, 67, 68, 69, 70, 71, 72, 73, 74, 75, 76, 77, 78] (by decide +kernel) (by decide +kernel)
set_option maxRecDepth 20000 in
theorem gX8_ifFound_X8_fits : GoodIn wsX8_ifFound (wsV RX8 177 RX8 yX8_fits wsX8_fits) := goodIn_app (goodIn_of _ (by decide +kernel)) ggX8_ifFound_X8_fits
set_option maxRecDepth 20000 in
theorem ggX8_ifFound_X8_no : GoodIn wsX8_ifFound wsX8_no := goodIn_r _ [47, 23, 61, 62, 63, 64, 65, 66, 67, 68, 69, 70, 71, 72, 73, 74, 75, 76, 77, 78] (by decide +kernel) (by decide +kernel)
set_option maxRecDepth 20000 in
theorem gX8_ifFound_X8_no : GoodIn wsX8_ifFound (wsV RX8 74 RX8 yX8_no wsX8_no) := goodIn_app (goodIn_of _ (by decide +kernel)) ggX8_ifFound_X8_no
set_option maxRecDepth 20000 in
theorem ggX8_ifFound_X8_has : GoodIn wsX8_ifFound wsX8_has := goodIn_r _ [43] (by decide +kernel) (by decide +kernel)
set_option maxRecDepth 20000 in
theorem gX8_ifFound_X8_has : GoodIn wsX8_ifFound (va_wsS RX8 154 yX8_has wsX8_has) := goodIn_app (goodIn_of _ (by decide +kernel)) ggX8_ifFound_X8_has
set_option maxRecDepth 20000 in
theorem ggX8_ifFound_X8_weightOf : GoodIn wsX8_ifFound wsX8_weightOf := goodIn_r _ [51, 2, 52, 53, 5, 54, 41, 42, 43, 61, 62, 63, 64, 65, 66, 67, 68, 69, 70, 71, 72, 73, 74, 75, 76, 77, 78] (by decide +kernel) (by decide +kernel)
set_option maxRecDepth 20000 in
theorem gX8_ifFound_X8_weightOf : GoodIn wsX8_ifFound (wsV RX8 199 RX8 yX8_weightOf wsX8_weightOf) := goodIn_app (goodIn_of _ (by decide +kernel)) ggX8_ifFound_X8_weightOf
set_option maxRecDepth 20000 in
theorem ggX8_ifFound_X8_tells : GoodIn wsX8_ifFound wsX8_tells := goodIn_r _ [58, 59, 60, 61, 62, 63, 64, 65, 66, 67, 68, 69, 70, 71, 72, 73, 74, 75, 76, 77, 78] (by decide +kernel) (by decide +kernel)
set_option maxRecDepth 20000 in
theorem gX8_ifFound_X8_tells : GoodIn wsX8_ifFound (wsV RX8 203 RX8 yX8_tells wsX8_tells) := goodIn_app (goodIn_of _ (by decide +kernel)) ggX8_ifFound_X8_tells
theorem dX8_ifFound_0 : decode cX8_ifFound 0 = .ok (.iload_n 1, 1) := by decide +kernel
theorem dX8_ifFound_1 : decode cX8_ifFound 1 = .ok (.iload_n 2, 1) := by decide +kernel
theorem dX8_ifFound_2 : decode cX8_ifFound 2 = .ok (.iload_n 3, 1) := by decide +kernel
theorem dX8_ifFound_3 : decode cX8_ifFound 3 = .ok (.invokestatic 77, 3) := by decide +kernel
theorem dX8_ifFound_6 : decode cX8_ifFound 6 = .ok (.ifCond .eq 15, 3) := by decide +kernel
theorem dX8_ifFound_9 : decode cX8_ifFound 9 = .ok (.iload 4, 2) := by decide +kernel
theorem dX8_ifFound_11 : decode cX8_ifFound 11 = .ok (.iload 5, 2) := by decide +kernel
theorem dX8_ifFound_13 : decode cX8_ifFound 13 = .ok (.iload 6, 2) := by decide +kernel
theorem dX8_ifFound_15 : decode cX8_ifFound 15 = .ok (.invokestatic 67, 3) := by decide +kernel
theorem dX8_ifFound_18 : decode cX8_ifFound 18 = .ok (.ifCond .ne 8, 3) := by decide +kernel
theorem dX8_ifFound_21 : decode cX8_ifFound 21 = .ok (.aload_n 0, 1) := by decide +kernel
theorem dX8_ifFound_22 : decode cX8_ifFound 22 = .ok (.invokevirtual 54, 3) := by decide +kernel
theorem dX8_ifFound_25 : decode cX8_ifFound 25 = .ok (.ireturn, 1) := by decide +kernel
theorem dX8_ifFound_26 : decode cX8_ifFound 26 = .ok (.aload_n 0, 1) := by decide +kernel
theorem dX8_ifFound_27 : decode cX8_ifFound 27 = .ok (.invokevirtual 177, 3) := by decide +kernel
theorem dX8_ifFound_30 : decode cX8_ifFound 30 = .ok (.ifCond .ne 8, 3) := by decide +kernel
theorem dX8_ifFound_33 : decode cX8_ifFound 33 = .ok (.aload_n 0, 1) := by decide +kernel
theorem dX8_ifFound_34 : decode cX8_ifFound 34 = .ok (.invokevirtual 74, 3) := by decide +kernel
theorem dX8_ifFound_37 : decode cX8_ifFound 37 = .ok (.ireturn, 1) := by decide +kernel
theorem dX8_ifFound_38 : decode cX8_ifFound 38 = .ok (.aload_n 0, 1) := by decide +kernel
theorem dX8_ifFound_39 : decode cX8_ifFound 39 = .ok (.lconst 0, 1) := by decide +kernel
theorem dX8_ifFound_40 : decode cX8_ifFound 40 = .ok (.putfield 161, 3) := by decide +kernel
theorem dX8_ifFound_43 : decode cX8_ifFound 43 = .ok (.iconst 0, 1) := by decide +kernel
theorem dX8_ifFound_44 : decode cX8_ifFound 44 = .ok (.istore 7, 2) := by decide +kernel
theorem dX8_ifFound_46 : decode cX8_ifFound 46 = .ok (.iload 7, 2) := by decide +kernel
theorem dX8_ifFound_48 : decode cX8_ifFound 48 = .ok (.sipush 128, 3) := by decide +kernel
theorem dX8_ifFound_51 : decode cX8_ifFound 51 = .ok (.if_icmp .ge 68, 3) := by decide +kernel
theorem dX8_ifFound_54 : decode cX8_ifFound 54 = .ok (.aload_n 0, 1) := by decide +kernel
theorem dX8_ifFound_55 : decode cX8_ifFound 55 = .ok (.getfield 30, 3) := by decide +kernel
theorem dX8_ifFound_58 : decode cX8_ifFound 58 = .ok (.iload 7, 2) := by decide +kernel
theorem dX8_ifFound_60 : decode cX8_ifFound 60 = .ok (.dup2, 1) := by decide +kernel
theorem dX8_ifFound_61 : decode cX8_ifFound 61 = .ok (.laload, 1) := by decide +kernel
theorem dX8_ifFound_62 : decode cX8_ifFound 62 = .ok (.iload 7, 2) := by decide +kernel
theorem dX8_ifFound_64 : decode cX8_ifFound 64 = .ok (.iload 4, 2) := by decide +kernel
theorem dX8_ifFound_66 : decode cX8_ifFound 66 = .ok (.invokestatic 154, 3) := by decide +kernel
theorem dX8_ifFound_69 : decode cX8_ifFound 69 = .ok (.iload 5, 2) := by decide +kernel
theorem dX8_ifFound_71 : decode cX8_ifFound 71 = .ok (.iconst 1, 1) := by decide +kernel
theorem dX8_ifFound_72 : decode cX8_ifFound 72 = .ok (.if_icmp .ne 7, 3) := by decide +kernel
theorem dX8_ifFound_75 : decode cX8_ifFound 75 = .ok (.iconst 1, 1) := by decide +kernel
theorem dX8_ifFound_76 : decode cX8_ifFound 76 = .ok (.goto 4, 3) := by decide +kernel
theorem dX8_ifFound_79 : decode cX8_ifFound 79 = .ok (.iconst 0, 1) := by decide +kernel
theorem dX8_ifFound_80 : decode cX8_ifFound 80 = .ok (.if_icmp .ne 9, 3) := by decide +kernel
theorem dX8_ifFound_83 : decode cX8_ifFound 83 = .ok (.iload 6, 2) := by decide +kernel
theorem dX8_ifFound_85 : decode cX8_ifFound 85 = .ok (.i2l, 1) := by decide +kernel
theorem dX8_ifFound_86 : decode cX8_ifFound 86 = .ok (.goto 9, 3) := by decide +kernel
theorem dX8_ifFound_89 : decode cX8_ifFound 89 = .ok (.bipush 10, 2) := by decide +kernel
theorem dX8_ifFound_91 : decode cX8_ifFound 91 = .ok (.iload 6, 2) := by decide +kernel
theorem dX8_ifFound_93 : decode cX8_ifFound 93 = .ok (.isub, 1) := by decide +kernel
theorem dX8_ifFound_94 : decode cX8_ifFound 94 = .ok (.i2l, 1) := by decide +kernel
theorem dX8_ifFound_95 : decode cX8_ifFound 95 = .ok (.lmul, 1) := by decide +kernel
theorem dX8_ifFound_96 : decode cX8_ifFound 96 = .ok (.lastore, 1) := by decide +kernel
theorem dX8_ifFound_97 : decode cX8_ifFound 97 = .ok (.aload_n 0, 1) := by decide +kernel
theorem dX8_ifFound_98 : decode cX8_ifFound 98 = .ok (.dup, 1) := by decide +kernel
theorem dX8_ifFound_99 : decode cX8_ifFound 99 = .ok (.getfield 161, 3) := by decide +kernel
theorem dX8_ifFound_102 : decode cX8_ifFound 102 = .ok (.aload_n 0, 1) := by decide +kernel
theorem dX8_ifFound_103 : decode cX8_ifFound 103 = .ok (.getfield 30, 3) := by decide +kernel
theorem dX8_ifFound_106 : decode cX8_ifFound 106 = .ok (.iload 7, 2) := by decide +kernel
theorem dX8_ifFound_108 : decode cX8_ifFound 108 = .ok (.laload, 1) := by decide +kernel
theorem dX8_ifFound_109 : decode cX8_ifFound 109 = .ok (.ladd, 1) := by decide +kernel
theorem dX8_ifFound_110 : decode cX8_ifFound 110 = .ok (.putfield 161, 3) := by decide +kernel
theorem dX8_ifFound_113 : decode cX8_ifFound 113 = .ok (.iinc 7 1, 3) := by decide +kernel
theorem dX8_ifFound_116 : decode cX8_ifFound 116 = .ok (.goto (-70), 3) := by decide +kernel
theorem dX8_ifFound_119 : decode cX8_ifFound 119 = .ok (.aload_n 0, 1) := by decide +kernel
theorem dX8_ifFound_120 : decode cX8_ifFound 120 = .ok (.getfield 161, 3) := by decide +kernel
theorem dX8_ifFound_123 : decode cX8_ifFound 123 = .ok (.lconst 0, 1) := by decide +kernel
theorem dX8_ifFound_124 : decode cX8_ifFound 124 = .ok (.lcmp, 1) := by decide +kernel
theorem dX8_ifFound_125 : decode cX8_ifFound 125 = .ok (.ifCond .le 21, 3) := by decide +kernel
theorem dX8_ifFound_128 : decode cX8_ifFound 128 = .ok (.aload_n 0, 1) := by decide +kernel
theorem dX8_ifFound_129 : decode cX8_ifFound 129 = .ok (.aload_n 0, 1) := by decide +kernel
theorem dX8_ifFound_130 : decode cX8_ifFound 130 = .ok (.iload_n 1, 1) := by decide +kernel
theorem dX8_ifFound_131 : decode cX8_ifFound 131 = .ok (.iload_n 2, 1) := by decide +kernel
theorem dX8_ifFound_132 : decode cX8_ifFound 132 = .ok (.iload_n 3, 1) := by decide +kernel
theorem dX8_ifFound_133 : decode cX8_ifFound 133 = .ok (.invokevirtual 199, 3) := by decide +kernel
theorem dX8_ifFound_136 : decode cX8_ifFound 136 = .ok (.aload_n 0, 1) := by decide +kernel
theorem dX8_ifFound_137 : decode cX8_ifFound 137 = .ok (.getfield 161, 3) := by decide +kernel
theorem dX8_ifFound_140 : decode cX8_ifFound 140 = .ok (.invokevirtual 203, 3) := by decide +kernel
theorem dX8_ifFound_143 : decode cX8_ifFound 143 = .ok (.goto 7, 3) := by decide +kernel
theorem dX8_ifFound_146 : decode cX8_ifFound 146 = .ok (.aload_n 0, 1) := by decide +kernel
theorem dX8_ifFound_147 : decode cX8_ifFound 147 = .ok (.invokevirtual 74, 3) := by decide +kernel
theorem dX8_ifFound_150 : decode cX8_ifFound 150 = .ok (.ireturn, 1) := by decide +kernel
set_option maxRecDepth 20000 in
theorem ggX8_wins_X8_isSo : GoodIn wsX8_wins wsX8_isSo := goodIn_r _ [5, 6, 7, 4, 8] (by decide +kernel) (by decide +kernel)
set_option maxRecDepth 20000 in
theorem gX8_wins_X8_isSo : GoodIn wsX8_wins (va_wsS RX8 180 yX8_isSo wsX8_isSo) := goodIn_app (goodIn_of _ (by decide +kernel)) ggX8_wins_X8_isSo
theorem dX8_wins_0 : decode cX8_wins 0 = .ok (.aload_n 0, 1) := by decide +kernel
theorem dX8_wins_1 : decode cX8_wins 1 = .ok (.getfield 7, 3) := by decide +kernel
theorem dX8_wins_4 : decode cX8_wins 4 = .ok (.bipush 59, 2) := by decide +kernel
theorem dX8_wins_6 : decode cX8_wins 6 = .ok (.iconst 5, 1) := by decide +kernel
theorem dX8_wins_7 : decode cX8_wins 7 = .ok (.iload_n 1, 1) := by decide +kernel
theorem dX8_wins_8 : decode cX8_wins 8 = .ok (.imul, 1) := by decide +kernel
theorem dX8_wins_9 : decode cX8_wins 9 = .ok (.iadd, 1) := by decide +kernel
theorem dX8_wins_10 : decode cX8_wins 10 = .ok (.iaload, 1) := by decide +kernel
theorem dX8_wins_11 : decode cX8_wins 11 = .ok (.aload_n 0, 1) := by decide +kernel
theorem dX8_wins_12 : decode cX8_wins 12 = .ok (.getfield 7, 3) := by decide +kernel
theorem dX8_wins_15 : decode cX8_wins 15 = .ok (.bipush 59, 2) := by decide +kernel
theorem dX8_wins_17 : decode cX8_wins 17 = .ok (.iconst 5, 1) := by decide +kernel
theorem dX8_wins_18 : decode cX8_wins 18 = .ok (.iload_n 1, 1) := by decide +kernel
theorem dX8_wins_19 : decode cX8_wins 19 = .ok (.imul, 1) := by decide +kernel
theorem dX8_wins_20 : decode cX8_wins 20 = .ok (.iadd, 1) := by decide +kernel
theorem dX8_wins_21 : decode cX8_wins 21 = .ok (.iconst 1, 1) := by decide +kernel
theorem dX8_wins_22 : decode cX8_wins 22 = .ok (.iadd, 1) := by decide +kernel
theorem dX8_wins_23 : decode cX8_wins 23 = .ok (.iaload, 1) := by decide +kernel
theorem dX8_wins_24 : decode cX8_wins 24 = .ok (.aload_n 0, 1) := by decide +kernel
theorem dX8_wins_25 : decode cX8_wins 25 = .ok (.getfield 7, 3) := by decide +kernel
theorem dX8_wins_28 : decode cX8_wins 28 = .ok (.bipush 59, 2) := by decide +kernel
theorem dX8_wins_30 : decode cX8_wins 30 = .ok (.iconst 5, 1) := by decide +kernel
theorem dX8_wins_31 : decode cX8_wins 31 = .ok (.iload_n 1, 1) := by decide +kernel
theorem dX8_wins_32 : decode cX8_wins 32 = .ok (.imul, 1) := by decide +kernel
theorem dX8_wins_33 : decode cX8_wins 33 = .ok (.iadd, 1) := by decide +kernel
theorem dX8_wins_34 : decode cX8_wins 34 = .ok (.iconst 2, 1) := by decide +kernel
theorem dX8_wins_35 : decode cX8_wins 35 = .ok (.iadd, 1) := by decide +kernel
theorem dX8_wins_36 : decode cX8_wins 36 = .ok (.iaload, 1) := by decide +kernel
theorem dX8_wins_37 : decode cX8_wins 37 = .ok (.iload_n 2, 1) := by decide +kernel
theorem dX8_wins_38 : decode cX8_wins 38 = .ok (.invokestatic 180, 3) := by decide +kernel
theorem dX8_wins_41 : decode cX8_wins 41 = .ok (.ireturn, 1) := by decide +kernel
set_option maxRecDepth 20000 in
theorem ggX8_gain_X8_wins : GoodIn wsX8_gain wsX8_wins := goodIn_r _ [6, 1, 7, 8, 5, 9, 10, 11, 12, 13, 14, 15, 16, 17, 18, 19, 20, 21, 22, 23, 24, 25, 26, 27, 28, 29, 30] (by decide +kernel) (by decide +kernel)
set_option maxRecDepth 20000 in
theorem gX8_gain_X8_wins : GoodIn wsX8_gain (wsV RX8 207 RX8 yX8_wins wsX8_wins) := goodIn_app (goodIn_of _ (by decide +kernel)) ggX8_gain_X8_wins
theorem dX8_gain_0 : decode cX8_gain 0 = .ok (.aload_n 0, 1) := by decide +kernel
theorem dX8_gain_1 : decode cX8_gain 1 = .ok (.getfield 7, 3) := by decide +kernel
theorem dX8_gain_4 : decode cX8_gain 4 = .ok (.bipush 59, 2) := by decide +kernel
theorem dX8_gain_6 : decode cX8_gain 6 = .ok (.iconst 5, 1) := by decide +kernel
theorem dX8_gain_7 : decode cX8_gain 7 = .ok (.iload_n 1, 1) := by decide +kernel
theorem dX8_gain_8 : decode cX8_gain 8 = .ok (.imul, 1) := by decide +kernel
theorem dX8_gain_9 : decode cX8_gain 9 = .ok (.iadd, 1) := by decide +kernel
theorem dX8_gain_10 : decode cX8_gain 10 = .ok (.iconst 3, 1) := by decide +kernel
theorem dX8_gain_11 : decode cX8_gain 11 = .ok (.iadd, 1) := by decide +kernel
theorem dX8_gain_12 : decode cX8_gain 12 = .ok (.iaload, 1) := by decide +kernel
theorem dX8_gain_13 : decode cX8_gain 13 = .ok (.istore_n 3, 1) := by decide +kernel
theorem dX8_gain_14 : decode cX8_gain 14 = .ok (.aload_n 0, 1) := by decide +kernel
theorem dX8_gain_15 : decode cX8_gain 15 = .ok (.iload_n 1, 1) := by decide +kernel
theorem dX8_gain_16 : decode cX8_gain 16 = .ok (.iload_n 2, 1) := by decide +kernel
theorem dX8_gain_17 : decode cX8_gain 17 = .ok (.invokevirtual 207, 3) := by decide +kernel
theorem dX8_gain_20 : decode cX8_gain 20 = .ok (.ifCond .eq 21, 3) := by decide +kernel
theorem dX8_gain_23 : decode cX8_gain 23 = .ok (.iload_n 3, 1) := by decide +kernel
theorem dX8_gain_24 : decode cX8_gain 24 = .ok (.aload_n 0, 1) := by decide +kernel
theorem dX8_gain_25 : decode cX8_gain 25 = .ok (.getfield 7, 3) := by decide +kernel
theorem dX8_gain_28 : decode cX8_gain 28 = .ok (.bipush 59, 2) := by decide +kernel
theorem dX8_gain_30 : decode cX8_gain 30 = .ok (.iconst 5, 1) := by decide +kernel
theorem dX8_gain_31 : decode cX8_gain 31 = .ok (.iload_n 1, 1) := by decide +kernel
theorem dX8_gain_32 : decode cX8_gain 32 = .ok (.imul, 1) := by decide +kernel
theorem dX8_gain_33 : decode cX8_gain 33 = .ok (.iadd, 1) := by decide +kernel
theorem dX8_gain_34 : decode cX8_gain 34 = .ok (.iconst 4, 1) := by decide +kernel
theorem dX8_gain_35 : decode cX8_gain 35 = .ok (.iadd, 1) := by decide +kernel
theorem dX8_gain_36 : decode cX8_gain 36 = .ok (.iaload, 1) := by decide +kernel
theorem dX8_gain_37 : decode cX8_gain 37 = .ok (.imul, 1) := by decide +kernel
theorem dX8_gain_38 : decode cX8_gain 38 = .ok (.goto 5, 3) := by decide +kernel
theorem dX8_gain_41 : decode cX8_gain 41 = .ok (.iload_n 3, 1) := by decide +kernel
theorem dX8_gain_42 : decode cX8_gain 42 = .ok (.ineg, 1) := by decide +kernel
theorem dX8_gain_43 : decode cX8_gain 43 = .ok (.ireturn, 1) := by decide +kernel
set_option maxRecDepth 20000 in
theorem ggX8_bookOf_X8_gain : GoodIn wsX8_bookOf wsX8_gain := goodIn_r _ [6, 1, 7, 8, 9, 5, 10, 11, 12, 13, 14, 15, 16, 17, 18, 19, 20, 21, 22, 23, 24, 25, 26, 27, 28, 29, 30, 31, 32, 33, 34] (by decide +kernel) (by decide +kernel)
set_option maxRecDepth 20000 in
theorem gX8_bookOf_X8_gain : GoodIn wsX8_bookOf (wsV RX8 210 RX8 yX8_gain wsX8_gain) := goodIn_app (goodIn_of _ (by decide +kernel)) ggX8_bookOf_X8_gain
theorem dX8_bookOf_0 : decode cX8_bookOf 0 = .ok (.iconst 0, 1) := by decide +kernel
theorem dX8_bookOf_1 : decode cX8_bookOf 1 = .ok (.istore_n 2, 1) := by decide +kernel
theorem dX8_bookOf_2 : decode cX8_bookOf 2 = .ok (.iconst 0, 1) := by decide +kernel
theorem dX8_bookOf_3 : decode cX8_bookOf 3 = .ok (.istore_n 3, 1) := by decide +kernel
theorem dX8_bookOf_4 : decode cX8_bookOf 4 = .ok (.iload_n 3, 1) := by decide +kernel
theorem dX8_bookOf_5 : decode cX8_bookOf 5 = .ok (.aload_n 0, 1) := by decide +kernel
theorem dX8_bookOf_6 : decode cX8_bookOf 6 = .ok (.getfield 7, 3) := by decide +kernel
theorem dX8_bookOf_9 : decode cX8_bookOf 9 = .ok (.iconst 2, 1) := by decide +kernel
theorem dX8_bookOf_10 : decode cX8_bookOf 10 = .ok (.iaload, 1) := by decide +kernel
theorem dX8_bookOf_11 : decode cX8_bookOf 11 = .ok (.if_icmp .ge 18, 3) := by decide +kernel
theorem dX8_bookOf_14 : decode cX8_bookOf 14 = .ok (.iload_n 2, 1) := by decide +kernel
theorem dX8_bookOf_15 : decode cX8_bookOf 15 = .ok (.aload_n 0, 1) := by decide +kernel
theorem dX8_bookOf_16 : decode cX8_bookOf 16 = .ok (.iload_n 3, 1) := by decide +kernel
theorem dX8_bookOf_17 : decode cX8_bookOf 17 = .ok (.iload_n 1, 1) := by decide +kernel
theorem dX8_bookOf_18 : decode cX8_bookOf 18 = .ok (.invokevirtual 210, 3) := by decide +kernel
theorem dX8_bookOf_21 : decode cX8_bookOf 21 = .ok (.isub, 1) := by decide +kernel
theorem dX8_bookOf_22 : decode cX8_bookOf 22 = .ok (.istore_n 2, 1) := by decide +kernel
theorem dX8_bookOf_23 : decode cX8_bookOf 23 = .ok (.iinc 3 1, 3) := by decide +kernel
theorem dX8_bookOf_26 : decode cX8_bookOf 26 = .ok (.goto (-22), 3) := by decide +kernel
theorem dX8_bookOf_29 : decode cX8_bookOf 29 = .ok (.iload_n 2, 1) := by decide +kernel
theorem dX8_bookOf_30 : decode cX8_bookOf 30 = .ok (.ireturn, 1) := by decide +kernel
set_option maxRecDepth 20000 in
theorem ggX8_book_X8_isPast : GoodIn wsX8_book wsX8_isPast := goodIn_r _ [5, 6, 7, 8, 4, 9] (by decide +kernel) (by decide +kernel)
set_option maxRecDepth 20000 in
theorem gX8_book_X8_isPast : GoodIn wsX8_book (va_wsS RX8 174 yX8_isPast wsX8_isPast) := goodIn_app (goodIn_of _ (by decide +kernel)) ggX8_book_X8_isPast
set_option maxRecDepth 20000 in
theorem ggX8_book_X8_bookOf : GoodIn wsX8_book wsX8_bookOf := goodIn_r _ [13, 14, 15, 16, 17, 4, 18, 19, 20, 21, 22, 23, 24, 25, 26, 27, 28, 34, 35, 36, 37, 38, 39, 40, 41, 42, 43, 44, 45, 46, 47, 48, 49, 50, 51] (by decide +kernel) (by decide +kernel)
set_option maxRecDepth 20000 in
theorem gX8_book_X8_bookOf : GoodIn wsX8_book (wsV RX8 214 RX8 yX8_bookOf wsX8_bookOf) := goodIn_app (goodIn_of _ (by decide +kernel)) ggX8_book_X8_bookOf
set_option maxRecDepth 20000 in
theorem ggX8_book_X8_badAs : GoodIn wsX8_book wsX8_badAs := goodIn_r _ [32, 33, 34, 35, 36, 37, 38, 39, 40, 41, 42, 43, 44, 45, 46, 47, 48, 49, 50, 51] (by decide +kernel) (by decide +kernel)
set_option maxRecDepth 20000 in
theorem gX8_book_X8_badAs : GoodIn wsX8_book (wsV RX8 171 RX8 yX8_badAs wsX8_badAs) := goodIn_app (goodIn_of _ (by decide +kernel)) ggX8_book_X8_badAs
theorem dX8_book_0 : decode cX8_book 0 = .ok (.iload_n 1, 1) := by decide +kernel
theorem dX8_book_1 : decode cX8_book 1 = .ok (.invokestatic 174, 3) := by decide +kernel
theorem dX8_book_4 : decode cX8_book 4 = .ok (.ifCond .eq 11, 3) := by decide +kernel
theorem dX8_book_7 : decode cX8_book 7 = .ok (.aload_n 0, 1) := by decide +kernel
theorem dX8_book_8 : decode cX8_book 8 = .ok (.iload_n 1, 1) := by decide +kernel
theorem dX8_book_9 : decode cX8_book 9 = .ok (.invokevirtual 214, 3) := by decide +kernel
theorem dX8_book_12 : decode cX8_book 12 = .ok (.goto 9, 3) := by decide +kernel
theorem dX8_book_15 : decode cX8_book 15 = .ok (.aload_n 0, 1) := by decide +kernel
theorem dX8_book_16 : decode cX8_book 16 = .ok (.ldc 217, 2) := by decide +kernel
theorem dX8_book_18 : decode cX8_book 18 = .ok (.invokevirtual 171, 3) := by decide +kernel
theorem dX8_book_21 : decode cX8_book 21 = .ok (.ireturn, 1) := by decide +kernel
set_option maxRecDepth 20000 in
theorem ggX8_worst_X8_in : GoodIn wsX8_worst wsX8_in := goodIn_r _ [7] (by decide +kernel) (by decide +kernel)
set_option maxRecDepth 20000 in
theorem gX8_worst_X8_in : GoodIn wsX8_worst (va_wsS RX8 40 yX8_in wsX8_in) := goodIn_app (goodIn_of _ (by decide +kernel)) ggX8_worst_X8_in
set_option maxRecDepth 20000 in
theorem ggX8_worst_X8_badAs : GoodIn wsX8_worst wsX8_badAs := goodIn_r _ [11, 12, 53, 54, 55, 56, 57, 58, 59, 60, 61, 62, 63, 64, 65, 66, 67, 68, 69, 70] (by decide +kernel) (by decide +kernel)
set_option maxRecDepth 20000 in
theorem gX8_worst_X8_badAs : GoodIn wsX8_worst (wsV RX8 171 RX8 yX8_badAs wsX8_badAs) := goodIn_app (goodIn_of _ (by decide +kernel)) ggX8_worst_X8_badAs
set_option maxRecDepth 20000 in
theorem ggX8_worst_X8_fits : GoodIn wsX8_worst wsX8_fits := goodIn_r _ [16, 17, 18, 19, 20, 6, 21, 3, 22, 23, 24, 25, 26, 27, 28, 29, 30, 31, 32, 33, 53, 54, 55, 56, 57, 58, 59, 60, 61, 62, 63, 64, 65, 66, 67, 68, 69, 70] (by decide +kernel) (by decide +kernel)
set_option maxRecDepth 20000 in
theorem gX8_worst_X8_fits : GoodIn wsX8_worst (wsV RX8 177 RX8 yX8_fits wsX8_fits) := goodIn_app (goodIn_of _ (by decide +kernel)) ggX8_worst_X8_fits
set_option maxRecDepth 20000 in
theorem ggX8_worst_X8_noAs : GoodIn wsX8_worst wsX8_noAs := goodIn_r _ [37, 12, 53, 54, 55, 56, 57, 58, 59, 60, 61, 62, 63, 64, 65, 66, 67, 68, 69, 70] (by decide +kernel) (by decide +kernel)
set_option maxRecDepth 20000 in
theorem gX8_worst_X8_noAs : GoodIn wsX8_worst (wsV RX8 219 RX8 yX8_noAs wsX8_noAs) := goodIn_app (goodIn_of _ (by decide +kernel)) ggX8_worst_X8_noAs
set_option maxRecDepth 20000 in
theorem ggX8_worst_X8_bookOf : GoodIn wsX8_worst wsX8_bookOf := goodIn_r _ [41, 26, 42, 43, 44, 6, 45, 46, 47, 48, 49, 50, 51, 52, 31, 32, 33, 53, 54, 55, 56, 57, 58, 59, 60, 61, 62, 63, 64, 65, 66, 67, 68, 69, 70] (by decide +kernel) (by decide +kernel)
set_option maxRecDepth 20000 in
theorem gX8_worst_X8_bookOf : GoodIn wsX8_worst (wsV RX8 214 RX8 yX8_bookOf wsX8_bookOf) := goodIn_app (goodIn_of _ (by decide +kernel)) ggX8_worst_X8_bookOf
theorem dX8_worst_0 : decode cX8_worst 0 = .ok (.iload_n 1, 1) := by decide +kernel
theorem dX8_worst_1 : decode cX8_worst 1 = .ok (.i2l, 1) := by decide +kernel
theorem dX8_worst_2 : decode cX8_worst 2 = .ok (.lconst 0, 1) := by decide +kernel
theorem dX8_worst_3 : decode cX8_worst 3 = .ok (.lconst 1, 1) := by decide +kernel
theorem dX8_worst_4 : decode cX8_worst 4 = .ok (.invokestatic 40, 3) := by decide +kernel
theorem dX8_worst_7 : decode cX8_worst 7 = .ok (.ifCond .ne 10, 3) := by decide +kernel
theorem dX8_worst_10 : decode cX8_worst 10 = .ok (.aload_n 0, 1) := by decide +kernel
theorem dX8_worst_11 : decode cX8_worst 11 = .ok (.ldc 217, 2) := by decide +kernel
theorem dX8_worst_13 : decode cX8_worst 13 = .ok (.invokevirtual 171, 3) := by decide +kernel
theorem dX8_worst_16 : decode cX8_worst 16 = .ok (.ireturn, 1) := by decide +kernel
theorem dX8_worst_17 : decode cX8_worst 17 = .ok (.aload_n 0, 1) := by decide +kernel
theorem dX8_worst_18 : decode cX8_worst 18 = .ok (.invokevirtual 177, 3) := by decide +kernel
theorem dX8_worst_21 : decode cX8_worst 21 = .ok (.ifCond .ne 10, 3) := by decide +kernel
theorem dX8_worst_24 : decode cX8_worst 24 = .ok (.aload_n 0, 1) := by decide +kernel
theorem dX8_worst_25 : decode cX8_worst 25 = .ok (.ldc 218, 2) := by decide +kernel
theorem dX8_worst_27 : decode cX8_worst 27 = .ok (.invokevirtual 219, 3) := by decide +kernel
theorem dX8_worst_30 : decode cX8_worst 30 = .ok (.ireturn, 1) := by decide +kernel
theorem dX8_worst_31 : decode cX8_worst 31 = .ok (.iconst (-1), 1) := by decide +kernel
theorem dX8_worst_32 : decode cX8_worst 32 = .ok (.istore_n 2, 1) := by decide +kernel
theorem dX8_worst_33 : decode cX8_worst 33 = .ok (.iconst 0, 1) := by decide +kernel
theorem dX8_worst_34 : decode cX8_worst 34 = .ok (.istore_n 3, 1) := by decide +kernel
theorem dX8_worst_35 : decode cX8_worst 35 = .ok (.iload_n 3, 1) := by decide +kernel
theorem dX8_worst_36 : decode cX8_worst 36 = .ok (.sipush 128, 3) := by decide +kernel
theorem dX8_worst_39 : decode cX8_worst 39 = .ok (.if_icmp .ge 44, 3) := by decide +kernel
theorem dX8_worst_42 : decode cX8_worst 42 = .ok (.aload_n 0, 1) := by decide +kernel
theorem dX8_worst_43 : decode cX8_worst 43 = .ok (.getfield 30, 3) := by decide +kernel
theorem dX8_worst_46 : decode cX8_worst 46 = .ok (.iload_n 3, 1) := by decide +kernel
theorem dX8_worst_47 : decode cX8_worst 47 = .ok (.laload, 1) := by decide +kernel
theorem dX8_worst_48 : decode cX8_worst 48 = .ok (.lconst 0, 1) := by decide +kernel
theorem dX8_worst_49 : decode cX8_worst 49 = .ok (.lcmp, 1) := by decide +kernel
theorem dX8_worst_50 : decode cX8_worst 50 = .ok (.ifCond .le 25, 3) := by decide +kernel
theorem dX8_worst_53 : decode cX8_worst 53 = .ok (.iload_n 2, 1) := by decide +kernel
theorem dX8_worst_54 : decode cX8_worst 54 = .ok (.iconst (-1), 1) := by decide +kernel
theorem dX8_worst_55 : decode cX8_worst 55 = .ok (.if_icmp .eq 16, 3) := by decide +kernel
theorem dX8_worst_58 : decode cX8_worst 58 = .ok (.aload_n 0, 1) := by decide +kernel
theorem dX8_worst_59 : decode cX8_worst 59 = .ok (.iload_n 3, 1) := by decide +kernel
theorem dX8_worst_60 : decode cX8_worst 60 = .ok (.invokevirtual 214, 3) := by decide +kernel
theorem dX8_worst_63 : decode cX8_worst 63 = .ok (.aload_n 0, 1) := by decide +kernel
theorem dX8_worst_64 : decode cX8_worst 64 = .ok (.iload_n 2, 1) := by decide +kernel
theorem dX8_worst_65 : decode cX8_worst 65 = .ok (.invokevirtual 214, 3) := by decide +kernel
theorem dX8_worst_68 : decode cX8_worst 68 = .ok (.if_icmp .ge 7, 3) := by decide +kernel
theorem dX8_worst_71 : decode cX8_worst 71 = .ok (.iload_n 3, 1) := by decide +kernel
theorem dX8_worst_72 : decode cX8_worst 72 = .ok (.goto 4, 3) := by decide +kernel
theorem dX8_worst_75 : decode cX8_worst 75 = .ok (.iload_n 2, 1) := by decide +kernel
theorem dX8_worst_76 : decode cX8_worst 76 = .ok (.istore_n 2, 1) := by decide +kernel
theorem dX8_worst_77 : decode cX8_worst 77 = .ok (.iinc 3 1, 3) := by decide +kernel
theorem dX8_worst_80 : decode cX8_worst 80 = .ok (.goto (-45), 3) := by decide +kernel
theorem dX8_worst_83 : decode cX8_worst 83 = .ok (.iload_n 1, 1) := by decide +kernel
theorem dX8_worst_84 : decode cX8_worst 84 = .ok (.iconst 1, 1) := by decide +kernel
theorem dX8_worst_85 : decode cX8_worst 85 = .ok (.if_icmp .ne 7, 3) := by decide +kernel
theorem dX8_worst_88 : decode cX8_worst 88 = .ok (.iload_n 2, 1) := by decide +kernel
theorem dX8_worst_89 : decode cX8_worst 89 = .ok (.goto 8, 3) := by decide +kernel
theorem dX8_worst_92 : decode cX8_worst 92 = .ok (.aload_n 0, 1) := by decide +kernel
theorem dX8_worst_93 : decode cX8_worst 93 = .ok (.iload_n 2, 1) := by decide +kernel
theorem dX8_worst_94 : decode cX8_worst 94 = .ok (.invokevirtual 214, 3) := by decide +kernel
theorem dX8_worst_97 : decode cX8_worst 97 = .ok (.ireturn, 1) := by decide +kernel
set_option maxRecDepth 20000 in
theorem ggX8_mean_X8_fits : GoodIn wsX8_mean wsX8_fits := goodIn_r _ [7, 2, 8, 9, 10, 6, 11, 1, 12, 13, 14, 15, 16, 17, 18, 19, 20, 21, 22, 23, 50, 51, 52, 53, 54, 55, 56, 57, 58, 59, 60, 61, 62, 63, 64, 65, 66, 67] (by decide +kernel) (by decide +kernel)
set_option maxRecDepth 20000 in
theorem gX8_mean_X8_fits : GoodIn wsX8_mean (wsV RX8 177 RX8 yX8_fits wsX8_fits) := goodIn_app (goodIn_of _ (by decide +kernel)) ggX8_mean_X8_fits
set_option maxRecDepth 20000 in
theorem ggX8_mean_X8_no : GoodIn wsX8_mean wsX8_no := goodIn_r _ [27, 28, 50, 51, 52, 53, 54, 55, 56, 57, 58, 59, 60, 61, 62, 63, 64, 65, 66, 67] (by decide +kernel) (by decide +kernel)
set_option maxRecDepth 20000 in
theorem gX8_mean_X8_no : GoodIn wsX8_mean (wsV RX8 74 RX8 yX8_no wsX8_no) := goodIn_app (goodIn_of _ (by decide +kernel)) ggX8_mean_X8_no
set_option maxRecDepth 20000 in
theorem ggX8_mean_X8_bookOf : GoodIn wsX8_mean wsX8_bookOf := goodIn_r _ [32, 16, 33, 34, 35, 6, 36, 37, 38, 39, 40, 41, 42, 43, 21, 22, 23, 50, 51, 52, 53, 54, 55, 56, 57, 58, 59, 60, 61, 62, 63, 64, 65, 66, 67] (by decide +kernel) (by decide +kernel)
set_option maxRecDepth 20000 in
theorem gX8_mean_X8_bookOf : GoodIn wsX8_mean (wsV RX8 214 RX8 yX8_bookOf wsX8_bookOf) := goodIn_app (goodIn_of _ (by decide +kernel)) ggX8_mean_X8_bookOf
set_option maxRecDepth 20000 in
theorem ggX8_mean_X8_tells : GoodIn wsX8_mean wsX8_tells := goodIn_r _ [47, 48, 49, 50, 51, 52, 53, 54, 55, 56, 57, 58, 59, 60, 61, 62, 63, 64, 65, 66, 67] (by decide +kernel) (by decide +kernel)
set_option maxRecDepth 20000 in
theorem gX8_mean_X8_tells : GoodIn wsX8_mean (wsV RX8 203 RX8 yX8_tells wsX8_tells) := goodIn_app (goodIn_of _ (by decide +kernel)) ggX8_mean_X8_tells
theorem dX8_mean_0 : decode cX8_mean 0 = .ok (.aload_n 0, 1) := by decide +kernel
theorem dX8_mean_1 : decode cX8_mean 1 = .ok (.invokevirtual 177, 3) := by decide +kernel
theorem dX8_mean_4 : decode cX8_mean 4 = .ok (.ifCond .ne 8, 3) := by decide +kernel
theorem dX8_mean_7 : decode cX8_mean 7 = .ok (.aload_n 0, 1) := by decide +kernel
theorem dX8_mean_8 : decode cX8_mean 8 = .ok (.invokevirtual 74, 3) := by decide +kernel
theorem dX8_mean_11 : decode cX8_mean 11 = .ok (.ireturn, 1) := by decide +kernel
theorem dX8_mean_12 : decode cX8_mean 12 = .ok (.lconst 0, 1) := by decide +kernel
theorem dX8_mean_13 : decode cX8_mean 13 = .ok (.lstore_n 1, 1) := by decide +kernel
theorem dX8_mean_14 : decode cX8_mean 14 = .ok (.iconst 0, 1) := by decide +kernel
theorem dX8_mean_15 : decode cX8_mean 15 = .ok (.istore_n 3, 1) := by decide +kernel
theorem dX8_mean_16 : decode cX8_mean 16 = .ok (.iload_n 3, 1) := by decide +kernel
theorem dX8_mean_17 : decode cX8_mean 17 = .ok (.sipush 128, 3) := by decide +kernel
theorem dX8_mean_20 : decode cX8_mean 20 = .ok (.if_icmp .ge 25, 3) := by decide +kernel
theorem dX8_mean_23 : decode cX8_mean 23 = .ok (.lload_n 1, 1) := by decide +kernel
theorem dX8_mean_24 : decode cX8_mean 24 = .ok (.aload_n 0, 1) := by decide +kernel
theorem dX8_mean_25 : decode cX8_mean 25 = .ok (.getfield 30, 3) := by decide +kernel
theorem dX8_mean_28 : decode cX8_mean 28 = .ok (.iload_n 3, 1) := by decide +kernel
theorem dX8_mean_29 : decode cX8_mean 29 = .ok (.laload, 1) := by decide +kernel
theorem dX8_mean_30 : decode cX8_mean 30 = .ok (.aload_n 0, 1) := by decide +kernel
theorem dX8_mean_31 : decode cX8_mean 31 = .ok (.iload_n 3, 1) := by decide +kernel
theorem dX8_mean_32 : decode cX8_mean 32 = .ok (.invokevirtual 214, 3) := by decide +kernel
theorem dX8_mean_35 : decode cX8_mean 35 = .ok (.i2l, 1) := by decide +kernel
theorem dX8_mean_36 : decode cX8_mean 36 = .ok (.lmul, 1) := by decide +kernel
theorem dX8_mean_37 : decode cX8_mean 37 = .ok (.ladd, 1) := by decide +kernel
theorem dX8_mean_38 : decode cX8_mean 38 = .ok (.lstore_n 1, 1) := by decide +kernel
theorem dX8_mean_39 : decode cX8_mean 39 = .ok (.iinc 3 1, 3) := by decide +kernel
theorem dX8_mean_42 : decode cX8_mean 42 = .ok (.goto (-26), 3) := by decide +kernel
theorem dX8_mean_45 : decode cX8_mean 45 = .ok (.aload_n 0, 1) := by decide +kernel
theorem dX8_mean_46 : decode cX8_mean 46 = .ok (.lload_n 1, 1) := by decide +kernel
theorem dX8_mean_47 : decode cX8_mean 47 = .ok (.aload_n 0, 1) := by decide +kernel
theorem dX8_mean_48 : decode cX8_mean 48 = .ok (.getfield 161, 3) := by decide +kernel
theorem dX8_mean_51 : decode cX8_mean 51 = .ok (.invokevirtual 203, 3) := by decide +kernel
theorem dX8_mean_54 : decode cX8_mean 54 = .ok (.ireturn, 1) := by decide +kernel
set_option maxRecDepth 20000 in
theorem ggX8_sure_X8_in : GoodIn wsX8_sure wsX8_in := goodIn_r _ [7] (by decide +kernel) (by decide +kernel)
set_option maxRecDepth 20000 in
theorem gX8_sure_X8_in : GoodIn wsX8_sure (va_wsS RX8 40 yX8_in wsX8_in) := goodIn_app (goodIn_of _ (by decide +kernel)) ggX8_sure_X8_in
set_option maxRecDepth 20000 in
theorem ggX8_sure_X8_bad : GoodIn wsX8_sure wsX8_bad := goodIn_r _ [11, 12, 47, 48, 49, 50, 51, 52, 53, 54, 55, 56, 57, 58, 59, 60, 61, 62, 63, 64] (by decide +kernel) (by decide +kernel)
set_option maxRecDepth 20000 in
theorem gX8_sure_X8_bad : GoodIn wsX8_sure (wsV RX8 54 RX8 yX8_bad wsX8_bad) := goodIn_app (goodIn_of _ (by decide +kernel)) ggX8_sure_X8_bad
set_option maxRecDepth 20000 in
theorem ggX8_sure_X8_fits : GoodIn wsX8_sure wsX8_fits := goodIn_r _ [16, 17, 18, 19, 20, 6, 21, 3, 22, 23, 24, 25, 1, 26, 27, 28, 29, 30, 31, 32, 47, 48, 49, 50, 51, 52, 53, 54, 55, 56, 57, 58, 59, 60, 61, 62, 63, 64] (by decide +kernel) (by decide +kernel)
set_option maxRecDepth 20000 in
theorem gX8_sure_X8_fits : GoodIn wsX8_sure (wsV RX8 177 RX8 yX8_fits wsX8_fits) := goodIn_app (goodIn_of _ (by decide +kernel)) ggX8_sure_X8_fits
set_option maxRecDepth 20000 in
theorem ggX8_sure_X8_has : GoodIn wsX8_sure wsX8_has := goodIn_r _ [32] (by decide +kernel) (by decide +kernel)
set_option maxRecDepth 20000 in
theorem gX8_sure_X8_has : GoodIn wsX8_sure (va_wsS RX8 154 yX8_has wsX8_has) := goodIn_app (goodIn_of _ (by decide +kernel)) ggX8_sure_X8_has
set_option maxRecDepth 20000 in
theorem ggX8_sure_X8_gain : GoodIn wsX8_sure wsX8_gain := goodIn_r _ [36, 1, 37, 38, 39, 6, 40, 41, 42, 43, 30, 31, 32, 47, 48, 49, 50, 51, 52, 53, 54, 55, 56, 57, 58, 59, 60, 61, 62, 63, 64] (by decide +kernel) (by decide +kernel)
set_option maxRecDepth 20000 in
theorem gX8_sure_X8_gain : GoodIn wsX8_sure (wsV RX8 210 RX8 yX8_gain wsX8_gain) := goodIn_app (goodIn_of _ (by decide +kernel)) ggX8_sure_X8_gain
set_option maxRecDepth 20000 in
theorem ggX8_sure_X8_ones : GoodIn wsX8_sure wsX8_ones := goodIn_r _ [46] (by decide +kernel) (by decide +kernel)
set_option maxRecDepth 20000 in
theorem gX8_sure_X8_ones : GoodIn wsX8_sure (va_wsS RX8 223 yX8_ones wsX8_ones) := goodIn_app (goodIn_of _ (by decide +kernel)) ggX8_sure_X8_ones
theorem dX8_sure_0 : decode cX8_sure 0 = .ok (.iload_n 1, 1) := by decide +kernel
theorem dX8_sure_1 : decode cX8_sure 1 = .ok (.i2l, 1) := by decide +kernel
theorem dX8_sure_2 : decode cX8_sure 2 = .ok (.lconst 0, 1) := by decide +kernel
theorem dX8_sure_3 : decode cX8_sure 3 = .ok (.lconst 1, 1) := by decide +kernel
theorem dX8_sure_4 : decode cX8_sure 4 = .ok (.invokestatic 40, 3) := by decide +kernel
theorem dX8_sure_7 : decode cX8_sure 7 = .ok (.ifCond .ne 8, 3) := by decide +kernel
theorem dX8_sure_10 : decode cX8_sure 10 = .ok (.aload_n 0, 1) := by decide +kernel
theorem dX8_sure_11 : decode cX8_sure 11 = .ok (.invokevirtual 54, 3) := by decide +kernel
theorem dX8_sure_14 : decode cX8_sure 14 = .ok (.ireturn, 1) := by decide +kernel
theorem dX8_sure_15 : decode cX8_sure 15 = .ok (.iconst 0, 1) := by decide +kernel
theorem dX8_sure_16 : decode cX8_sure 16 = .ok (.istore_n 2, 1) := by decide +kernel
theorem dX8_sure_17 : decode cX8_sure 17 = .ok (.iconst 0, 1) := by decide +kernel
theorem dX8_sure_18 : decode cX8_sure 18 = .ok (.istore_n 3, 1) := by decide +kernel
theorem dX8_sure_19 : decode cX8_sure 19 = .ok (.aload_n 0, 1) := by decide +kernel
theorem dX8_sure_20 : decode cX8_sure 20 = .ok (.invokevirtual 177, 3) := by decide +kernel
theorem dX8_sure_23 : decode cX8_sure 23 = .ok (.istore 4, 2) := by decide +kernel
theorem dX8_sure_25 : decode cX8_sure 25 = .ok (.iconst 1, 1) := by decide +kernel
theorem dX8_sure_26 : decode cX8_sure 26 = .ok (.istore 5, 2) := by decide +kernel
theorem dX8_sure_28 : decode cX8_sure 28 = .ok (.iload 5, 2) := by decide +kernel
theorem dX8_sure_30 : decode cX8_sure 30 = .ok (.iconst 1, 1) := by decide +kernel
theorem dX8_sure_31 : decode cX8_sure 31 = .ok (.aload_n 0, 1) := by decide +kernel
theorem dX8_sure_32 : decode cX8_sure 32 = .ok (.getfield 7, 3) := by decide +kernel
theorem dX8_sure_35 : decode cX8_sure 35 = .ok (.iconst 2, 1) := by decide +kernel
theorem dX8_sure_36 : decode cX8_sure 36 = .ok (.iaload, 1) := by decide +kernel
theorem dX8_sure_37 : decode cX8_sure 37 = .ok (.ishl, 1) := by decide +kernel
theorem dX8_sure_38 : decode cX8_sure 38 = .ok (.if_icmp .ge 172, 3) := by decide +kernel
theorem dX8_sure_41 : decode cX8_sure 41 = .ok (.iload 4, 2) := by decide +kernel
theorem dX8_sure_43 : decode cX8_sure 43 = .ok (.ifCond .eq 167, 3) := by decide +kernel
theorem dX8_sure_46 : decode cX8_sure 46 = .ok (.ldc 222, 2) := by decide +kernel
theorem dX8_sure_48 : decode cX8_sure 48 = .ok (.istore 6, 2) := by decide +kernel
theorem dX8_sure_50 : decode cX8_sure 50 = .ok (.iconst 0, 1) := by decide +kernel
theorem dX8_sure_51 : decode cX8_sure 51 = .ok (.istore 7, 2) := by decide +kernel
theorem dX8_sure_53 : decode cX8_sure 53 = .ok (.iload 7, 2) := by decide +kernel
theorem dX8_sure_55 : decode cX8_sure 55 = .ok (.sipush 128, 3) := by decide +kernel
theorem dX8_sure_58 : decode cX8_sure 58 = .ok (.if_icmp .ge 87, 3) := by decide +kernel
theorem dX8_sure_61 : decode cX8_sure 61 = .ok (.aload_n 0, 1) := by decide +kernel
theorem dX8_sure_62 : decode cX8_sure 62 = .ok (.getfield 30, 3) := by decide +kernel
theorem dX8_sure_65 : decode cX8_sure 65 = .ok (.iload 7, 2) := by decide +kernel
theorem dX8_sure_67 : decode cX8_sure 67 = .ok (.laload, 1) := by decide +kernel
theorem dX8_sure_68 : decode cX8_sure 68 = .ok (.lconst 0, 1) := by decide +kernel
theorem dX8_sure_69 : decode cX8_sure 69 = .ok (.lcmp, 1) := by decide +kernel
theorem dX8_sure_70 : decode cX8_sure 70 = .ok (.ifCond .le 69, 3) := by decide +kernel
theorem dX8_sure_73 : decode cX8_sure 73 = .ok (.iconst 0, 1) := by decide +kernel
theorem dX8_sure_74 : decode cX8_sure 74 = .ok (.istore 8, 2) := by decide +kernel
theorem dX8_sure_76 : decode cX8_sure 76 = .ok (.iconst 0, 1) := by decide +kernel
theorem dX8_sure_77 : decode cX8_sure 77 = .ok (.istore 9, 2) := by decide +kernel
theorem dX8_sure_79 : decode cX8_sure 79 = .ok (.iload 9, 2) := by decide +kernel
theorem dX8_sure_81 : decode cX8_sure 81 = .ok (.aload_n 0, 1) := by decide +kernel
theorem dX8_sure_82 : decode cX8_sure 82 = .ok (.getfield 7, 3) := by decide +kernel
theorem dX8_sure_85 : decode cX8_sure 85 = .ok (.iconst 2, 1) := by decide +kernel
theorem dX8_sure_86 : decode cX8_sure 86 = .ok (.iaload, 1) := by decide +kernel
theorem dX8_sure_87 : decode cX8_sure 87 = .ok (.if_icmp .ge 36, 3) := by decide +kernel
theorem dX8_sure_90 : decode cX8_sure 90 = .ok (.iload 8, 2) := by decide +kernel
theorem dX8_sure_92 : decode cX8_sure 92 = .ok (.iload 5, 2) := by decide +kernel
theorem dX8_sure_94 : decode cX8_sure 94 = .ok (.iload 9, 2) := by decide +kernel
theorem dX8_sure_96 : decode cX8_sure 96 = .ok (.invokestatic 154, 3) := by decide +kernel
theorem dX8_sure_99 : decode cX8_sure 99 = .ok (.ifCond .eq 14, 3) := by decide +kernel
theorem dX8_sure_102 : decode cX8_sure 102 = .ok (.aload_n 0, 1) := by decide +kernel
theorem dX8_sure_103 : decode cX8_sure 103 = .ok (.iload 9, 2) := by decide +kernel
theorem dX8_sure_105 : decode cX8_sure 105 = .ok (.iload 7, 2) := by decide +kernel
theorem dX8_sure_107 : decode cX8_sure 107 = .ok (.invokevirtual 210, 3) := by decide +kernel
theorem dX8_sure_110 : decode cX8_sure 110 = .ok (.goto 4, 3) := by decide +kernel
theorem dX8_sure_113 : decode cX8_sure 113 = .ok (.iconst 0, 1) := by decide +kernel
theorem dX8_sure_114 : decode cX8_sure 114 = .ok (.iadd, 1) := by decide +kernel
theorem dX8_sure_115 : decode cX8_sure 115 = .ok (.istore 8, 2) := by decide +kernel
theorem dX8_sure_117 : decode cX8_sure 117 = .ok (.iinc 9 1, 3) := by decide +kernel
theorem dX8_sure_120 : decode cX8_sure 120 = .ok (.goto (-41), 3) := by decide +kernel
theorem dX8_sure_123 : decode cX8_sure 123 = .ok (.iload 8, 2) := by decide +kernel
theorem dX8_sure_125 : decode cX8_sure 125 = .ok (.iload 6, 2) := by decide +kernel
theorem dX8_sure_127 : decode cX8_sure 127 = .ok (.if_icmp .ge 8, 3) := by decide +kernel
theorem dX8_sure_130 : decode cX8_sure 130 = .ok (.iload 8, 2) := by decide +kernel
theorem dX8_sure_132 : decode cX8_sure 132 = .ok (.goto 5, 3) := by decide +kernel
theorem dX8_sure_135 : decode cX8_sure 135 = .ok (.iload 6, 2) := by decide +kernel
theorem dX8_sure_137 : decode cX8_sure 137 = .ok (.istore 6, 2) := by decide +kernel
theorem dX8_sure_139 : decode cX8_sure 139 = .ok (.iinc 7 1, 3) := by decide +kernel
theorem dX8_sure_142 : decode cX8_sure 142 = .ok (.goto (-89), 3) := by decide +kernel
theorem dX8_sure_145 : decode cX8_sure 145 = .ok (.iload 6, 2) := by decide +kernel
theorem dX8_sure_147 : decode cX8_sure 147 = .ok (.iload_n 3, 1) := by decide +kernel
theorem dX8_sure_148 : decode cX8_sure 148 = .ok (.if_icmp .gt 25, 3) := by decide +kernel
theorem dX8_sure_151 : decode cX8_sure 151 = .ok (.iload 6, 2) := by decide +kernel
theorem dX8_sure_153 : decode cX8_sure 153 = .ok (.iload_n 3, 1) := by decide +kernel
theorem dX8_sure_154 : decode cX8_sure 154 = .ok (.if_icmp .ne 23, 3) := by decide +kernel
theorem dX8_sure_157 : decode cX8_sure 157 = .ok (.iload_n 3, 1) := by decide +kernel
theorem dX8_sure_158 : decode cX8_sure 158 = .ok (.ifCond .le 19, 3) := by decide +kernel
theorem dX8_sure_161 : decode cX8_sure 161 = .ok (.iload 5, 2) := by decide +kernel
theorem dX8_sure_163 : decode cX8_sure 163 = .ok (.invokestatic 223, 3) := by decide +kernel
theorem dX8_sure_166 : decode cX8_sure 166 = .ok (.iload_n 2, 1) := by decide +kernel
theorem dX8_sure_167 : decode cX8_sure 167 = .ok (.invokestatic 223, 3) := by decide +kernel
theorem dX8_sure_170 : decode cX8_sure 170 = .ok (.if_icmp .ge 7, 3) := by decide +kernel
theorem dX8_sure_173 : decode cX8_sure 173 = .ok (.iconst 1, 1) := by decide +kernel
theorem dX8_sure_174 : decode cX8_sure 174 = .ok (.goto 4, 3) := by decide +kernel
theorem dX8_sure_177 : decode cX8_sure 177 = .ok (.iconst 0, 1) := by decide +kernel
theorem dX8_sure_178 : decode cX8_sure 178 = .ok (.istore 7, 2) := by decide +kernel
theorem dX8_sure_180 : decode cX8_sure 180 = .ok (.iload 7, 2) := by decide +kernel
theorem dX8_sure_182 : decode cX8_sure 182 = .ok (.ifCond .eq 8, 3) := by decide +kernel
theorem dX8_sure_185 : decode cX8_sure 185 = .ok (.iload 5, 2) := by decide +kernel
theorem dX8_sure_187 : decode cX8_sure 187 = .ok (.goto 4, 3) := by decide +kernel
theorem dX8_sure_190 : decode cX8_sure 190 = .ok (.iload_n 2, 1) := by decide +kernel
theorem dX8_sure_191 : decode cX8_sure 191 = .ok (.istore_n 2, 1) := by decide +kernel
theorem dX8_sure_192 : decode cX8_sure 192 = .ok (.iload 7, 2) := by decide +kernel
theorem dX8_sure_194 : decode cX8_sure 194 = .ok (.ifCond .eq 8, 3) := by decide +kernel
theorem dX8_sure_197 : decode cX8_sure 197 = .ok (.iload 6, 2) := by decide +kernel
theorem dX8_sure_199 : decode cX8_sure 199 = .ok (.goto 4, 3) := by decide +kernel
theorem dX8_sure_202 : decode cX8_sure 202 = .ok (.iload_n 3, 1) := by decide +kernel
theorem dX8_sure_203 : decode cX8_sure 203 = .ok (.istore_n 3, 1) := by decide +kernel
theorem dX8_sure_204 : decode cX8_sure 204 = .ok (.iinc 5 1, 3) := by decide +kernel
theorem dX8_sure_207 : decode cX8_sure 207 = .ok (.goto (-179), 3) := by decide +kernel
theorem dX8_sure_210 : decode cX8_sure 210 = .ok (.iload_n 2, 1) := by decide +kernel
theorem dX8_sure_211 : decode cX8_sure 211 = .ok (.ifCond .ne 7, 3) := by decide +kernel
theorem dX8_sure_214 : decode cX8_sure 214 = .ok (.iconst (-1), 1) := by decide +kernel
theorem dX8_sure_215 : decode cX8_sure 215 = .ok (.goto 12, 3) := by decide +kernel
theorem dX8_sure_218 : decode cX8_sure 218 = .ok (.iload_n 1, 1) := by decide +kernel
theorem dX8_sure_219 : decode cX8_sure 219 = .ok (.ifCond .ne 7, 3) := by decide +kernel
theorem dX8_sure_222 : decode cX8_sure 222 = .ok (.iload_n 2, 1) := by decide +kernel
theorem dX8_sure_223 : decode cX8_sure 223 = .ok (.goto 4, 3) := by decide +kernel
theorem dX8_sure_226 : decode cX8_sure 226 = .ok (.iload_n 3, 1) := by decide +kernel
theorem dX8_sure_227 : decode cX8_sure 227 = .ok (.ireturn, 1) := by decide +kernel
set_option maxRecDepth 20000 in
theorem ggX8_worthOf_X8_gain : GoodIn wsX8_worthOf wsX8_gain := goodIn_r _ [6, 7, 8, 9, 10, 5, 11, 12, 13, 14, 15, 16, 17, 18, 19, 20, 21, 22, 23, 24, 25, 26, 27, 28, 29, 30, 31, 32, 33, 34, 35] (by decide +kernel) (by decide +kernel)
set_option maxRecDepth 20000 in
theorem gX8_worthOf_X8_gain : GoodIn wsX8_worthOf (wsV RX8 210 RX8 yX8_gain wsX8_gain) := goodIn_app (goodIn_of _ (by decide +kernel)) ggX8_worthOf_X8_gain
set_option maxRecDepth 20000 in
theorem ggX8_worthOf_X8_has : GoodIn wsX8_worthOf wsX8_has := goodIn_r _ [17] (by decide +kernel) (by decide +kernel)
set_option maxRecDepth 20000 in
theorem gX8_worthOf_X8_has : GoodIn wsX8_worthOf (va_wsS RX8 154 yX8_has wsX8_has) := goodIn_app (goodIn_of _ (by decide +kernel)) ggX8_worthOf_X8_has
theorem dX8_worthOf_0 : decode cX8_worthOf 0 = .ok (.lconst 0, 1) := by decide +kernel
theorem dX8_worthOf_1 : decode cX8_worthOf 1 = .ok (.lstore_n 3, 1) := by decide +kernel
theorem dX8_worthOf_2 : decode cX8_worthOf 2 = .ok (.lconst 0, 1) := by decide +kernel
theorem dX8_worthOf_3 : decode cX8_worthOf 3 = .ok (.lstore 5, 2) := by decide +kernel
theorem dX8_worthOf_5 : decode cX8_worthOf 5 = .ok (.iconst 0, 1) := by decide +kernel
theorem dX8_worthOf_6 : decode cX8_worthOf 6 = .ok (.istore 7, 2) := by decide +kernel
theorem dX8_worthOf_8 : decode cX8_worthOf 8 = .ok (.iload 7, 2) := by decide +kernel
theorem dX8_worthOf_10 : decode cX8_worthOf 10 = .ok (.sipush 128, 3) := by decide +kernel
theorem dX8_worthOf_13 : decode cX8_worthOf 13 = .ok (.if_icmp .ge 65, 3) := by decide +kernel
theorem dX8_worthOf_16 : decode cX8_worthOf 16 = .ok (.aload_n 0, 1) := by decide +kernel
theorem dX8_worthOf_17 : decode cX8_worthOf 17 = .ok (.getfield 30, 3) := by decide +kernel
theorem dX8_worthOf_20 : decode cX8_worthOf 20 = .ok (.iload 7, 2) := by decide +kernel
theorem dX8_worthOf_22 : decode cX8_worthOf 22 = .ok (.laload, 1) := by decide +kernel
theorem dX8_worthOf_23 : decode cX8_worthOf 23 = .ok (.aload_n 0, 1) := by decide +kernel
theorem dX8_worthOf_24 : decode cX8_worthOf 24 = .ok (.iload_n 1, 1) := by decide +kernel
theorem dX8_worthOf_25 : decode cX8_worthOf 25 = .ok (.iload 7, 2) := by decide +kernel
theorem dX8_worthOf_27 : decode cX8_worthOf 27 = .ok (.invokevirtual 210, 3) := by decide +kernel
theorem dX8_worthOf_30 : decode cX8_worthOf 30 = .ok (.i2l, 1) := by decide +kernel
theorem dX8_worthOf_31 : decode cX8_worthOf 31 = .ok (.lmul, 1) := by decide +kernel
theorem dX8_worthOf_32 : decode cX8_worthOf 32 = .ok (.lstore 8, 2) := by decide +kernel
theorem dX8_worthOf_34 : decode cX8_worthOf 34 = .ok (.lload_n 3, 1) := by decide +kernel
theorem dX8_worthOf_35 : decode cX8_worthOf 35 = .ok (.iload 7, 2) := by decide +kernel
theorem dX8_worthOf_37 : decode cX8_worthOf 37 = .ok (.iload_n 2, 1) := by decide +kernel
theorem dX8_worthOf_38 : decode cX8_worthOf 38 = .ok (.invokestatic 154, 3) := by decide +kernel
theorem dX8_worthOf_41 : decode cX8_worthOf 41 = .ok (.ifCond .eq 8, 3) := by decide +kernel
theorem dX8_worthOf_44 : decode cX8_worthOf 44 = .ok (.lload 8, 2) := by decide +kernel
theorem dX8_worthOf_46 : decode cX8_worthOf 46 = .ok (.goto 4, 3) := by decide +kernel
theorem dX8_worthOf_49 : decode cX8_worthOf 49 = .ok (.lconst 0, 1) := by decide +kernel
theorem dX8_worthOf_50 : decode cX8_worthOf 50 = .ok (.ladd, 1) := by decide +kernel
theorem dX8_worthOf_51 : decode cX8_worthOf 51 = .ok (.lstore_n 3, 1) := by decide +kernel
theorem dX8_worthOf_52 : decode cX8_worthOf 52 = .ok (.lload 5, 2) := by decide +kernel
theorem dX8_worthOf_54 : decode cX8_worthOf 54 = .ok (.iload 7, 2) := by decide +kernel
theorem dX8_worthOf_56 : decode cX8_worthOf 56 = .ok (.iload_n 2, 1) := by decide +kernel
theorem dX8_worthOf_57 : decode cX8_worthOf 57 = .ok (.invokestatic 154, 3) := by decide +kernel
theorem dX8_worthOf_60 : decode cX8_worthOf 60 = .ok (.ifCond .eq 7, 3) := by decide +kernel
theorem dX8_worthOf_63 : decode cX8_worthOf 63 = .ok (.lconst 0, 1) := by decide +kernel
theorem dX8_worthOf_64 : decode cX8_worthOf 64 = .ok (.goto 5, 3) := by decide +kernel
theorem dX8_worthOf_67 : decode cX8_worthOf 67 = .ok (.lload 8, 2) := by decide +kernel
theorem dX8_worthOf_69 : decode cX8_worthOf 69 = .ok (.ladd, 1) := by decide +kernel
theorem dX8_worthOf_70 : decode cX8_worthOf 70 = .ok (.lstore 5, 2) := by decide +kernel
theorem dX8_worthOf_72 : decode cX8_worthOf 72 = .ok (.iinc 7 1, 3) := by decide +kernel
theorem dX8_worthOf_75 : decode cX8_worthOf 75 = .ok (.goto (-67), 3) := by decide +kernel
theorem dX8_worthOf_78 : decode cX8_worthOf 78 = .ok (.lload_n 3, 1) := by decide +kernel
theorem dX8_worthOf_79 : decode cX8_worthOf 79 = .ok (.lconst 0, 1) := by decide +kernel
theorem dX8_worthOf_80 : decode cX8_worthOf 80 = .ok (.lcmp, 1) := by decide +kernel
theorem dX8_worthOf_81 : decode cX8_worthOf 81 = .ok (.ifCond .le 7, 3) := by decide +kernel
theorem dX8_worthOf_84 : decode cX8_worthOf 84 = .ok (.lload_n 3, 1) := by decide +kernel
theorem dX8_worthOf_85 : decode cX8_worthOf 85 = .ok (.goto 4, 3) := by decide +kernel
theorem dX8_worthOf_88 : decode cX8_worthOf 88 = .ok (.lconst 0, 1) := by decide +kernel
theorem dX8_worthOf_89 : decode cX8_worthOf 89 = .ok (.lload 5, 2) := by decide +kernel
theorem dX8_worthOf_91 : decode cX8_worthOf 91 = .ok (.lconst 0, 1) := by decide +kernel
theorem dX8_worthOf_92 : decode cX8_worthOf 92 = .ok (.lcmp, 1) := by decide +kernel
theorem dX8_worthOf_93 : decode cX8_worthOf 93 = .ok (.ifCond .le 8, 3) := by decide +kernel
theorem dX8_worthOf_96 : decode cX8_worthOf 96 = .ok (.lload 5, 2) := by decide +kernel
theorem dX8_worthOf_98 : decode cX8_worthOf 98 = .ok (.goto 4, 3) := by decide +kernel
theorem dX8_worthOf_101 : decode cX8_worthOf 101 = .ok (.lconst 0, 1) := by decide +kernel
theorem dX8_worthOf_102 : decode cX8_worthOf 102 = .ok (.ladd, 1) := by decide +kernel
theorem dX8_worthOf_103 : decode cX8_worthOf 103 = .ok (.lstore 7, 2) := by decide +kernel
theorem dX8_worthOf_105 : decode cX8_worthOf 105 = .ok (.lload 7, 2) := by decide +kernel
theorem dX8_worthOf_107 : decode cX8_worthOf 107 = .ok (.lload_n 3, 1) := by decide +kernel
theorem dX8_worthOf_108 : decode cX8_worthOf 108 = .ok (.lload 5, 2) := by decide +kernel
theorem dX8_worthOf_110 : decode cX8_worthOf 110 = .ok (.ladd, 1) := by decide +kernel
theorem dX8_worthOf_111 : decode cX8_worthOf 111 = .ok (.lconst 0, 1) := by decide +kernel
theorem dX8_worthOf_112 : decode cX8_worthOf 112 = .ok (.lcmp, 1) := by decide +kernel
theorem dX8_worthOf_113 : decode cX8_worthOf 113 = .ok (.ifCond .le 10, 3) := by decide +kernel
theorem dX8_worthOf_116 : decode cX8_worthOf 116 = .ok (.lload_n 3, 1) := by decide +kernel
theorem dX8_worthOf_117 : decode cX8_worthOf 117 = .ok (.lload 5, 2) := by decide +kernel
theorem dX8_worthOf_119 : decode cX8_worthOf 119 = .ok (.ladd, 1) := by decide +kernel
theorem dX8_worthOf_120 : decode cX8_worthOf 120 = .ok (.goto 4, 3) := by decide +kernel
theorem dX8_worthOf_123 : decode cX8_worthOf 123 = .ok (.lconst 0, 1) := by decide +kernel
theorem dX8_worthOf_124 : decode cX8_worthOf 124 = .ok (.lsub, 1) := by decide +kernel
theorem dX8_worthOf_125 : decode cX8_worthOf 125 = .ok (.lreturn, 1) := by decide +kernel
set_option maxRecDepth 20000 in
theorem ggX8_worth_X8_isBet : GoodIn wsX8_worth wsX8_isBet := goodIn_r _ [6, 7, 8, 9, 5, 10, 65, 66, 67, 68, 69, 70, 71, 72, 73, 74, 75, 76, 77, 78, 79, 80, 81, 82] (by decide +kernel) (by decide +kernel)
set_option maxRecDepth 20000 in
theorem gX8_worth_X8_isBet : GoodIn wsX8_worth (wsV RX8 149 RX8 yX8_isBet wsX8_isBet) := goodIn_app (goodIn_of _ (by decide +kernel)) ggX8_worth_X8_isBet
set_option maxRecDepth 20000 in
theorem ggX8_worth_X8_isFact : GoodIn wsX8_worth wsX8_isFact := goodIn_r _ [13, 14, 8, 9, 5, 10] (by decide +kernel) (by decide +kernel)
set_option maxRecDepth 20000 in
theorem gX8_worth_X8_isFact : GoodIn wsX8_worth (va_wsS RX8 46 yX8_isFact wsX8_isFact) := goodIn_app (goodIn_of _ (by decide +kernel)) ggX8_worth_X8_isFact
set_option maxRecDepth 20000 in
theorem ggX8_worth_X8_bad : GoodIn wsX8_worth wsX8_bad := goodIn_r _ [18, 19, 65, 66, 67, 68, 69, 70, 71, 72, 73, 74, 75, 76, 77, 78, 79, 80, 81, 82] (by decide +kernel) (by decide +kernel)
set_option maxRecDepth 20000 in
theorem gX8_worth_X8_bad : GoodIn wsX8_worth (wsV RX8 54 RX8 yX8_bad wsX8_bad) := goodIn_app (goodIn_of _ (by decide +kernel)) ggX8_worth_X8_bad
set_option maxRecDepth 20000 in
theorem ggX8_worth_X8_fits : GoodIn wsX8_worth wsX8_fits := goodIn_r _ [23, 1, 24, 25, 26, 5, 27, 28, 29, 30, 31, 32, 7, 33, 34, 35, 36, 37, 38, 39, 65, 66, 67, 68, 69, 70, 71, 72, 73, 74, 75, 76, 77, 78, 79, 80, 81, 82] (by decide +kernel) (by decide +kernel)
set_option maxRecDepth 20000 in
theorem gX8_worth_X8_fits : GoodIn wsX8_worth (wsV RX8 177 RX8 yX8_fits wsX8_fits) := goodIn_app (goodIn_of _ (by decide +kernel)) ggX8_worth_X8_fits
set_option maxRecDepth 20000 in
theorem ggX8_worth_X8_worthOf : GoodIn wsX8_worth wsX8_worthOf := goodIn_r _ [43, 28, 44, 45, 46, 5, 47, 7, 48, 49, 50, 51, 52, 53, 54, 37, 38, 39, 65, 66, 67, 68, 69, 70, 71, 72, 73, 74, 75, 76, 77, 78, 79, 80, 81, 82] (by decide +kernel) (by decide +kernel)
set_option maxRecDepth 20000 in
theorem gX8_worth_X8_worthOf : GoodIn wsX8_worth (wsV RX8 226 RX8 yX8_worthOf wsX8_worthOf) := goodIn_app (goodIn_of _ (by decide +kernel)) ggX8_worth_X8_worthOf
set_option maxRecDepth 20000 in
theorem ggX8_worth_X8_tells : GoodIn wsX8_worth wsX8_tells := goodIn_r _ [58, 59, 60, 65, 66, 67, 68, 69, 70, 71, 72, 73, 74, 75, 76, 77, 78, 79, 80, 81, 82] (by decide +kernel) (by decide +kernel)
set_option maxRecDepth 20000 in
theorem gX8_worth_X8_tells : GoodIn wsX8_worth (wsV RX8 203 RX8 yX8_tells wsX8_tells) := goodIn_app (goodIn_of _ (by decide +kernel)) ggX8_worth_X8_tells
set_option maxRecDepth 20000 in
theorem ggX8_worth_X8_no : GoodIn wsX8_worth wsX8_no := goodIn_r _ [64, 19, 65, 66, 67, 68, 69, 70, 71, 72, 73, 74, 75, 76, 77, 78, 79, 80, 81, 82] (by decide +kernel) (by decide +kernel)
set_option maxRecDepth 20000 in
theorem gX8_worth_X8_no : GoodIn wsX8_worth (wsV RX8 74 RX8 yX8_no wsX8_no) := goodIn_app (goodIn_of _ (by decide +kernel)) ggX8_worth_X8_no
theorem dX8_worth_0 : decode cX8_worth 0 = .ok (.aload_n 0, 1) := by decide +kernel
theorem dX8_worth_1 : decode cX8_worth 1 = .ok (.iload_n 1, 1) := by decide +kernel
theorem dX8_worth_2 : decode cX8_worth 2 = .ok (.invokevirtual 149, 3) := by decide +kernel
theorem dX8_worth_5 : decode cX8_worth 5 = .ok (.ifCond .eq 10, 3) := by decide +kernel
theorem dX8_worth_8 : decode cX8_worth 8 = .ok (.iload_n 2, 1) := by decide +kernel
theorem dX8_worth_9 : decode cX8_worth 9 = .ok (.invokestatic 46, 3) := by decide +kernel
theorem dX8_worth_12 : decode cX8_worth 12 = .ok (.ifCond .ne 8, 3) := by decide +kernel
theorem dX8_worth_15 : decode cX8_worth 15 = .ok (.aload_n 0, 1) := by decide +kernel
theorem dX8_worth_16 : decode cX8_worth 16 = .ok (.invokevirtual 54, 3) := by decide +kernel
theorem dX8_worth_19 : decode cX8_worth 19 = .ok (.ireturn, 1) := by decide +kernel
theorem dX8_worth_20 : decode cX8_worth 20 = .ok (.aload_n 0, 1) := by decide +kernel
theorem dX8_worth_21 : decode cX8_worth 21 = .ok (.invokevirtual 177, 3) := by decide +kernel
theorem dX8_worth_24 : decode cX8_worth 24 = .ok (.ifCond .eq 20, 3) := by decide +kernel
theorem dX8_worth_27 : decode cX8_worth 27 = .ok (.aload_n 0, 1) := by decide +kernel
theorem dX8_worth_28 : decode cX8_worth 28 = .ok (.aload_n 0, 1) := by decide +kernel
theorem dX8_worth_29 : decode cX8_worth 29 = .ok (.iload_n 1, 1) := by decide +kernel
theorem dX8_worth_30 : decode cX8_worth 30 = .ok (.iload_n 2, 1) := by decide +kernel
theorem dX8_worth_31 : decode cX8_worth 31 = .ok (.invokevirtual 226, 3) := by decide +kernel
theorem dX8_worth_34 : decode cX8_worth 34 = .ok (.aload_n 0, 1) := by decide +kernel
theorem dX8_worth_35 : decode cX8_worth 35 = .ok (.getfield 161, 3) := by decide +kernel
theorem dX8_worth_38 : decode cX8_worth 38 = .ok (.invokevirtual 203, 3) := by decide +kernel
theorem dX8_worth_41 : decode cX8_worth 41 = .ok (.goto 7, 3) := by decide +kernel
theorem dX8_worth_44 : decode cX8_worth 44 = .ok (.aload_n 0, 1) := by decide +kernel
theorem dX8_worth_45 : decode cX8_worth 45 = .ok (.invokevirtual 74, 3) := by decide +kernel
theorem dX8_worth_48 : decode cX8_worth 48 = .ok (.ireturn, 1) := by decide +kernel
set_option maxRecDepth 20000 in
theorem ggX8_dig_X8_isBet : GoodIn wsX8_dig wsX8_isBet := goodIn_r _ [5, 6, 7, 8, 4, 9, 55, 56, 57, 58, 59, 60, 61, 62, 63, 64, 65, 66, 67, 68, 69, 70, 71, 72] (by decide +kernel) (by decide +kernel)
set_option maxRecDepth 20000 in
theorem gX8_dig_X8_isBet : GoodIn wsX8_dig (wsV RX8 149 RX8 yX8_isBet wsX8_isBet) := goodIn_app (goodIn_of _ (by decide +kernel)) ggX8_dig_X8_isBet
set_option maxRecDepth 20000 in
theorem ggX8_dig_X8_bad : GoodIn wsX8_dig wsX8_bad := goodIn_r _ [13, 14, 55, 56, 57, 58, 59, 60, 61, 62, 63, 64, 65, 66, 67, 68, 69, 70, 71, 72] (by decide +kernel) (by decide +kernel)
set_option maxRecDepth 20000 in
theorem gX8_dig_X8_bad : GoodIn wsX8_dig (wsV RX8 54 RX8 yX8_bad wsX8_bad) := goodIn_app (goodIn_of _ (by decide +kernel)) ggX8_dig_X8_bad
set_option maxRecDepth 20000 in
theorem ggX8_dig_X8_fits : GoodIn wsX8_dig wsX8_fits := goodIn_r _ [18, 19, 20, 21, 22, 4, 23, 24, 25, 26, 27, 28, 6, 29, 30, 31, 32, 33, 34, 35, 55, 56, 57, 58, 59, 60, 61, 62, 63, 64, 65, 66, 67, 68, 69, 70, 71, 72] (by decide +kernel) (by decide +kernel)
set_option maxRecDepth 20000 in
theorem gX8_dig_X8_fits : GoodIn wsX8_dig (wsV RX8 177 RX8 yX8_fits wsX8_fits) := goodIn_app (goodIn_of _ (by decide +kernel)) ggX8_dig_X8_fits
set_option maxRecDepth 20000 in
theorem ggX8_dig_X8_no : GoodIn wsX8_dig wsX8_no := goodIn_r _ [39, 14, 55, 56, 57, 58, 59, 60, 61, 62, 63, 64, 65, 66, 67, 68, 69, 70, 71, 72] (by decide +kernel) (by decide +kernel)
set_option maxRecDepth 20000 in
theorem gX8_dig_X8_no : GoodIn wsX8_dig (wsV RX8 74 RX8 yX8_no wsX8_no) := goodIn_app (goodIn_of _ (by decide +kernel)) ggX8_dig_X8_no
set_option maxRecDepth 20000 in
theorem ggX8_dig_X8_worthOf : GoodIn wsX8_dig wsX8_worthOf := goodIn_r _ [43, 24, 44, 45, 46, 4, 47, 6, 48, 49, 50, 51, 52, 53, 54, 33, 34, 35, 55, 56, 57, 58, 59, 60, 61, 62, 63, 64, 65, 66, 67, 68, 69, 70, 71, 72] (by decide +kernel) (by decide +kernel)
set_option maxRecDepth 20000 in
theorem gX8_dig_X8_worthOf : GoodIn wsX8_dig (wsV RX8 226 RX8 yX8_worthOf wsX8_worthOf) := goodIn_app (goodIn_of _ (by decide +kernel)) ggX8_dig_X8_worthOf
theorem dX8_dig_0 : decode cX8_dig 0 = .ok (.aload_n 0, 1) := by decide +kernel
theorem dX8_dig_1 : decode cX8_dig 1 = .ok (.iload_n 1, 1) := by decide +kernel
theorem dX8_dig_2 : decode cX8_dig 2 = .ok (.invokevirtual 149, 3) := by decide +kernel
theorem dX8_dig_5 : decode cX8_dig 5 = .ok (.ifCond .ne 8, 3) := by decide +kernel
theorem dX8_dig_8 : decode cX8_dig 8 = .ok (.aload_n 0, 1) := by decide +kernel
theorem dX8_dig_9 : decode cX8_dig 9 = .ok (.invokevirtual 54, 3) := by decide +kernel
theorem dX8_dig_12 : decode cX8_dig 12 = .ok (.ireturn, 1) := by decide +kernel
theorem dX8_dig_13 : decode cX8_dig 13 = .ok (.aload_n 0, 1) := by decide +kernel
theorem dX8_dig_14 : decode cX8_dig 14 = .ok (.invokevirtual 177, 3) := by decide +kernel
theorem dX8_dig_17 : decode cX8_dig 17 = .ok (.ifCond .ne 8, 3) := by decide +kernel
theorem dX8_dig_20 : decode cX8_dig 20 = .ok (.aload_n 0, 1) := by decide +kernel
theorem dX8_dig_21 : decode cX8_dig 21 = .ok (.invokevirtual 74, 3) := by decide +kernel
theorem dX8_dig_24 : decode cX8_dig 24 = .ok (.ireturn, 1) := by decide +kernel
theorem dX8_dig_25 : decode cX8_dig 25 = .ok (.iconst 0, 1) := by decide +kernel
theorem dX8_dig_26 : decode cX8_dig 26 = .ok (.istore_n 2, 1) := by decide +kernel
theorem dX8_dig_27 : decode cX8_dig 27 = .ok (.iconst 1, 1) := by decide +kernel
theorem dX8_dig_28 : decode cX8_dig 28 = .ok (.istore_n 3, 1) := by decide +kernel
theorem dX8_dig_29 : decode cX8_dig 29 = .ok (.iload_n 3, 1) := by decide +kernel
theorem dX8_dig_30 : decode cX8_dig 30 = .ok (.bipush 7, 2) := by decide +kernel
theorem dX8_dig_32 : decode cX8_dig 32 = .ok (.if_icmp .ge 31, 3) := by decide +kernel
theorem dX8_dig_35 : decode cX8_dig 35 = .ok (.aload_n 0, 1) := by decide +kernel
theorem dX8_dig_36 : decode cX8_dig 36 = .ok (.iload_n 1, 1) := by decide +kernel
theorem dX8_dig_37 : decode cX8_dig 37 = .ok (.iload_n 3, 1) := by decide +kernel
theorem dX8_dig_38 : decode cX8_dig 38 = .ok (.invokevirtual 226, 3) := by decide +kernel
theorem dX8_dig_41 : decode cX8_dig 41 = .ok (.aload_n 0, 1) := by decide +kernel
theorem dX8_dig_42 : decode cX8_dig 42 = .ok (.iload_n 1, 1) := by decide +kernel
theorem dX8_dig_43 : decode cX8_dig 43 = .ok (.iload_n 2, 1) := by decide +kernel
theorem dX8_dig_44 : decode cX8_dig 44 = .ok (.invokevirtual 226, 3) := by decide +kernel
theorem dX8_dig_47 : decode cX8_dig 47 = .ok (.lcmp, 1) := by decide +kernel
theorem dX8_dig_48 : decode cX8_dig 48 = .ok (.ifCond .le 7, 3) := by decide +kernel
theorem dX8_dig_51 : decode cX8_dig 51 = .ok (.iload_n 3, 1) := by decide +kernel
theorem dX8_dig_52 : decode cX8_dig 52 = .ok (.goto 4, 3) := by decide +kernel
theorem dX8_dig_55 : decode cX8_dig 55 = .ok (.iload_n 2, 1) := by decide +kernel
theorem dX8_dig_56 : decode cX8_dig 56 = .ok (.istore_n 2, 1) := by decide +kernel
theorem dX8_dig_57 : decode cX8_dig 57 = .ok (.iinc 3 1, 3) := by decide +kernel
theorem dX8_dig_60 : decode cX8_dig 60 = .ok (.goto (-31), 3) := by decide +kernel
theorem dX8_dig_63 : decode cX8_dig 63 = .ok (.iload_n 2, 1) := by decide +kernel
theorem dX8_dig_64 : decode cX8_dig 64 = .ok (.ireturn, 1) := by decide +kernel
set_option maxRecDepth 20000 in
theorem ggX8_doped_X8_ones : GoodIn wsX8_doped wsX8_ones := goodIn_r _ [6] (by decide +kernel) (by decide +kernel)
set_option maxRecDepth 20000 in
theorem gX8_doped_X8_ones : GoodIn wsX8_doped (va_wsS RX8 223 yX8_ones wsX8_ones) := goodIn_app (goodIn_of _ (by decide +kernel)) ggX8_doped_X8_ones
set_option maxRecDepth 20000 in
theorem ggX8_doped_X8_weighAll : GoodIn wsX8_doped wsX8_weighAll := goodIn_r _ [10, 2, 11, 12, 13, 14, 5, 15, 1, 16, 17, 18, 19, 20, 21, 22, 23, 24, 25, 26, 27, 28, 29, 30, 31, 32, 33, 34, 35, 36, 37, 38, 39, 40] (by decide +kernel) (by decide +kernel)
set_option maxRecDepth 20000 in
theorem gX8_doped_X8_weighAll : GoodIn wsX8_doped (wsV RX8 168 RX8 yX8_weighAll wsX8_weighAll) := goodIn_app (goodIn_of _ (by decide +kernel)) ggX8_doped_X8_weighAll
theorem dX8_doped_0 : decode cX8_doped 0 = .ok (.iconst (-1), 1) := by decide +kernel
theorem dX8_doped_1 : decode cX8_doped 1 = .ok (.istore_n 1, 1) := by decide +kernel
theorem dX8_doped_2 : decode cX8_doped 2 = .ok (.iconst 0, 1) := by decide +kernel
theorem dX8_doped_3 : decode cX8_doped 3 = .ok (.istore_n 2, 1) := by decide +kernel
theorem dX8_doped_4 : decode cX8_doped 4 = .ok (.iload_n 2, 1) := by decide +kernel
theorem dX8_doped_5 : decode cX8_doped 5 = .ok (.iconst 1, 1) := by decide +kernel
theorem dX8_doped_6 : decode cX8_doped 6 = .ok (.aload_n 0, 1) := by decide +kernel
theorem dX8_doped_7 : decode cX8_doped 7 = .ok (.getfield 7, 3) := by decide +kernel
theorem dX8_doped_10 : decode cX8_doped 10 = .ok (.iconst 1, 1) := by decide +kernel
theorem dX8_doped_11 : decode cX8_doped 11 = .ok (.iaload, 1) := by decide +kernel
theorem dX8_doped_12 : decode cX8_doped 12 = .ok (.ishl, 1) := by decide +kernel
theorem dX8_doped_13 : decode cX8_doped 13 = .ok (.if_icmp .ge 55, 3) := by decide +kernel
theorem dX8_doped_16 : decode cX8_doped 16 = .ok (.iload_n 1, 1) := by decide +kernel
theorem dX8_doped_17 : decode cX8_doped 17 = .ok (.iconst (-1), 1) := by decide +kernel
theorem dX8_doped_18 : decode cX8_doped 18 = .ok (.if_icmp .eq 14, 3) := by decide +kernel
theorem dX8_doped_21 : decode cX8_doped 21 = .ok (.iload_n 2, 1) := by decide +kernel
theorem dX8_doped_22 : decode cX8_doped 22 = .ok (.invokestatic 223, 3) := by decide +kernel
theorem dX8_doped_25 : decode cX8_doped 25 = .ok (.iload_n 1, 1) := by decide +kernel
theorem dX8_doped_26 : decode cX8_doped 26 = .ok (.invokestatic 223, 3) := by decide +kernel
theorem dX8_doped_29 : decode cX8_doped 29 = .ok (.if_icmp .ge 7, 3) := by decide +kernel
theorem dX8_doped_32 : decode cX8_doped 32 = .ok (.iconst 1, 1) := by decide +kernel
theorem dX8_doped_33 : decode cX8_doped 33 = .ok (.goto 4, 3) := by decide +kernel
theorem dX8_doped_36 : decode cX8_doped 36 = .ok (.iconst 0, 1) := by decide +kernel
theorem dX8_doped_37 : decode cX8_doped 37 = .ok (.istore_n 3, 1) := by decide +kernel
theorem dX8_doped_38 : decode cX8_doped 38 = .ok (.iload_n 3, 1) := by decide +kernel
theorem dX8_doped_39 : decode cX8_doped 39 = .ok (.ifCond .eq 23, 3) := by decide +kernel
theorem dX8_doped_42 : decode cX8_doped 42 = .ok (.aload_n 0, 1) := by decide +kernel
theorem dX8_doped_43 : decode cX8_doped 43 = .ok (.iload_n 2, 1) := by decide +kernel
theorem dX8_doped_44 : decode cX8_doped 44 = .ok (.invokevirtual 168, 3) := by decide +kernel
theorem dX8_doped_47 : decode cX8_doped 47 = .ok (.aload_n 0, 1) := by decide +kernel
theorem dX8_doped_48 : decode cX8_doped 48 = .ok (.getfield 161, 3) := by decide +kernel
theorem dX8_doped_51 : decode cX8_doped 51 = .ok (.lconst 0, 1) := by decide +kernel
theorem dX8_doped_52 : decode cX8_doped 52 = .ok (.lcmp, 1) := by decide +kernel
theorem dX8_doped_53 : decode cX8_doped 53 = .ok (.ifCond .le 7, 3) := by decide +kernel
theorem dX8_doped_56 : decode cX8_doped 56 = .ok (.iload_n 2, 1) := by decide +kernel
theorem dX8_doped_57 : decode cX8_doped 57 = .ok (.goto 4, 3) := by decide +kernel
theorem dX8_doped_60 : decode cX8_doped 60 = .ok (.iload_n 1, 1) := by decide +kernel
theorem dX8_doped_61 : decode cX8_doped 61 = .ok (.istore_n 1, 1) := by decide +kernel
theorem dX8_doped_62 : decode cX8_doped 62 = .ok (.iinc 2 1, 3) := by decide +kernel
theorem dX8_doped_65 : decode cX8_doped 65 = .ok (.goto (-61), 3) := by decide +kernel
theorem dX8_doped_68 : decode cX8_doped 68 = .ok (.iload_n 1, 1) := by decide +kernel
theorem dX8_doped_69 : decode cX8_doped 69 = .ok (.ireturn, 1) := by decide +kernel
set_option maxRecDepth 20000 in
theorem ggX8_price_X8_isClaim : GoodIn wsX8_price wsX8_isClaim := goodIn_r _ [6, 7, 8, 9, 5, 10, 11, 12, 13, 14] (by decide +kernel) (by decide +kernel)
set_option maxRecDepth 20000 in
theorem gX8_price_X8_isClaim : GoodIn wsX8_price (va_wsS RX8 77 yX8_isClaim wsX8_isClaim) := goodIn_app (goodIn_of _ (by decide +kernel)) ggX8_price_X8_isClaim
set_option maxRecDepth 20000 in
theorem ggX8_price_X8_in : GoodIn wsX8_price wsX8_in := goodIn_r _ [10] (by decide +kernel) (by decide +kernel)
set_option maxRecDepth 20000 in
theorem gX8_price_X8_in : GoodIn wsX8_price (va_wsS RX8 40 yX8_in wsX8_in) := goodIn_app (goodIn_of _ (by decide +kernel)) ggX8_price_X8_in
set_option maxRecDepth 20000 in
theorem ggX8_price_X8_bad : GoodIn wsX8_price wsX8_bad := goodIn_r _ [18, 19, 28, 29, 30, 31, 32, 33, 34, 35, 36, 37, 38, 39, 40, 41, 42, 43, 44, 45] (by decide +kernel) (by decide +kernel)
set_option maxRecDepth 20000 in
theorem gX8_price_X8_bad : GoodIn wsX8_price (wsV RX8 54 RX8 yX8_bad wsX8_bad) := goodIn_app (goodIn_of _ (by decide +kernel)) ggX8_price_X8_bad
set_option maxRecDepth 20000 in
theorem ggX8_price_X8_full : GoodIn wsX8_price wsX8_full := goodIn_r _ [23, 19, 28, 29, 30, 31, 32, 33, 34, 35, 36, 37, 38, 39, 40, 41, 42, 43, 44, 45] (by decide +kernel) (by decide +kernel)
set_option maxRecDepth 20000 in
theorem gX8_price_X8_full : GoodIn wsX8_price (wsV RX8 58 RX8 yX8_full wsX8_full) := goodIn_app (goodIn_of _ (by decide +kernel)) ggX8_price_X8_full
set_option maxRecDepth 20000 in
theorem ggX8_price_X8_adds5 : GoodIn wsX8_price wsX8_adds5 := goodIn_r _ [27, 2, 28, 29, 30, 31, 32, 33, 34, 35, 36, 37, 38, 39, 40, 41, 42, 43, 44, 45] (by decide +kernel) (by decide +kernel)
set_option maxRecDepth 20000 in
theorem gX8_price_X8_adds5 : GoodIn wsX8_price (wsV RX8 86 RX8 yX8_adds5 wsX8_adds5) := goodIn_app (goodIn_of _ (by decide +kernel)) ggX8_price_X8_adds5
theorem dX8_price_0 : decode cX8_price 0 = .ok (.iload_n 1, 1) := by decide +kernel
theorem dX8_price_1 : decode cX8_price 1 = .ok (.iload_n 2, 1) := by decide +kernel
theorem dX8_price_2 : decode cX8_price 2 = .ok (.iload_n 3, 1) := by decide +kernel
theorem dX8_price_3 : decode cX8_price 3 = .ok (.invokestatic 77, 3) := by decide +kernel
theorem dX8_price_6 : decode cX8_price 6 = .ok (.ifCond .eq 27, 3) := by decide +kernel
theorem dX8_price_9 : decode cX8_price 9 = .ok (.iload 4, 2) := by decide +kernel
theorem dX8_price_11 : decode cX8_price 11 = .ok (.i2l, 1) := by decide +kernel
theorem dX8_price_12 : decode cX8_price 12 = .ok (.lconst 0, 1) := by decide +kernel
theorem dX8_price_13 : decode cX8_price 13 = .ok (.ldc2_w 80, 3) := by decide +kernel
theorem dX8_price_16 : decode cX8_price 16 = .ok (.invokestatic 40, 3) := by decide +kernel
theorem dX8_price_19 : decode cX8_price 19 = .ok (.ifCond .eq 14, 3) := by decide +kernel
theorem dX8_price_22 : decode cX8_price 22 = .ok (.iload 5, 2) := by decide +kernel
theorem dX8_price_24 : decode cX8_price 24 = .ok (.i2l, 1) := by decide +kernel
theorem dX8_price_25 : decode cX8_price 25 = .ok (.lconst 0, 1) := by decide +kernel
theorem dX8_price_26 : decode cX8_price 26 = .ok (.lconst 1, 1) := by decide +kernel
theorem dX8_price_27 : decode cX8_price 27 = .ok (.invokestatic 40, 3) := by decide +kernel
theorem dX8_price_30 : decode cX8_price 30 = .ok (.ifCond .ne 8, 3) := by decide +kernel
theorem dX8_price_33 : decode cX8_price 33 = .ok (.aload_n 0, 1) := by decide +kernel
theorem dX8_price_34 : decode cX8_price 34 = .ok (.invokevirtual 54, 3) := by decide +kernel
theorem dX8_price_37 : decode cX8_price 37 = .ok (.ireturn, 1) := by decide +kernel
theorem dX8_price_38 : decode cX8_price 38 = .ok (.aload_n 0, 1) := by decide +kernel
theorem dX8_price_39 : decode cX8_price 39 = .ok (.getfield 7, 3) := by decide +kernel
theorem dX8_price_42 : decode cX8_price 42 = .ok (.iconst 3, 1) := by decide +kernel
theorem dX8_price_43 : decode cX8_price 43 = .ok (.iaload, 1) := by decide +kernel
theorem dX8_price_44 : decode cX8_price 44 = .ok (.bipush 6, 2) := by decide +kernel
theorem dX8_price_46 : decode cX8_price 46 = .ok (.if_icmp .ne 8, 3) := by decide +kernel
theorem dX8_price_49 : decode cX8_price 49 = .ok (.aload_n 0, 1) := by decide +kernel
theorem dX8_price_50 : decode cX8_price 50 = .ok (.invokevirtual 58, 3) := by decide +kernel
theorem dX8_price_53 : decode cX8_price 53 = .ok (.ireturn, 1) := by decide +kernel
theorem dX8_price_54 : decode cX8_price 54 = .ok (.aload_n 0, 1) := by decide +kernel
theorem dX8_price_55 : decode cX8_price 55 = .ok (.iconst 0, 1) := by decide +kernel
theorem dX8_price_56 : decode cX8_price 56 = .ok (.iconst 3, 1) := by decide +kernel
theorem dX8_price_57 : decode cX8_price 57 = .ok (.bipush 99, 2) := by decide +kernel
theorem dX8_price_59 : decode cX8_price 59 = .ok (.iload_n 1, 1) := by decide +kernel
theorem dX8_price_60 : decode cX8_price 60 = .ok (.iload_n 2, 1) := by decide +kernel
theorem dX8_price_61 : decode cX8_price 61 = .ok (.iload_n 3, 1) := by decide +kernel
theorem dX8_price_62 : decode cX8_price 62 = .ok (.iload 4, 2) := by decide +kernel
theorem dX8_price_64 : decode cX8_price 64 = .ok (.iload 5, 2) := by decide +kernel
theorem dX8_price_66 : decode cX8_price 66 = .ok (.invokevirtual 86, 3) := by decide +kernel
theorem dX8_price_69 : decode cX8_price 69 = .ok (.iconst 1, 1) := by decide +kernel
theorem dX8_price_70 : decode cX8_price 70 = .ok (.iadd, 1) := by decide +kernel
theorem dX8_price_71 : decode cX8_price 71 = .ok (.ireturn, 1) := by decide +kernel
theorem dX8_forget_0 : decode cX8_forget 0 = .ok (.aload_n 0, 1) := by decide +kernel
theorem dX8_forget_1 : decode cX8_forget 1 = .ok (.getfield 7, 3) := by decide +kernel
theorem dX8_forget_4 : decode cX8_forget 4 = .ok (.iconst 3, 1) := by decide +kernel
theorem dX8_forget_5 : decode cX8_forget 5 = .ok (.iaload, 1) := by decide +kernel
theorem dX8_forget_6 : decode cX8_forget 6 = .ok (.istore_n 1, 1) := by decide +kernel
theorem dX8_forget_7 : decode cX8_forget 7 = .ok (.aload_n 0, 1) := by decide +kernel
theorem dX8_forget_8 : decode cX8_forget 8 = .ok (.getfield 7, 3) := by decide +kernel
theorem dX8_forget_11 : decode cX8_forget 11 = .ok (.iconst 3, 1) := by decide +kernel
theorem dX8_forget_12 : decode cX8_forget 12 = .ok (.iconst 0, 1) := by decide +kernel
theorem dX8_forget_13 : decode cX8_forget 13 = .ok (.iastore, 1) := by decide +kernel
theorem dX8_forget_14 : decode cX8_forget 14 = .ok (.iload_n 1, 1) := by decide +kernel
theorem dX8_forget_15 : decode cX8_forget 15 = .ok (.ireturn, 1) := by decide +kernel
set_option maxRecDepth 20000 in
theorem ggX8_isTold_X8_isLeft : GoodIn wsX8_isTold wsX8_isLeft := goodIn_r _ [7, 1, 8, 9, 16, 17, 18, 19, 20, 21, 22, 23, 24, 25, 26, 27, 28, 29, 30, 31, 32, 33] (by decide +kernel) (by decide +kernel)
set_option maxRecDepth 20000 in
theorem gX8_isTold_X8_isLeft : GoodIn wsX8_isTold (wsV RX8 189 RX8 yX8_isLeft wsX8_isLeft) := goodIn_app (goodIn_of _ (by decide +kernel)) ggX8_isTold_X8_isLeft
set_option maxRecDepth 20000 in
theorem ggX8_isTold_X8_isSo : GoodIn wsX8_isTold wsX8_isSo := goodIn_r _ [12, 13, 14, 6, 15] (by decide +kernel) (by decide +kernel)
set_option maxRecDepth 20000 in
theorem gX8_isTold_X8_isSo : GoodIn wsX8_isTold (va_wsS RX8 180 yX8_isSo wsX8_isSo) := goodIn_app (goodIn_of _ (by decide +kernel)) ggX8_isTold_X8_isSo
theorem dX8_isTold_0 : decode cX8_isTold 0 = .ok (.lconst 0, 1) := by decide +kernel
theorem dX8_isTold_1 : decode cX8_isTold 1 = .ok (.lstore_n 1, 1) := by decide +kernel
theorem dX8_isTold_2 : decode cX8_isTold 2 = .ok (.iconst 0, 1) := by decide +kernel
theorem dX8_isTold_3 : decode cX8_isTold 3 = .ok (.istore_n 3, 1) := by decide +kernel
theorem dX8_isTold_4 : decode cX8_isTold 4 = .ok (.iload_n 3, 1) := by decide +kernel
theorem dX8_isTold_5 : decode cX8_isTold 5 = .ok (.sipush 128, 3) := by decide +kernel
theorem dX8_isTold_8 : decode cX8_isTold 8 = .ok (.if_icmp .ge 30, 3) := by decide +kernel
theorem dX8_isTold_11 : decode cX8_isTold 11 = .ok (.lload_n 1, 1) := by decide +kernel
theorem dX8_isTold_12 : decode cX8_isTold 12 = .ok (.aload_n 0, 1) := by decide +kernel
theorem dX8_isTold_13 : decode cX8_isTold 13 = .ok (.iload_n 3, 1) := by decide +kernel
theorem dX8_isTold_14 : decode cX8_isTold 14 = .ok (.invokevirtual 189, 3) := by decide +kernel
theorem dX8_isTold_17 : decode cX8_isTold 17 = .ok (.ifCond .eq 12, 3) := by decide +kernel
theorem dX8_isTold_20 : decode cX8_isTold 20 = .ok (.aload_n 0, 1) := by decide +kernel
theorem dX8_isTold_21 : decode cX8_isTold 21 = .ok (.getfield 30, 3) := by decide +kernel
theorem dX8_isTold_24 : decode cX8_isTold 24 = .ok (.iload_n 3, 1) := by decide +kernel
theorem dX8_isTold_25 : decode cX8_isTold 25 = .ok (.laload, 1) := by decide +kernel
theorem dX8_isTold_26 : decode cX8_isTold 26 = .ok (.goto 4, 3) := by decide +kernel
theorem dX8_isTold_29 : decode cX8_isTold 29 = .ok (.lconst 0, 1) := by decide +kernel
theorem dX8_isTold_30 : decode cX8_isTold 30 = .ok (.ladd, 1) := by decide +kernel
theorem dX8_isTold_31 : decode cX8_isTold 31 = .ok (.lstore_n 1, 1) := by decide +kernel
theorem dX8_isTold_32 : decode cX8_isTold 32 = .ok (.iinc 3 1, 3) := by decide +kernel
theorem dX8_isTold_35 : decode cX8_isTold 35 = .ok (.goto (-31), 3) := by decide +kernel
theorem dX8_isTold_38 : decode cX8_isTold 38 = .ok (.lload_n 1, 1) := by decide +kernel
theorem dX8_isTold_39 : decode cX8_isTold 39 = .ok (.lconst 0, 1) := by decide +kernel
theorem dX8_isTold_40 : decode cX8_isTold 40 = .ok (.lcmp, 1) := by decide +kernel
theorem dX8_isTold_41 : decode cX8_isTold 41 = .ok (.ifCond .le 7, 3) := by decide +kernel
theorem dX8_isTold_44 : decode cX8_isTold 44 = .ok (.iconst 1, 1) := by decide +kernel
theorem dX8_isTold_45 : decode cX8_isTold 45 = .ok (.goto 4, 3) := by decide +kernel
theorem dX8_isTold_48 : decode cX8_isTold 48 = .ok (.iconst 0, 1) := by decide +kernel
theorem dX8_isTold_49 : decode cX8_isTold 49 = .ok (.istore_n 3, 1) := by decide +kernel
theorem dX8_isTold_50 : decode cX8_isTold 50 = .ok (.iconst 0, 1) := by decide +kernel
theorem dX8_isTold_51 : decode cX8_isTold 51 = .ok (.istore 4, 2) := by decide +kernel
theorem dX8_isTold_53 : decode cX8_isTold 53 = .ok (.iload 4, 2) := by decide +kernel
theorem dX8_isTold_55 : decode cX8_isTold 55 = .ok (.aload_n 0, 1) := by decide +kernel
theorem dX8_isTold_56 : decode cX8_isTold 56 = .ok (.getfield 7, 3) := by decide +kernel
theorem dX8_isTold_59 : decode cX8_isTold 59 = .ok (.iconst 3, 1) := by decide +kernel
theorem dX8_isTold_60 : decode cX8_isTold 60 = .ok (.iaload, 1) := by decide +kernel
theorem dX8_isTold_61 : decode cX8_isTold 61 = .ok (.if_icmp .ge 153, 3) := by decide +kernel
theorem dX8_isTold_64 : decode cX8_isTold 64 = .ok (.iload_n 3, 1) := by decide +kernel
theorem dX8_isTold_65 : decode cX8_isTold 65 = .ok (.ifCond .eq 149, 3) := by decide +kernel
theorem dX8_isTold_68 : decode cX8_isTold 68 = .ok (.bipush 99, 2) := by decide +kernel
theorem dX8_isTold_70 : decode cX8_isTold 70 = .ok (.iconst 5, 1) := by decide +kernel
theorem dX8_isTold_71 : decode cX8_isTold 71 = .ok (.iload 4, 2) := by decide +kernel
theorem dX8_isTold_73 : decode cX8_isTold 73 = .ok (.imul, 1) := by decide +kernel
theorem dX8_isTold_74 : decode cX8_isTold 74 = .ok (.iadd, 1) := by decide +kernel
theorem dX8_isTold_75 : decode cX8_isTold 75 = .ok (.istore 5, 2) := by decide +kernel
theorem dX8_isTold_77 : decode cX8_isTold 77 = .ok (.lconst 0, 1) := by decide +kernel
theorem dX8_isTold_78 : decode cX8_isTold 78 = .ok (.lstore 6, 2) := by decide +kernel
theorem dX8_isTold_80 : decode cX8_isTold 80 = .ok (.iconst 0, 1) := by decide +kernel
theorem dX8_isTold_81 : decode cX8_isTold 81 = .ok (.istore 8, 2) := by decide +kernel
theorem dX8_isTold_83 : decode cX8_isTold 83 = .ok (.iload 8, 2) := by decide +kernel
theorem dX8_isTold_85 : decode cX8_isTold 85 = .ok (.sipush 128, 3) := by decide +kernel
theorem dX8_isTold_88 : decode cX8_isTold 88 = .ok (.if_icmp .ge 67, 3) := by decide +kernel
theorem dX8_isTold_91 : decode cX8_isTold 91 = .ok (.lload 6, 2) := by decide +kernel
theorem dX8_isTold_93 : decode cX8_isTold 93 = .ok (.aload_n 0, 1) := by decide +kernel
theorem dX8_isTold_94 : decode cX8_isTold 94 = .ok (.iload 8, 2) := by decide +kernel
theorem dX8_isTold_96 : decode cX8_isTold 96 = .ok (.invokevirtual 189, 3) := by decide +kernel
theorem dX8_isTold_99 : decode cX8_isTold 99 = .ok (.ifCond .eq 46, 3) := by decide +kernel
theorem dX8_isTold_102 : decode cX8_isTold 102 = .ok (.aload_n 0, 1) := by decide +kernel
theorem dX8_isTold_103 : decode cX8_isTold 103 = .ok (.getfield 7, 3) := by decide +kernel
theorem dX8_isTold_106 : decode cX8_isTold 106 = .ok (.iload 5, 2) := by decide +kernel
theorem dX8_isTold_108 : decode cX8_isTold 108 = .ok (.iaload, 1) := by decide +kernel
theorem dX8_isTold_109 : decode cX8_isTold 109 = .ok (.aload_n 0, 1) := by decide +kernel
theorem dX8_isTold_110 : decode cX8_isTold 110 = .ok (.getfield 7, 3) := by decide +kernel
theorem dX8_isTold_113 : decode cX8_isTold 113 = .ok (.iload 5, 2) := by decide +kernel
theorem dX8_isTold_115 : decode cX8_isTold 115 = .ok (.iconst 1, 1) := by decide +kernel
theorem dX8_isTold_116 : decode cX8_isTold 116 = .ok (.iadd, 1) := by decide +kernel
theorem dX8_isTold_117 : decode cX8_isTold 117 = .ok (.iaload, 1) := by decide +kernel
theorem dX8_isTold_118 : decode cX8_isTold 118 = .ok (.aload_n 0, 1) := by decide +kernel
theorem dX8_isTold_119 : decode cX8_isTold 119 = .ok (.getfield 7, 3) := by decide +kernel
theorem dX8_isTold_122 : decode cX8_isTold 122 = .ok (.iload 5, 2) := by decide +kernel
theorem dX8_isTold_124 : decode cX8_isTold 124 = .ok (.iconst 2, 1) := by decide +kernel
theorem dX8_isTold_125 : decode cX8_isTold 125 = .ok (.iadd, 1) := by decide +kernel
theorem dX8_isTold_126 : decode cX8_isTold 126 = .ok (.iaload, 1) := by decide +kernel
theorem dX8_isTold_127 : decode cX8_isTold 127 = .ok (.iload 8, 2) := by decide +kernel
theorem dX8_isTold_129 : decode cX8_isTold 129 = .ok (.invokestatic 180, 3) := by decide +kernel
theorem dX8_isTold_132 : decode cX8_isTold 132 = .ok (.ifCond .eq 13, 3) := by decide +kernel
theorem dX8_isTold_135 : decode cX8_isTold 135 = .ok (.aload_n 0, 1) := by decide +kernel
theorem dX8_isTold_136 : decode cX8_isTold 136 = .ok (.getfield 30, 3) := by decide +kernel
theorem dX8_isTold_139 : decode cX8_isTold 139 = .ok (.iload 8, 2) := by decide +kernel
theorem dX8_isTold_141 : decode cX8_isTold 141 = .ok (.laload, 1) := by decide +kernel
theorem dX8_isTold_142 : decode cX8_isTold 142 = .ok (.goto 4, 3) := by decide +kernel
theorem dX8_isTold_145 : decode cX8_isTold 145 = .ok (.lconst 0, 1) := by decide +kernel
theorem dX8_isTold_146 : decode cX8_isTold 146 = .ok (.ladd, 1) := by decide +kernel
theorem dX8_isTold_147 : decode cX8_isTold 147 = .ok (.lstore 6, 2) := by decide +kernel
theorem dX8_isTold_149 : decode cX8_isTold 149 = .ok (.iinc 8 1, 3) := by decide +kernel
theorem dX8_isTold_152 : decode cX8_isTold 152 = .ok (.goto (-69), 3) := by decide +kernel
theorem dX8_isTold_155 : decode cX8_isTold 155 = .ok (.lload 6, 2) := by decide +kernel
theorem dX8_isTold_157 : decode cX8_isTold 157 = .ok (.aload_n 0, 1) := by decide +kernel
theorem dX8_isTold_158 : decode cX8_isTold 158 = .ok (.getfield 7, 3) := by decide +kernel
theorem dX8_isTold_161 : decode cX8_isTold 161 = .ok (.iload 5, 2) := by decide +kernel
theorem dX8_isTold_163 : decode cX8_isTold 163 = .ok (.iconst 3, 1) := by decide +kernel
theorem dX8_isTold_164 : decode cX8_isTold 164 = .ok (.iadd, 1) := by decide +kernel
theorem dX8_isTold_165 : decode cX8_isTold 165 = .ok (.iaload, 1) := by decide +kernel
theorem dX8_isTold_166 : decode cX8_isTold 166 = .ok (.i2l, 1) := by decide +kernel
theorem dX8_isTold_167 : decode cX8_isTold 167 = .ok (.lmul, 1) := by decide +kernel
theorem dX8_isTold_168 : decode cX8_isTold 168 = .ok (.lload_n 1, 1) := by decide +kernel
theorem dX8_isTold_169 : decode cX8_isTold 169 = .ok (.lload 6, 2) := by decide +kernel
theorem dX8_isTold_171 : decode cX8_isTold 171 = .ok (.lsub, 1) := by decide +kernel
theorem dX8_isTold_172 : decode cX8_isTold 172 = .ok (.lcmp, 1) := by decide +kernel
theorem dX8_isTold_173 : decode cX8_isTold 173 = .ok (.ifCond .le 7, 3) := by decide +kernel
theorem dX8_isTold_176 : decode cX8_isTold 176 = .ok (.iconst 1, 1) := by decide +kernel
theorem dX8_isTold_177 : decode cX8_isTold 177 = .ok (.goto 4, 3) := by decide +kernel
theorem dX8_isTold_180 : decode cX8_isTold 180 = .ok (.iconst 0, 1) := by decide +kernel
theorem dX8_isTold_181 : decode cX8_isTold 181 = .ok (.aload_n 0, 1) := by decide +kernel
theorem dX8_isTold_182 : decode cX8_isTold 182 = .ok (.getfield 7, 3) := by decide +kernel
theorem dX8_isTold_185 : decode cX8_isTold 185 = .ok (.iload 5, 2) := by decide +kernel
theorem dX8_isTold_187 : decode cX8_isTold 187 = .ok (.iconst 4, 1) := by decide +kernel
theorem dX8_isTold_188 : decode cX8_isTold 188 = .ok (.iadd, 1) := by decide +kernel
theorem dX8_isTold_189 : decode cX8_isTold 189 = .ok (.iaload, 1) := by decide +kernel
theorem dX8_isTold_190 : decode cX8_isTold 190 = .ok (.iconst 1, 1) := by decide +kernel
theorem dX8_isTold_191 : decode cX8_isTold 191 = .ok (.if_icmp .ne 7, 3) := by decide +kernel
theorem dX8_isTold_194 : decode cX8_isTold 194 = .ok (.iconst 1, 1) := by decide +kernel
theorem dX8_isTold_195 : decode cX8_isTold 195 = .ok (.goto 4, 3) := by decide +kernel
theorem dX8_isTold_198 : decode cX8_isTold 198 = .ok (.iconst 0, 1) := by decide +kernel
theorem dX8_isTold_199 : decode cX8_isTold 199 = .ok (.if_icmp .ne 7, 3) := by decide +kernel
theorem dX8_isTold_202 : decode cX8_isTold 202 = .ok (.iconst 1, 1) := by decide +kernel
theorem dX8_isTold_203 : decode cX8_isTold 203 = .ok (.goto 4, 3) := by decide +kernel
theorem dX8_isTold_206 : decode cX8_isTold 206 = .ok (.iconst 0, 1) := by decide +kernel
theorem dX8_isTold_207 : decode cX8_isTold 207 = .ok (.istore_n 3, 1) := by decide +kernel
theorem dX8_isTold_208 : decode cX8_isTold 208 = .ok (.iinc 4 1, 3) := by decide +kernel
theorem dX8_isTold_211 : decode cX8_isTold 211 = .ok (.goto (-158), 3) := by decide +kernel
theorem dX8_isTold_214 : decode cX8_isTold 214 = .ok (.iload_n 3, 1) := by decide +kernel
theorem dX8_isTold_215 : decode cX8_isTold 215 = .ok (.ireturn, 1) := by decide +kernel
set_option maxRecDepth 20000 in
theorem ggX8_told_X8_in : GoodIn wsX8_told wsX8_in := goodIn_r _ [6] (by decide +kernel) (by decide +kernel)
set_option maxRecDepth 20000 in
theorem gX8_told_X8_in : GoodIn wsX8_told (va_wsS RX8 40 yX8_in wsX8_in) := goodIn_app (goodIn_of _ (by decide +kernel)) ggX8_told_X8_in
set_option maxRecDepth 20000 in
theorem ggX8_told_X8_bad : GoodIn wsX8_told wsX8_bad := goodIn_r _ [10, 11, 49, 50, 51, 52, 53, 54, 55, 56, 57, 58, 59, 60, 61, 62, 63, 64, 65, 66] (by decide +kernel) (by decide +kernel)
set_option maxRecDepth 20000 in
theorem gX8_told_X8_bad : GoodIn wsX8_told (wsV RX8 54 RX8 yX8_bad wsX8_bad) := goodIn_app (goodIn_of _ (by decide +kernel)) ggX8_told_X8_bad
set_option maxRecDepth 20000 in
theorem ggX8_told_X8_fits : GoodIn wsX8_told wsX8_fits := goodIn_r _ [15, 16, 17, 18, 19, 5, 20, 21, 22, 23, 24, 25, 26, 27, 28, 29, 30, 31, 32, 33, 49, 50, 51, 52, 53, 54, 55, 56, 57, 58, 59, 60, 61, 62, 63, 64, 65, 66] (by decide +kernel) (by decide +kernel)
set_option maxRecDepth 20000 in
theorem gX8_told_X8_fits : GoodIn wsX8_told (wsV RX8 177 RX8 yX8_fits wsX8_fits) := goodIn_app (goodIn_of _ (by decide +kernel)) ggX8_told_X8_fits
set_option maxRecDepth 20000 in
theorem ggX8_told_X8_no : GoodIn wsX8_told wsX8_no := goodIn_r _ [37, 11, 49, 50, 51, 52, 53, 54, 55, 56, 57, 58, 59, 60, 61, 62, 63, 64, 65, 66] (by decide +kernel) (by decide +kernel)
set_option maxRecDepth 20000 in
theorem gX8_told_X8_no : GoodIn wsX8_told (wsV RX8 74 RX8 yX8_no wsX8_no) := goodIn_app (goodIn_of _ (by decide +kernel)) ggX8_told_X8_no
set_option maxRecDepth 20000 in
theorem ggX8_told_X8_isTold : GoodIn wsX8_told wsX8_isTold := goodIn_r _ [41, 21, 26, 42, 43, 44, 5, 45, 2, 1, 46, 47, 48, 31, 32, 33, 49, 50, 51, 52, 53, 54, 55, 56, 57, 58, 59, 60, 61, 62, 63, 64, 65, 66] (by decide +kernel) (by decide +kernel)
set_option maxRecDepth 20000 in
theorem gX8_told_X8_isTold : GoodIn wsX8_told (wsV RX8 229 RX8 yX8_isTold wsX8_isTold) := goodIn_app (goodIn_of _ (by decide +kernel)) ggX8_told_X8_isTold
theorem dX8_told_0 : decode cX8_told 0 = .ok (.iload_n 1, 1) := by decide +kernel
theorem dX8_told_1 : decode cX8_told 1 = .ok (.i2l, 1) := by decide +kernel
theorem dX8_told_2 : decode cX8_told 2 = .ok (.lconst 0, 1) := by decide +kernel
theorem dX8_told_3 : decode cX8_told 3 = .ok (.lconst 1, 1) := by decide +kernel
theorem dX8_told_4 : decode cX8_told 4 = .ok (.invokestatic 40, 3) := by decide +kernel
theorem dX8_told_7 : decode cX8_told 7 = .ok (.ifCond .ne 8, 3) := by decide +kernel
theorem dX8_told_10 : decode cX8_told 10 = .ok (.aload_n 0, 1) := by decide +kernel
theorem dX8_told_11 : decode cX8_told 11 = .ok (.invokevirtual 54, 3) := by decide +kernel
theorem dX8_told_14 : decode cX8_told 14 = .ok (.ireturn, 1) := by decide +kernel
theorem dX8_told_15 : decode cX8_told 15 = .ok (.aload_n 0, 1) := by decide +kernel
theorem dX8_told_16 : decode cX8_told 16 = .ok (.invokevirtual 177, 3) := by decide +kernel
theorem dX8_told_19 : decode cX8_told 19 = .ok (.ifCond .ne 8, 3) := by decide +kernel
theorem dX8_told_22 : decode cX8_told 22 = .ok (.aload_n 0, 1) := by decide +kernel
theorem dX8_told_23 : decode cX8_told 23 = .ok (.invokevirtual 74, 3) := by decide +kernel
theorem dX8_told_26 : decode cX8_told 26 = .ok (.ireturn, 1) := by decide +kernel
theorem dX8_told_27 : decode cX8_told 27 = .ok (.iconst 0, 1) := by decide +kernel
theorem dX8_told_28 : decode cX8_told 28 = .ok (.istore_n 2, 1) := by decide +kernel
theorem dX8_told_29 : decode cX8_told 29 = .ok (.iconst (-1), 1) := by decide +kernel
theorem dX8_told_30 : decode cX8_told 30 = .ok (.istore_n 3, 1) := by decide +kernel
theorem dX8_told_31 : decode cX8_told 31 = .ok (.iconst 0, 1) := by decide +kernel
theorem dX8_told_32 : decode cX8_told 32 = .ok (.istore 4, 2) := by decide +kernel
theorem dX8_told_34 : decode cX8_told 34 = .ok (.iload 4, 2) := by decide +kernel
theorem dX8_told_36 : decode cX8_told 36 = .ok (.bipush 15, 2) := by decide +kernel
theorem dX8_told_38 : decode cX8_told 38 = .ok (.if_icmp .ge 85, 3) := by decide +kernel
theorem dX8_told_41 : decode cX8_told 41 = .ok (.aload_n 0, 1) := by decide +kernel
theorem dX8_told_42 : decode cX8_told 42 = .ok (.iload 4, 2) := by decide +kernel
theorem dX8_told_44 : decode cX8_told 44 = .ok (.bipush 14, 2) := by decide +kernel
theorem dX8_told_46 : decode cX8_told 46 = .ok (.if_icmp .ne 7, 3) := by decide +kernel
theorem dX8_told_49 : decode cX8_told 49 = .ok (.iconst 0, 1) := by decide +kernel
theorem dX8_told_50 : decode cX8_told 50 = .ok (.goto 9, 3) := by decide +kernel
