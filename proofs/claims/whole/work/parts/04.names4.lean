theorem dX5_init_8 : decode cX5_init 8 = .ok (.dup, 1) := by decide +kernel
theorem dX5_init_9 : decode cX5_init 9 = .ok (.iconst 3, 1) := by decide +kernel
theorem dX5_init_10 : decode cX5_init 10 = .ok (.bipush 8, 2) := by decide +kernel
theorem dX5_init_12 : decode cX5_init 12 = .ok (.invokespecial 11, 3) := by decide +kernel
theorem dX5_init_15 : decode cX5_init 15 = .ok (.putfield 14, 3) := by decide +kernel
theorem dX5_init_18 : decode cX5_init 18 = .ok (.aload_n 0, 1) := by decide +kernel
theorem dX5_init_19 : decode cX5_init 19 = .ok (.new 1, 3) := by decide +kernel
theorem dX5_init_22 : decode cX5_init 22 = .ok (.dup, 1) := by decide +kernel
theorem dX5_init_23 : decode cX5_init 23 = .ok (.iconst 3, 1) := by decide +kernel
theorem dX5_init_24 : decode cX5_init 24 = .ok (.bipush 10, 2) := by decide +kernel
theorem dX5_init_26 : decode cX5_init 26 = .ok (.invokespecial 11, 3) := by decide +kernel
theorem dX5_init_29 : decode cX5_init 29 = .ok (.putfield 20, 3) := by decide +kernel
theorem dX5_init_32 : decode cX5_init 32 = .ok (.aload_n 0, 1) := by decide +kernel
theorem dX5_init_33 : decode cX5_init 33 = .ok (.new 1, 3) := by decide +kernel
theorem dX5_init_36 : decode cX5_init 36 = .ok (.dup, 1) := by decide +kernel
theorem dX5_init_37 : decode cX5_init 37 = .ok (.iconst 5, 1) := by decide +kernel
theorem dX5_init_38 : decode cX5_init 38 = .ok (.bipush 8, 2) := by decide +kernel
theorem dX5_init_40 : decode cX5_init 40 = .ok (.invokespecial 11, 3) := by decide +kernel
theorem dX5_init_43 : decode cX5_init 43 = .ok (.putfield 23, 3) := by decide +kernel
theorem dX5_init_46 : decode cX5_init 46 = .ok (.aload_n 0, 1) := by decide +kernel
theorem dX5_init_47 : decode cX5_init 47 = .ok (.new 1, 3) := by decide +kernel
theorem dX5_init_50 : decode cX5_init 50 = .ok (.dup, 1) := by decide +kernel
theorem dX5_init_51 : decode cX5_init 51 = .ok (.iconst 5, 1) := by decide +kernel
theorem dX5_init_52 : decode cX5_init 52 = .ok (.bipush 6, 2) := by decide +kernel
theorem dX5_init_54 : decode cX5_init 54 = .ok (.invokespecial 11, 3) := by decide +kernel
theorem dX5_init_57 : decode cX5_init 57 = .ok (.putfield 26, 3) := by decide +kernel
theorem dX5_init_60 : decode cX5_init 60 = .ok (.aload_n 0, 1) := by decide +kernel
theorem dX5_init_61 : decode cX5_init 61 = .ok (.sipush 240, 3) := by decide +kernel
theorem dX5_init_64 : decode cX5_init 64 = .ok (.newarray .int, 2) := by decide +kernel
theorem dX5_init_66 : decode cX5_init 66 = .ok (.putfield 29, 3) := by decide +kernel
theorem dX5_init_69 : decode cX5_init 69 = .ok (.aload_n 0, 1) := by decide +kernel
theorem dX5_init_70 : decode cX5_init 70 = .ok (.bipush 8, 2) := by decide +kernel
theorem dX5_init_72 : decode cX5_init 72 = .ok (.newarray .int, 2) := by decide +kernel
theorem dX5_init_74 : decode cX5_init 74 = .ok (.putfield 33, 3) := by decide +kernel
theorem dX5_init_77 : decode cX5_init 77 = .ok (.return_, 1) := by decide +kernel
set_option maxRecDepth 20000 in
theorem ggX5_empty_X6_empty : GoodIn wsX5_empty wsX6_empty := goodIn_r _ [10, 11, 19, 20, 21, 22] (by decide +kernel) (by decide +kernel)
set_option maxRecDepth 20000 in
theorem gX5_empty_X6_empty : GoodIn wsX5_empty (wsV RX5 36 RX6 yX6_empty wsX6_empty) := goodIn_app (goodIn_of _ (by decide +kernel)) ggX5_empty_X6_empty
theorem dX5_empty_0 : decode cX5_empty 0 = .ok (.aload_n 0, 1) := by decide +kernel
theorem dX5_empty_1 : decode cX5_empty 1 = .ok (.getfield 14, 3) := by decide +kernel
theorem dX5_empty_4 : decode cX5_empty 4 = .ok (.invokevirtual 36, 3) := by decide +kernel
theorem dX5_empty_7 : decode cX5_empty 7 = .ok (.aload_n 0, 1) := by decide +kernel
theorem dX5_empty_8 : decode cX5_empty 8 = .ok (.getfield 20, 3) := by decide +kernel
theorem dX5_empty_11 : decode cX5_empty 11 = .ok (.invokevirtual 36, 3) := by decide +kernel
theorem dX5_empty_14 : decode cX5_empty 14 = .ok (.aload_n 0, 1) := by decide +kernel
theorem dX5_empty_15 : decode cX5_empty 15 = .ok (.getfield 23, 3) := by decide +kernel
theorem dX5_empty_18 : decode cX5_empty 18 = .ok (.invokevirtual 36, 3) := by decide +kernel
theorem dX5_empty_21 : decode cX5_empty 21 = .ok (.aload_n 0, 1) := by decide +kernel
theorem dX5_empty_22 : decode cX5_empty 22 = .ok (.getfield 26, 3) := by decide +kernel
theorem dX5_empty_25 : decode cX5_empty 25 = .ok (.invokevirtual 36, 3) := by decide +kernel
theorem dX5_empty_28 : decode cX5_empty 28 = .ok (.aload_n 0, 1) := by decide +kernel
theorem dX5_empty_29 : decode cX5_empty 29 = .ok (.iconst 0, 1) := by decide +kernel
theorem dX5_empty_30 : decode cX5_empty 30 = .ok (.putfield 39, 3) := by decide +kernel
theorem dX5_empty_33 : decode cX5_empty 33 = .ok (.return_, 1) := by decide +kernel
theorem dX5_loseSteps_0 : decode cX5_loseSteps 0 = .ok (.aload_n 0, 1) := by decide +kernel
theorem dX5_loseSteps_1 : decode cX5_loseSteps 1 = .ok (.iconst 0, 1) := by decide +kernel
theorem dX5_loseSteps_2 : decode cX5_loseSteps 2 = .ok (.putfield 39, 3) := by decide +kernel
theorem dX5_loseSteps_5 : decode cX5_loseSteps 5 = .ok (.return_, 1) := by decide +kernel
theorem dX5_keepStep_0 : decode cX5_keepStep 0 = .ok (.aload_n 0, 1) := by decide +kernel
theorem dX5_keepStep_1 : decode cX5_keepStep 1 = .ok (.getfield 39, 3) := by decide +kernel
theorem dX5_keepStep_4 : decode cX5_keepStep 4 = .ok (.bipush 8, 2) := by decide +kernel
theorem dX5_keepStep_6 : decode cX5_keepStep 6 = .ok (.if_icmp .lt 41, 3) := by decide +kernel
theorem dX5_keepStep_9 : decode cX5_keepStep 9 = .ok (.aload_n 0, 1) := by decide +kernel
theorem dX5_keepStep_10 : decode cX5_keepStep 10 = .ok (.getfield 29, 3) := by decide +kernel
theorem dX5_keepStep_13 : decode cX5_keepStep 13 = .ok (.bipush 30, 2) := by decide +kernel
theorem dX5_keepStep_15 : decode cX5_keepStep 15 = .ok (.aload_n 0, 1) := by decide +kernel
theorem dX5_keepStep_16 : decode cX5_keepStep 16 = .ok (.getfield 29, 3) := by decide +kernel
theorem dX5_keepStep_19 : decode cX5_keepStep 19 = .ok (.iconst 0, 1) := by decide +kernel
theorem dX5_keepStep_20 : decode cX5_keepStep 20 = .ok (.sipush 210, 3) := by decide +kernel
theorem dX5_keepStep_23 : decode cX5_keepStep 23 = .ok (.invokestatic 43, 3) := by decide +kernel
theorem dX5_keepStep_26 : decode cX5_keepStep 26 = .ok (.aload_n 0, 1) := by decide +kernel
theorem dX5_keepStep_27 : decode cX5_keepStep 27 = .ok (.getfield 33, 3) := by decide +kernel
theorem dX5_keepStep_30 : decode cX5_keepStep 30 = .ok (.iconst 1, 1) := by decide +kernel
theorem dX5_keepStep_31 : decode cX5_keepStep 31 = .ok (.aload_n 0, 1) := by decide +kernel
theorem dX5_keepStep_32 : decode cX5_keepStep 32 = .ok (.getfield 33, 3) := by decide +kernel
theorem dX5_keepStep_35 : decode cX5_keepStep 35 = .ok (.iconst 0, 1) := by decide +kernel
theorem dX5_keepStep_36 : decode cX5_keepStep 36 = .ok (.bipush 7, 2) := by decide +kernel
theorem dX5_keepStep_38 : decode cX5_keepStep 38 = .ok (.invokestatic 43, 3) := by decide +kernel
theorem dX5_keepStep_41 : decode cX5_keepStep 41 = .ok (.aload_n 0, 1) := by decide +kernel
theorem dX5_keepStep_42 : decode cX5_keepStep 42 = .ok (.bipush 7, 2) := by decide +kernel
theorem dX5_keepStep_44 : decode cX5_keepStep 44 = .ok (.putfield 39, 3) := by decide +kernel
theorem dX5_keepStep_47 : decode cX5_keepStep 47 = .ok (.aload_n 0, 1) := by decide +kernel
theorem dX5_keepStep_48 : decode cX5_keepStep 48 = .ok (.getfield 20, 3) := by decide +kernel
theorem dX5_keepStep_51 : decode cX5_keepStep 51 = .ok (.getfield 49, 3) := by decide +kernel
theorem dX5_keepStep_54 : decode cX5_keepStep 54 = .ok (.iconst 0, 1) := by decide +kernel
theorem dX5_keepStep_55 : decode cX5_keepStep 55 = .ok (.aload_n 0, 1) := by decide +kernel
theorem dX5_keepStep_56 : decode cX5_keepStep 56 = .ok (.getfield 29, 3) := by decide +kernel
theorem dX5_keepStep_59 : decode cX5_keepStep 59 = .ok (.bipush 30, 2) := by decide +kernel
theorem dX5_keepStep_61 : decode cX5_keepStep 61 = .ok (.aload_n 0, 1) := by decide +kernel
theorem dX5_keepStep_62 : decode cX5_keepStep 62 = .ok (.getfield 39, 3) := by decide +kernel
theorem dX5_keepStep_65 : decode cX5_keepStep 65 = .ok (.imul, 1) := by decide +kernel
theorem dX5_keepStep_66 : decode cX5_keepStep 66 = .ok (.bipush 30, 2) := by decide +kernel
theorem dX5_keepStep_68 : decode cX5_keepStep 68 = .ok (.invokestatic 43, 3) := by decide +kernel
theorem dX5_keepStep_71 : decode cX5_keepStep 71 = .ok (.aload_n 0, 1) := by decide +kernel
theorem dX5_keepStep_72 : decode cX5_keepStep 72 = .ok (.getfield 33, 3) := by decide +kernel
theorem dX5_keepStep_75 : decode cX5_keepStep 75 = .ok (.aload_n 0, 1) := by decide +kernel
theorem dX5_keepStep_76 : decode cX5_keepStep 76 = .ok (.getfield 39, 3) := by decide +kernel
theorem dX5_keepStep_79 : decode cX5_keepStep 79 = .ok (.aload_n 0, 1) := by decide +kernel
theorem dX5_keepStep_80 : decode cX5_keepStep 80 = .ok (.getfield 20, 3) := by decide +kernel
theorem dX5_keepStep_83 : decode cX5_keepStep 83 = .ok (.getfield 52, 3) := by decide +kernel
theorem dX5_keepStep_86 : decode cX5_keepStep 86 = .ok (.iastore, 1) := by decide +kernel
theorem dX5_keepStep_87 : decode cX5_keepStep 87 = .ok (.aload_n 0, 1) := by decide +kernel
theorem dX5_keepStep_88 : decode cX5_keepStep 88 = .ok (.dup, 1) := by decide +kernel
theorem dX5_keepStep_89 : decode cX5_keepStep 89 = .ok (.getfield 39, 3) := by decide +kernel
theorem dX5_keepStep_92 : decode cX5_keepStep 92 = .ok (.iconst 1, 1) := by decide +kernel
theorem dX5_keepStep_93 : decode cX5_keepStep 93 = .ok (.iadd, 1) := by decide +kernel
theorem dX5_keepStep_94 : decode cX5_keepStep 94 = .ok (.putfield 39, 3) := by decide +kernel
theorem dX5_keepStep_97 : decode cX5_keepStep 97 = .ok (.return_, 1) := by decide +kernel
theorem dX5_stepBack_0 : decode cX5_stepBack 0 = .ok (.aload_n 0, 1) := by decide +kernel
theorem dX5_stepBack_1 : decode cX5_stepBack 1 = .ok (.getfield 39, 3) := by decide +kernel
theorem dX5_stepBack_4 : decode cX5_stepBack 4 = .ok (.iconst 1, 1) := by decide +kernel
theorem dX5_stepBack_5 : decode cX5_stepBack 5 = .ok (.if_icmp .ge 4, 3) := by decide +kernel
theorem dX5_stepBack_8 : decode cX5_stepBack 8 = .ok (.return_, 1) := by decide +kernel
theorem dX5_stepBack_9 : decode cX5_stepBack 9 = .ok (.aload_n 0, 1) := by decide +kernel
theorem dX5_stepBack_10 : decode cX5_stepBack 10 = .ok (.dup, 1) := by decide +kernel
theorem dX5_stepBack_11 : decode cX5_stepBack 11 = .ok (.getfield 39, 3) := by decide +kernel
theorem dX5_stepBack_14 : decode cX5_stepBack 14 = .ok (.iconst 1, 1) := by decide +kernel
theorem dX5_stepBack_15 : decode cX5_stepBack 15 = .ok (.isub, 1) := by decide +kernel
theorem dX5_stepBack_16 : decode cX5_stepBack 16 = .ok (.putfield 39, 3) := by decide +kernel
theorem dX5_stepBack_19 : decode cX5_stepBack 19 = .ok (.aload_n 0, 1) := by decide +kernel
theorem dX5_stepBack_20 : decode cX5_stepBack 20 = .ok (.getfield 29, 3) := by decide +kernel
theorem dX5_stepBack_23 : decode cX5_stepBack 23 = .ok (.bipush 30, 2) := by decide +kernel
theorem dX5_stepBack_25 : decode cX5_stepBack 25 = .ok (.aload_n 0, 1) := by decide +kernel
theorem dX5_stepBack_26 : decode cX5_stepBack 26 = .ok (.getfield 39, 3) := by decide +kernel
theorem dX5_stepBack_29 : decode cX5_stepBack 29 = .ok (.imul, 1) := by decide +kernel
theorem dX5_stepBack_30 : decode cX5_stepBack 30 = .ok (.aload_n 0, 1) := by decide +kernel
theorem dX5_stepBack_31 : decode cX5_stepBack 31 = .ok (.getfield 20, 3) := by decide +kernel
theorem dX5_stepBack_34 : decode cX5_stepBack 34 = .ok (.getfield 49, 3) := by decide +kernel
theorem dX5_stepBack_37 : decode cX5_stepBack 37 = .ok (.iconst 0, 1) := by decide +kernel
theorem dX5_stepBack_38 : decode cX5_stepBack 38 = .ok (.bipush 30, 2) := by decide +kernel
theorem dX5_stepBack_40 : decode cX5_stepBack 40 = .ok (.invokestatic 43, 3) := by decide +kernel
theorem dX5_stepBack_43 : decode cX5_stepBack 43 = .ok (.aload_n 0, 1) := by decide +kernel
theorem dX5_stepBack_44 : decode cX5_stepBack 44 = .ok (.getfield 20, 3) := by decide +kernel
theorem dX5_stepBack_47 : decode cX5_stepBack 47 = .ok (.aload_n 0, 1) := by decide +kernel
theorem dX5_stepBack_48 : decode cX5_stepBack 48 = .ok (.getfield 33, 3) := by decide +kernel
theorem dX5_stepBack_51 : decode cX5_stepBack 51 = .ok (.aload_n 0, 1) := by decide +kernel
theorem dX5_stepBack_52 : decode cX5_stepBack 52 = .ok (.getfield 39, 3) := by decide +kernel
theorem dX5_stepBack_55 : decode cX5_stepBack 55 = .ok (.iaload, 1) := by decide +kernel
theorem dX5_stepBack_56 : decode cX5_stepBack 56 = .ok (.putfield 52, 3) := by decide +kernel
theorem dX5_stepBack_59 : decode cX5_stepBack 59 = .ok (.return_, 1) := by decide +kernel
set_option maxRecDepth 20000 in
theorem ggX5_takeOver_X6_takeOver : GoodIn wsX5_takeOver wsX6_takeOver := goodIn_r _ [16, 17, 18, 7, 8, 9, 19, 27, 28, 29, 30] (by decide +kernel) (by decide +kernel)
set_option maxRecDepth 20000 in
theorem gX5_takeOver_X6_takeOver : GoodIn wsX5_takeOver (wsV RX5 55 RX6 yX6_takeOver wsX6_takeOver) := goodIn_app (goodIn_of _ (by decide +kernel)) ggX5_takeOver_X6_takeOver
theorem dX5_takeOver_0 : decode cX5_takeOver 0 = .ok (.aload_n 0, 1) := by decide +kernel
theorem dX5_takeOver_1 : decode cX5_takeOver 1 = .ok (.getfield 14, 3) := by decide +kernel
theorem dX5_takeOver_4 : decode cX5_takeOver 4 = .ok (.aload_n 1, 1) := by decide +kernel
theorem dX5_takeOver_5 : decode cX5_takeOver 5 = .ok (.getfield 14, 3) := by decide +kernel
theorem dX5_takeOver_8 : decode cX5_takeOver 8 = .ok (.invokevirtual 55, 3) := by decide +kernel
theorem dX5_takeOver_11 : decode cX5_takeOver 11 = .ok (.aload_n 0, 1) := by decide +kernel
theorem dX5_takeOver_12 : decode cX5_takeOver 12 = .ok (.getfield 20, 3) := by decide +kernel
theorem dX5_takeOver_15 : decode cX5_takeOver 15 = .ok (.aload_n 1, 1) := by decide +kernel
theorem dX5_takeOver_16 : decode cX5_takeOver 16 = .ok (.getfield 20, 3) := by decide +kernel
theorem dX5_takeOver_19 : decode cX5_takeOver 19 = .ok (.invokevirtual 55, 3) := by decide +kernel
theorem dX5_takeOver_22 : decode cX5_takeOver 22 = .ok (.aload_n 0, 1) := by decide +kernel
theorem dX5_takeOver_23 : decode cX5_takeOver 23 = .ok (.getfield 23, 3) := by decide +kernel
theorem dX5_takeOver_26 : decode cX5_takeOver 26 = .ok (.aload_n 1, 1) := by decide +kernel
theorem dX5_takeOver_27 : decode cX5_takeOver 27 = .ok (.getfield 23, 3) := by decide +kernel
theorem dX5_takeOver_30 : decode cX5_takeOver 30 = .ok (.invokevirtual 55, 3) := by decide +kernel
theorem dX5_takeOver_33 : decode cX5_takeOver 33 = .ok (.aload_n 0, 1) := by decide +kernel
theorem dX5_takeOver_34 : decode cX5_takeOver 34 = .ok (.getfield 26, 3) := by decide +kernel
theorem dX5_takeOver_37 : decode cX5_takeOver 37 = .ok (.aload_n 1, 1) := by decide +kernel
theorem dX5_takeOver_38 : decode cX5_takeOver 38 = .ok (.getfield 26, 3) := by decide +kernel
theorem dX5_takeOver_41 : decode cX5_takeOver 41 = .ok (.invokevirtual 55, 3) := by decide +kernel
theorem dX5_takeOver_44 : decode cX5_takeOver 44 = .ok (.aload_n 1, 1) := by decide +kernel
theorem dX5_takeOver_45 : decode cX5_takeOver 45 = .ok (.getfield 29, 3) := by decide +kernel
theorem dX5_takeOver_48 : decode cX5_takeOver 48 = .ok (.iconst 0, 1) := by decide +kernel
theorem dX5_takeOver_49 : decode cX5_takeOver 49 = .ok (.aload_n 0, 1) := by decide +kernel
theorem dX5_takeOver_50 : decode cX5_takeOver 50 = .ok (.getfield 29, 3) := by decide +kernel
theorem dX5_takeOver_53 : decode cX5_takeOver 53 = .ok (.iconst 0, 1) := by decide +kernel
theorem dX5_takeOver_54 : decode cX5_takeOver 54 = .ok (.aload_n 0, 1) := by decide +kernel
theorem dX5_takeOver_55 : decode cX5_takeOver 55 = .ok (.getfield 29, 3) := by decide +kernel
theorem dX5_takeOver_58 : decode cX5_takeOver 58 = .ok (.arraylength, 1) := by decide +kernel
theorem dX5_takeOver_59 : decode cX5_takeOver 59 = .ok (.invokestatic 43, 3) := by decide +kernel
theorem dX5_takeOver_62 : decode cX5_takeOver 62 = .ok (.aload_n 1, 1) := by decide +kernel
theorem dX5_takeOver_63 : decode cX5_takeOver 63 = .ok (.getfield 33, 3) := by decide +kernel
theorem dX5_takeOver_66 : decode cX5_takeOver 66 = .ok (.iconst 0, 1) := by decide +kernel
theorem dX5_takeOver_67 : decode cX5_takeOver 67 = .ok (.aload_n 0, 1) := by decide +kernel
theorem dX5_takeOver_68 : decode cX5_takeOver 68 = .ok (.getfield 33, 3) := by decide +kernel
theorem dX5_takeOver_71 : decode cX5_takeOver 71 = .ok (.iconst 0, 1) := by decide +kernel
theorem dX5_takeOver_72 : decode cX5_takeOver 72 = .ok (.aload_n 0, 1) := by decide +kernel
theorem dX5_takeOver_73 : decode cX5_takeOver 73 = .ok (.getfield 33, 3) := by decide +kernel
theorem dX5_takeOver_76 : decode cX5_takeOver 76 = .ok (.arraylength, 1) := by decide +kernel
theorem dX5_takeOver_77 : decode cX5_takeOver 77 = .ok (.invokestatic 43, 3) := by decide +kernel
theorem dX5_takeOver_80 : decode cX5_takeOver 80 = .ok (.aload_n 0, 1) := by decide +kernel
theorem dX5_takeOver_81 : decode cX5_takeOver 81 = .ok (.aload_n 1, 1) := by decide +kernel
theorem dX5_takeOver_82 : decode cX5_takeOver 82 = .ok (.getfield 39, 3) := by decide +kernel
theorem dX5_takeOver_85 : decode cX5_takeOver 85 = .ok (.putfield 39, 3) := by decide +kernel
theorem dX5_takeOver_88 : decode cX5_takeOver 88 = .ok (.return_, 1) := by decide +kernel
theorem dX6_init_0 : decode cX6_init 0 = .ok (.aload_n 0, 1) := by decide +kernel
theorem dX6_init_1 : decode cX6_init 1 = .ok (.invokespecial 1, 3) := by decide +kernel
theorem dX6_init_4 : decode cX6_init 4 = .ok (.aload_n 0, 1) := by decide +kernel
theorem dX6_init_5 : decode cX6_init 5 = .ok (.iconst 1, 1) := by decide +kernel
theorem dX6_init_6 : decode cX6_init 6 = .ok (.iload_n 1, 1) := by decide +kernel
theorem dX6_init_7 : decode cX6_init 7 = .ok (.invokestatic 7, 3) := by decide +kernel
theorem dX6_init_10 : decode cX6_init 10 = .ok (.putfield 13, 3) := by decide +kernel
theorem dX6_init_13 : decode cX6_init 13 = .ok (.aload_n 0, 1) := by decide +kernel
theorem dX6_init_14 : decode cX6_init 14 = .ok (.iconst 1, 1) := by decide +kernel
theorem dX6_init_15 : decode cX6_init 15 = .ok (.iload_n 2, 1) := by decide +kernel
theorem dX6_init_16 : decode cX6_init 16 = .ok (.invokestatic 7, 3) := by decide +kernel
theorem dX6_init_19 : decode cX6_init 19 = .ok (.putfield 19, 3) := by decide +kernel
theorem dX6_init_22 : decode cX6_init 22 = .ok (.aload_n 0, 1) := by decide +kernel
theorem dX6_init_23 : decode cX6_init 23 = .ok (.aload_n 0, 1) := by decide +kernel
theorem dX6_init_24 : decode cX6_init 24 = .ok (.getfield 13, 3) := by decide +kernel
theorem dX6_init_27 : decode cX6_init 27 = .ok (.aload_n 0, 1) := by decide +kernel
theorem dX6_init_28 : decode cX6_init 28 = .ok (.getfield 19, 3) := by decide +kernel
theorem dX6_init_31 : decode cX6_init 31 = .ok (.imul, 1) := by decide +kernel
theorem dX6_init_32 : decode cX6_init 32 = .ok (.newarray .int, 2) := by decide +kernel
theorem dX6_init_34 : decode cX6_init 34 = .ok (.putfield 22, 3) := by decide +kernel
theorem dX6_init_37 : decode cX6_init 37 = .ok (.return_, 1) := by decide +kernel
theorem dX6_isFull_0 : decode cX6_isFull 0 = .ok (.aload_n 0, 1) := by decide +kernel
theorem dX6_isFull_1 : decode cX6_isFull 1 = .ok (.getfield 26, 3) := by decide +kernel
theorem dX6_isFull_4 : decode cX6_isFull 4 = .ok (.aload_n 0, 1) := by decide +kernel
theorem dX6_isFull_5 : decode cX6_isFull 5 = .ok (.getfield 19, 3) := by decide +kernel
theorem dX6_isFull_8 : decode cX6_isFull 8 = .ok (.if_icmp .lt 7, 3) := by decide +kernel
theorem dX6_isFull_11 : decode cX6_isFull 11 = .ok (.iconst 1, 1) := by decide +kernel
theorem dX6_isFull_12 : decode cX6_isFull 12 = .ok (.goto 4, 3) := by decide +kernel
theorem dX6_isFull_15 : decode cX6_isFull 15 = .ok (.iconst 0, 1) := by decide +kernel
theorem dX6_isFull_16 : decode cX6_isFull 16 = .ok (.ireturn, 1) := by decide +kernel
theorem dX6_has_0 : decode cX6_has 0 = .ok (.iload_n 1, 1) := by decide +kernel
theorem dX6_has_1 : decode cX6_has 1 = .ok (.ifCond .lt 15, 3) := by decide +kernel
theorem dX6_has_4 : decode cX6_has 4 = .ok (.iload_n 1, 1) := by decide +kernel
theorem dX6_has_5 : decode cX6_has 5 = .ok (.aload_n 0, 1) := by decide +kernel
theorem dX6_has_6 : decode cX6_has 6 = .ok (.getfield 26, 3) := by decide +kernel
theorem dX6_has_9 : decode cX6_has 9 = .ok (.if_icmp .ge 7, 3) := by decide +kernel
theorem dX6_has_12 : decode cX6_has 12 = .ok (.iconst 1, 1) := by decide +kernel
theorem dX6_has_13 : decode cX6_has 13 = .ok (.goto 4, 3) := by decide +kernel
theorem dX6_has_16 : decode cX6_has 16 = .ok (.iconst 0, 1) := by decide +kernel
theorem dX6_has_17 : decode cX6_has 17 = .ok (.ireturn, 1) := by decide +kernel
theorem dX6_cell_0 : decode cX6_cell 0 = .ok (.iload_n 1, 1) := by decide +kernel
theorem dX6_cell_1 : decode cX6_cell 1 = .ok (.ifCond .lt 23, 3) := by decide +kernel
theorem dX6_cell_4 : decode cX6_cell 4 = .ok (.iload_n 1, 1) := by decide +kernel
theorem dX6_cell_5 : decode cX6_cell 5 = .ok (.aload_n 0, 1) := by decide +kernel
theorem dX6_cell_6 : decode cX6_cell 6 = .ok (.getfield 26, 3) := by decide +kernel
theorem dX6_cell_9 : decode cX6_cell 9 = .ok (.if_icmp .ge 15, 3) := by decide +kernel
theorem dX6_cell_12 : decode cX6_cell 12 = .ok (.iload_n 2, 1) := by decide +kernel
theorem dX6_cell_13 : decode cX6_cell 13 = .ok (.ifCond .lt 11, 3) := by decide +kernel
theorem dX6_cell_16 : decode cX6_cell 16 = .ok (.iload_n 2, 1) := by decide +kernel
theorem dX6_cell_17 : decode cX6_cell 17 = .ok (.aload_n 0, 1) := by decide +kernel
theorem dX6_cell_18 : decode cX6_cell 18 = .ok (.getfield 13, 3) := by decide +kernel
theorem dX6_cell_21 : decode cX6_cell 21 = .ok (.if_icmp .lt 5, 3) := by decide +kernel
theorem dX6_cell_24 : decode cX6_cell 24 = .ok (.iconst 0, 1) := by decide +kernel
theorem dX6_cell_25 : decode cX6_cell 25 = .ok (.ireturn, 1) := by decide +kernel
theorem dX6_cell_26 : decode cX6_cell 26 = .ok (.aload_n 0, 1) := by decide +kernel
theorem dX6_cell_27 : decode cX6_cell 27 = .ok (.getfield 22, 3) := by decide +kernel
theorem dX6_cell_30 : decode cX6_cell 30 = .ok (.iload_n 1, 1) := by decide +kernel
theorem dX6_cell_31 : decode cX6_cell 31 = .ok (.aload_n 0, 1) := by decide +kernel
theorem dX6_cell_32 : decode cX6_cell 32 = .ok (.getfield 13, 3) := by decide +kernel
theorem dX6_cell_35 : decode cX6_cell 35 = .ok (.imul, 1) := by decide +kernel
theorem dX6_cell_36 : decode cX6_cell 36 = .ok (.iload_n 2, 1) := by decide +kernel
theorem dX6_cell_37 : decode cX6_cell 37 = .ok (.iadd, 1) := by decide +kernel
theorem dX6_cell_38 : decode cX6_cell 38 = .ok (.iaload, 1) := by decide +kernel
theorem dX6_cell_39 : decode cX6_cell 39 = .ok (.ireturn, 1) := by decide +kernel
theorem dX6_empty_0 : decode cX6_empty 0 = .ok (.aload_n 0, 1) := by decide +kernel
theorem dX6_empty_1 : decode cX6_empty 1 = .ok (.iconst 0, 1) := by decide +kernel
theorem dX6_empty_2 : decode cX6_empty 2 = .ok (.putfield 26, 3) := by decide +kernel
theorem dX6_empty_5 : decode cX6_empty 5 = .ok (.return_, 1) := by decide +kernel
set_option maxRecDepth 20000 in
theorem ggX6_addThree_X6_isFull : GoodIn wsX6_addThree wsX6_isFull := goodIn_r _ [8, 2, 9, 10, 11, 12, 13] (by decide +kernel) (by decide +kernel)
set_option maxRecDepth 20000 in
theorem gX6_addThree_X6_isFull : GoodIn wsX6_addThree (wsV RX6 29 RX6 yX6_isFull wsX6_isFull) := goodIn_app (goodIn_of _ (by decide +kernel)) ggX6_addThree_X6_isFull
theorem dX6_addThree_0 : decode cX6_addThree 0 = .ok (.aload_n 0, 1) := by decide +kernel
theorem dX6_addThree_1 : decode cX6_addThree 1 = .ok (.invokevirtual 29, 3) := by decide +kernel
theorem dX6_addThree_4 : decode cX6_addThree 4 = .ok (.ifCond .ne 11, 3) := by decide +kernel
theorem dX6_addThree_7 : decode cX6_addThree 7 = .ok (.aload_n 0, 1) := by decide +kernel
theorem dX6_addThree_8 : decode cX6_addThree 8 = .ok (.getfield 13, 3) := by decide +kernel
theorem dX6_addThree_11 : decode cX6_addThree 11 = .ok (.iconst 3, 1) := by decide +kernel
theorem dX6_addThree_12 : decode cX6_addThree 12 = .ok (.if_icmp .ge 4, 3) := by decide +kernel
theorem dX6_addThree_15 : decode cX6_addThree 15 = .ok (.return_, 1) := by decide +kernel
theorem dX6_addThree_16 : decode cX6_addThree 16 = .ok (.aload_n 0, 1) := by decide +kernel
theorem dX6_addThree_17 : decode cX6_addThree 17 = .ok (.getfield 26, 3) := by decide +kernel
theorem dX6_addThree_20 : decode cX6_addThree 20 = .ok (.aload_n 0, 1) := by decide +kernel
theorem dX6_addThree_21 : decode cX6_addThree 21 = .ok (.getfield 13, 3) := by decide +kernel
theorem dX6_addThree_24 : decode cX6_addThree 24 = .ok (.imul, 1) := by decide +kernel
theorem dX6_addThree_25 : decode cX6_addThree 25 = .ok (.istore 4, 2) := by decide +kernel
theorem dX6_addThree_27 : decode cX6_addThree 27 = .ok (.aload_n 0, 1) := by decide +kernel
theorem dX6_addThree_28 : decode cX6_addThree 28 = .ok (.getfield 22, 3) := by decide +kernel
theorem dX6_addThree_31 : decode cX6_addThree 31 = .ok (.iload 4, 2) := by decide +kernel
theorem dX6_addThree_33 : decode cX6_addThree 33 = .ok (.iload_n 1, 1) := by decide +kernel
theorem dX6_addThree_34 : decode cX6_addThree 34 = .ok (.iastore, 1) := by decide +kernel
theorem dX6_addThree_35 : decode cX6_addThree 35 = .ok (.aload_n 0, 1) := by decide +kernel
theorem dX6_addThree_36 : decode cX6_addThree 36 = .ok (.getfield 22, 3) := by decide +kernel
theorem dX6_addThree_39 : decode cX6_addThree 39 = .ok (.iload 4, 2) := by decide +kernel
theorem dX6_addThree_41 : decode cX6_addThree 41 = .ok (.iconst 1, 1) := by decide +kernel
theorem dX6_addThree_42 : decode cX6_addThree 42 = .ok (.iadd, 1) := by decide +kernel
theorem dX6_addThree_43 : decode cX6_addThree 43 = .ok (.iload_n 2, 1) := by decide +kernel
theorem dX6_addThree_44 : decode cX6_addThree 44 = .ok (.iastore, 1) := by decide +kernel
theorem dX6_addThree_45 : decode cX6_addThree 45 = .ok (.aload_n 0, 1) := by decide +kernel
theorem dX6_addThree_46 : decode cX6_addThree 46 = .ok (.getfield 22, 3) := by decide +kernel
theorem dX6_addThree_49 : decode cX6_addThree 49 = .ok (.iload 4, 2) := by decide +kernel
theorem dX6_addThree_51 : decode cX6_addThree 51 = .ok (.iconst 2, 1) := by decide +kernel
theorem dX6_addThree_52 : decode cX6_addThree 52 = .ok (.iadd, 1) := by decide +kernel
theorem dX6_addThree_53 : decode cX6_addThree 53 = .ok (.iload_n 3, 1) := by decide +kernel
theorem dX6_addThree_54 : decode cX6_addThree 54 = .ok (.iastore, 1) := by decide +kernel
theorem dX6_addThree_55 : decode cX6_addThree 55 = .ok (.aload_n 0, 1) := by decide +kernel
theorem dX6_addThree_56 : decode cX6_addThree 56 = .ok (.dup, 1) := by decide +kernel
theorem dX6_addThree_57 : decode cX6_addThree 57 = .ok (.getfield 26, 3) := by decide +kernel
theorem dX6_addThree_60 : decode cX6_addThree 60 = .ok (.iconst 1, 1) := by decide +kernel
theorem dX6_addThree_61 : decode cX6_addThree 61 = .ok (.iadd, 1) := by decide +kernel
theorem dX6_addThree_62 : decode cX6_addThree 62 = .ok (.putfield 26, 3) := by decide +kernel
theorem dX6_addThree_65 : decode cX6_addThree 65 = .ok (.return_, 1) := by decide +kernel
set_option maxRecDepth 20000 in
theorem ggX6_addFive_X6_isFull : GoodIn wsX6_addFive wsX6_isFull := goodIn_r _ [8, 2, 9, 14, 15, 16, 17] (by decide +kernel) (by decide +kernel)
set_option maxRecDepth 20000 in
theorem gX6_addFive_X6_isFull : GoodIn wsX6_addFive (wsV RX6 29 RX6 yX6_isFull wsX6_isFull) := goodIn_app (goodIn_of _ (by decide +kernel)) ggX6_addFive_X6_isFull
set_option maxRecDepth 20000 in
theorem ggX6_addFive_X6_addThree : GoodIn wsX6_addFive wsX6_addThree := goodIn_r _ [13, 1, 2, 3, 4, 5, 6, 7, 8, 9, 14, 15, 16, 17] (by decide +kernel) (by decide +kernel)
set_option maxRecDepth 20000 in
theorem gX6_addFive_X6_addThree : GoodIn wsX6_addFive (wsV RX6 33 RX6 yX6_addThree wsX6_addThree) := goodIn_app (goodIn_of _ (by decide +kernel)) ggX6_addFive_X6_addThree
theorem dX6_addFive_0 : decode cX6_addFive 0 = .ok (.aload_n 0, 1) := by decide +kernel
theorem dX6_addFive_1 : decode cX6_addFive 1 = .ok (.invokevirtual 29, 3) := by decide +kernel
theorem dX6_addFive_4 : decode cX6_addFive 4 = .ok (.ifCond .ne 11, 3) := by decide +kernel
theorem dX6_addFive_7 : decode cX6_addFive 7 = .ok (.aload_n 0, 1) := by decide +kernel
theorem dX6_addFive_8 : decode cX6_addFive 8 = .ok (.getfield 13, 3) := by decide +kernel
theorem dX6_addFive_11 : decode cX6_addFive 11 = .ok (.iconst 5, 1) := by decide +kernel
theorem dX6_addFive_12 : decode cX6_addFive 12 = .ok (.if_icmp .ge 4, 3) := by decide +kernel
theorem dX6_addFive_15 : decode cX6_addFive 15 = .ok (.return_, 1) := by decide +kernel
theorem dX6_addFive_16 : decode cX6_addFive 16 = .ok (.aload_n 0, 1) := by decide +kernel
theorem dX6_addFive_17 : decode cX6_addFive 17 = .ok (.getfield 26, 3) := by decide +kernel
theorem dX6_addFive_20 : decode cX6_addFive 20 = .ok (.aload_n 0, 1) := by decide +kernel
theorem dX6_addFive_21 : decode cX6_addFive 21 = .ok (.getfield 13, 3) := by decide +kernel
theorem dX6_addFive_24 : decode cX6_addFive 24 = .ok (.imul, 1) := by decide +kernel
theorem dX6_addFive_25 : decode cX6_addFive 25 = .ok (.istore 6, 2) := by decide +kernel
theorem dX6_addFive_27 : decode cX6_addFive 27 = .ok (.aload_n 0, 1) := by decide +kernel
theorem dX6_addFive_28 : decode cX6_addFive 28 = .ok (.iload_n 1, 1) := by decide +kernel
theorem dX6_addFive_29 : decode cX6_addFive 29 = .ok (.iload_n 2, 1) := by decide +kernel
theorem dX6_addFive_30 : decode cX6_addFive 30 = .ok (.iload_n 3, 1) := by decide +kernel
theorem dX6_addFive_31 : decode cX6_addFive 31 = .ok (.invokevirtual 33, 3) := by decide +kernel
theorem dX6_addFive_34 : decode cX6_addFive 34 = .ok (.aload_n 0, 1) := by decide +kernel
theorem dX6_addFive_35 : decode cX6_addFive 35 = .ok (.getfield 22, 3) := by decide +kernel
theorem dX6_addFive_38 : decode cX6_addFive 38 = .ok (.iload 6, 2) := by decide +kernel
theorem dX6_addFive_40 : decode cX6_addFive 40 = .ok (.iconst 3, 1) := by decide +kernel
theorem dX6_addFive_41 : decode cX6_addFive 41 = .ok (.iadd, 1) := by decide +kernel
theorem dX6_addFive_42 : decode cX6_addFive 42 = .ok (.iload 4, 2) := by decide +kernel
theorem dX6_addFive_44 : decode cX6_addFive 44 = .ok (.iastore, 1) := by decide +kernel
theorem dX6_addFive_45 : decode cX6_addFive 45 = .ok (.aload_n 0, 1) := by decide +kernel
theorem dX6_addFive_46 : decode cX6_addFive 46 = .ok (.getfield 22, 3) := by decide +kernel
theorem dX6_addFive_49 : decode cX6_addFive 49 = .ok (.iload 6, 2) := by decide +kernel
theorem dX6_addFive_51 : decode cX6_addFive 51 = .ok (.iconst 4, 1) := by decide +kernel
theorem dX6_addFive_52 : decode cX6_addFive 52 = .ok (.iadd, 1) := by decide +kernel
theorem dX6_addFive_53 : decode cX6_addFive 53 = .ok (.iload 5, 2) := by decide +kernel
theorem dX6_addFive_55 : decode cX6_addFive 55 = .ok (.iastore, 1) := by decide +kernel
theorem dX6_addFive_56 : decode cX6_addFive 56 = .ok (.return_, 1) := by decide +kernel
set_option maxRecDepth 20000 in
theorem ggX6_takeOut_X6_has : GoodIn wsX6_takeOut wsX6_has := goodIn_r _ [12, 2, 13, 14, 15, 16] (by decide +kernel) (by decide +kernel)
set_option maxRecDepth 20000 in
theorem gX6_takeOut_X6_has : GoodIn wsX6_takeOut (wsV RX6 37 RX6 yX6_has wsX6_has) := goodIn_app (goodIn_of _ (by decide +kernel)) ggX6_takeOut_X6_has
theorem dX6_takeOut_0 : decode cX6_takeOut 0 = .ok (.aload_n 0, 1) := by decide +kernel
theorem dX6_takeOut_1 : decode cX6_takeOut 1 = .ok (.iload_n 1, 1) := by decide +kernel
theorem dX6_takeOut_2 : decode cX6_takeOut 2 = .ok (.invokevirtual 37, 3) := by decide +kernel
theorem dX6_takeOut_5 : decode cX6_takeOut 5 = .ok (.ifCond .ne 4, 3) := by decide +kernel
theorem dX6_takeOut_8 : decode cX6_takeOut 8 = .ok (.return_, 1) := by decide +kernel
theorem dX6_takeOut_9 : decode cX6_takeOut 9 = .ok (.iload_n 1, 1) := by decide +kernel
theorem dX6_takeOut_10 : decode cX6_takeOut 10 = .ok (.aload_n 0, 1) := by decide +kernel
theorem dX6_takeOut_11 : decode cX6_takeOut 11 = .ok (.getfield 13, 3) := by decide +kernel
theorem dX6_takeOut_14 : decode cX6_takeOut 14 = .ok (.imul, 1) := by decide +kernel
theorem dX6_takeOut_15 : decode cX6_takeOut 15 = .ok (.istore_n 2, 1) := by decide +kernel
theorem dX6_takeOut_16 : decode cX6_takeOut 16 = .ok (.aload_n 0, 1) := by decide +kernel
theorem dX6_takeOut_17 : decode cX6_takeOut 17 = .ok (.getfield 26, 3) := by decide +kernel
theorem dX6_takeOut_20 : decode cX6_takeOut 20 = .ok (.iload_n 1, 1) := by decide +kernel
theorem dX6_takeOut_21 : decode cX6_takeOut 21 = .ok (.isub, 1) := by decide +kernel
theorem dX6_takeOut_22 : decode cX6_takeOut 22 = .ok (.iconst 1, 1) := by decide +kernel
theorem dX6_takeOut_23 : decode cX6_takeOut 23 = .ok (.isub, 1) := by decide +kernel
theorem dX6_takeOut_24 : decode cX6_takeOut 24 = .ok (.aload_n 0, 1) := by decide +kernel
theorem dX6_takeOut_25 : decode cX6_takeOut 25 = .ok (.getfield 13, 3) := by decide +kernel
theorem dX6_takeOut_28 : decode cX6_takeOut 28 = .ok (.imul, 1) := by decide +kernel
theorem dX6_takeOut_29 : decode cX6_takeOut 29 = .ok (.istore_n 3, 1) := by decide +kernel
theorem dX6_takeOut_30 : decode cX6_takeOut 30 = .ok (.iload_n 3, 1) := by decide +kernel
theorem dX6_takeOut_31 : decode cX6_takeOut 31 = .ok (.ifCond .le 22, 3) := by decide +kernel
theorem dX6_takeOut_34 : decode cX6_takeOut 34 = .ok (.aload_n 0, 1) := by decide +kernel
theorem dX6_takeOut_35 : decode cX6_takeOut 35 = .ok (.getfield 22, 3) := by decide +kernel
theorem dX6_takeOut_38 : decode cX6_takeOut 38 = .ok (.iload_n 2, 1) := by decide +kernel
theorem dX6_takeOut_39 : decode cX6_takeOut 39 = .ok (.aload_n 0, 1) := by decide +kernel
theorem dX6_takeOut_40 : decode cX6_takeOut 40 = .ok (.getfield 13, 3) := by decide +kernel
theorem dX6_takeOut_43 : decode cX6_takeOut 43 = .ok (.iadd, 1) := by decide +kernel
theorem dX6_takeOut_44 : decode cX6_takeOut 44 = .ok (.aload_n 0, 1) := by decide +kernel
theorem dX6_takeOut_45 : decode cX6_takeOut 45 = .ok (.getfield 22, 3) := by decide +kernel
theorem dX6_takeOut_48 : decode cX6_takeOut 48 = .ok (.iload_n 2, 1) := by decide +kernel
theorem dX6_takeOut_49 : decode cX6_takeOut 49 = .ok (.iload_n 3, 1) := by decide +kernel
theorem dX6_takeOut_50 : decode cX6_takeOut 50 = .ok (.invokestatic 41, 3) := by decide +kernel
theorem dX6_takeOut_53 : decode cX6_takeOut 53 = .ok (.aload_n 0, 1) := by decide +kernel
theorem dX6_takeOut_54 : decode cX6_takeOut 54 = .ok (.dup, 1) := by decide +kernel
theorem dX6_takeOut_55 : decode cX6_takeOut 55 = .ok (.getfield 26, 3) := by decide +kernel
theorem dX6_takeOut_58 : decode cX6_takeOut 58 = .ok (.iconst 1, 1) := by decide +kernel
theorem dX6_takeOut_59 : decode cX6_takeOut 59 = .ok (.isub, 1) := by decide +kernel
theorem dX6_takeOut_60 : decode cX6_takeOut 60 = .ok (.putfield 26, 3) := by decide +kernel
theorem dX6_takeOut_63 : decode cX6_takeOut 63 = .ok (.return_, 1) := by decide +kernel
theorem dX6_takeOver_0 : decode cX6_takeOver 0 = .ok (.aload_n 1, 1) := by decide +kernel
theorem dX6_takeOver_1 : decode cX6_takeOver 1 = .ok (.getfield 22, 3) := by decide +kernel
theorem dX6_takeOver_4 : decode cX6_takeOver 4 = .ok (.arraylength, 1) := by decide +kernel
theorem dX6_takeOver_5 : decode cX6_takeOver 5 = .ok (.aload_n 0, 1) := by decide +kernel
theorem dX6_takeOver_6 : decode cX6_takeOver 6 = .ok (.getfield 22, 3) := by decide +kernel
theorem dX6_takeOver_9 : decode cX6_takeOver 9 = .ok (.arraylength, 1) := by decide +kernel
theorem dX6_takeOver_10 : decode cX6_takeOver 10 = .ok (.if_icmp .eq 4, 3) := by decide +kernel
theorem dX6_takeOver_13 : decode cX6_takeOver 13 = .ok (.return_, 1) := by decide +kernel
theorem dX6_takeOver_14 : decode cX6_takeOver 14 = .ok (.aload_n 1, 1) := by decide +kernel
theorem dX6_takeOver_15 : decode cX6_takeOver 15 = .ok (.getfield 22, 3) := by decide +kernel
theorem dX6_takeOver_18 : decode cX6_takeOver 18 = .ok (.iconst 0, 1) := by decide +kernel
theorem dX6_takeOver_19 : decode cX6_takeOver 19 = .ok (.aload_n 0, 1) := by decide +kernel
theorem dX6_takeOver_20 : decode cX6_takeOver 20 = .ok (.getfield 22, 3) := by decide +kernel
theorem dX6_takeOver_23 : decode cX6_takeOver 23 = .ok (.iconst 0, 1) := by decide +kernel
theorem dX6_takeOver_24 : decode cX6_takeOver 24 = .ok (.aload_n 0, 1) := by decide +kernel
theorem dX6_takeOver_25 : decode cX6_takeOver 25 = .ok (.getfield 22, 3) := by decide +kernel
theorem dX6_takeOver_28 : decode cX6_takeOver 28 = .ok (.arraylength, 1) := by decide +kernel
theorem dX6_takeOver_29 : decode cX6_takeOver 29 = .ok (.invokestatic 41, 3) := by decide +kernel
theorem dX6_takeOver_32 : decode cX6_takeOver 32 = .ok (.aload_n 0, 1) := by decide +kernel
theorem dX6_takeOver_33 : decode cX6_takeOver 33 = .ok (.aload_n 1, 1) := by decide +kernel
theorem dX6_takeOver_34 : decode cX6_takeOver 34 = .ok (.getfield 26, 3) := by decide +kernel
theorem dX6_takeOver_37 : decode cX6_takeOver 37 = .ok (.putfield 26, 3) := by decide +kernel
theorem dX6_takeOver_40 : decode cX6_takeOver 40 = .ok (.return_, 1) := by decide +kernel
theorem dX6_mixInto_0 : decode cX6_mixInto 0 = .ok (.lload_n 1, 1) := by decide +kernel
theorem dX6_mixInto_1 : decode cX6_mixInto 1 = .ok (.lstore_n 3, 1) := by decide +kernel
theorem dX6_mixInto_2 : decode cX6_mixInto 2 = .ok (.iconst 0, 1) := by decide +kernel
theorem dX6_mixInto_3 : decode cX6_mixInto 3 = .ok (.istore 5, 2) := by decide +kernel
theorem dX6_mixInto_5 : decode cX6_mixInto 5 = .ok (.iload 5, 2) := by decide +kernel
theorem dX6_mixInto_7 : decode cX6_mixInto 7 = .ok (.aload_n 0, 1) := by decide +kernel
theorem dX6_mixInto_8 : decode cX6_mixInto 8 = .ok (.getfield 26, 3) := by decide +kernel
theorem dX6_mixInto_11 : decode cX6_mixInto 11 = .ok (.aload_n 0, 1) := by decide +kernel
theorem dX6_mixInto_12 : decode cX6_mixInto 12 = .ok (.getfield 13, 3) := by decide +kernel
theorem dX6_mixInto_15 : decode cX6_mixInto 15 = .ok (.imul, 1) := by decide +kernel
theorem dX6_mixInto_16 : decode cX6_mixInto 16 = .ok (.if_icmp .ge 34, 3) := by decide +kernel
theorem dX6_mixInto_19 : decode cX6_mixInto 19 = .ok (.iload 5, 2) := by decide +kernel
theorem dX6_mixInto_21 : decode cX6_mixInto 21 = .ok (.aload_n 0, 1) := by decide +kernel
theorem dX6_mixInto_22 : decode cX6_mixInto 22 = .ok (.getfield 22, 3) := by decide +kernel
theorem dX6_mixInto_25 : decode cX6_mixInto 25 = .ok (.arraylength, 1) := by decide +kernel
theorem dX6_mixInto_26 : decode cX6_mixInto 26 = .ok (.if_icmp .ge 24, 3) := by decide +kernel
theorem dX6_mixInto_29 : decode cX6_mixInto 29 = .ok (.ldc2_w 47, 3) := by decide +kernel
theorem dX6_mixInto_32 : decode cX6_mixInto 32 = .ok (.lload_n 3, 1) := by decide +kernel
theorem dX6_mixInto_33 : decode cX6_mixInto 33 = .ok (.lmul, 1) := by decide +kernel
theorem dX6_mixInto_34 : decode cX6_mixInto 34 = .ok (.aload_n 0, 1) := by decide +kernel
theorem dX6_mixInto_35 : decode cX6_mixInto 35 = .ok (.getfield 22, 3) := by decide +kernel
theorem dX6_mixInto_38 : decode cX6_mixInto 38 = .ok (.iload 5, 2) := by decide +kernel
theorem dX6_mixInto_40 : decode cX6_mixInto 40 = .ok (.iaload, 1) := by decide +kernel
theorem dX6_mixInto_41 : decode cX6_mixInto 41 = .ok (.i2l, 1) := by decide +kernel
theorem dX6_mixInto_42 : decode cX6_mixInto 42 = .ok (.ladd, 1) := by decide +kernel
theorem dX6_mixInto_43 : decode cX6_mixInto 43 = .ok (.lstore_n 3, 1) := by decide +kernel
theorem dX6_mixInto_44 : decode cX6_mixInto 44 = .ok (.iinc 5 1, 3) := by decide +kernel
theorem dX6_mixInto_47 : decode cX6_mixInto 47 = .ok (.goto (-42), 3) := by decide +kernel
theorem dX6_mixInto_50 : decode cX6_mixInto 50 = .ok (.lload_n 3, 1) := by decide +kernel
theorem dX6_mixInto_51 : decode cX6_mixInto 51 = .ok (.lreturn, 1) := by decide +kernel
set_option maxRecDepth 20000 in
theorem ggX7_init_X5_init : GoodIn wsX7_init wsX5_init := goodIn_r _ [33, 34, 2, 3, 35, 36, 37, 38, 39, 40, 41, 42, 43, 44, 45, 46, 47, 48, 49, 50, 51, 52, 53, 54, 55, 128, 129, 130, 131, 85, 86, 87, 88, 89, 90, 91] (by decide +kernel) (by decide +kernel)
set_option maxRecDepth 20000 in
theorem gX7_init_X5_init_n11 : GoodIn wsX7_init (wsX5_init) := ggX7_init_X5_init
set_option maxRecDepth 20000 in
theorem ggX7_init_X2_init : GoodIn wsX7_init wsX2_init := goodIn_r _ [57, 58, 2, 3, 10, 59, 60, 61, 62, 104, 105, 106, 107] (by decide +kernel) (by decide +kernel)
set_option maxRecDepth 20000 in
theorem gX7_init_X2_init_n29 : GoodIn wsX7_init (wsX2_init) := ggX7_init_X2_init
set_option maxRecDepth 20000 in
theorem ggX7_init_X1_init : GoodIn wsX7_init wsX1_init := goodIn_r _ [64, 65, 2, 3, 10, 66, 42, 67, 68, 69, 108, 109, 110, 111, 112, 113, 114, 115, 116] (by decide +kernel) (by decide +kernel)
set_option maxRecDepth 20000 in
theorem gX7_init_X1_init_n36 : GoodIn wsX7_init (wsX1_init) := ggX7_init_X1_init
set_option maxRecDepth 20000 in
theorem ggX7_init_X4_init : GoodIn wsX7_init wsX4_init := goodIn_r _ [71, 72, 2, 3, 42, 73, 117, 118, 119] (by decide +kernel) (by decide +kernel)
set_option maxRecDepth 20000 in
theorem gX7_init_X4_init_n43 : GoodIn wsX7_init (wsX4_init) := ggX7_init_X4_init
set_option maxRecDepth 20000 in
theorem ggX7_init_X3_init : GoodIn wsX7_init wsX3_init := goodIn_r _ [75, 76, 2, 3, 77, 78, 42, 79, 120, 121, 122, 123, 124, 125] (by decide +kernel) (by decide +kernel)
set_option maxRecDepth 20000 in
theorem gX7_init_X3_init_n50 : GoodIn wsX7_init (wsX3_init) := ggX7_init_X3_init
set_option maxRecDepth 20000 in
theorem ggX7_init_X0_init : GoodIn wsX7_init wsX0_init := goodIn_r _ [81, 82, 2, 3, 83, 84, 126, 127] (by decide +kernel) (by decide +kernel)
set_option maxRecDepth 20000 in
theorem gX7_init_X0_init_n57 : GoodIn wsX7_init (wsX0_init) := ggX7_init_X0_init
theorem dX7_init_0 : decode cX7_init 0 = .ok (.aload_n 0, 1) := by decide +kernel
theorem dX7_init_1 : decode cX7_init 1 = .ok (.invokespecial 3, 3) := by decide +kernel
theorem dX7_init_4 : decode cX7_init 4 = .ok (.aload_n 0, 1) := by decide +kernel
theorem dX7_init_5 : decode cX7_init 5 = .ok (.new 9, 3) := by decide +kernel
theorem dX7_init_8 : decode cX7_init 8 = .ok (.dup, 1) := by decide +kernel
theorem dX7_init_9 : decode cX7_init 9 = .ok (.invokespecial 11, 3) := by decide +kernel
theorem dX7_init_12 : decode cX7_init 12 = .ok (.putfield 12, 3) := by decide +kernel
theorem dX7_init_15 : decode cX7_init 15 = .ok (.aload_n 0, 1) := by decide +kernel
theorem dX7_init_16 : decode cX7_init 16 = .ok (.new 9, 3) := by decide +kernel
theorem dX7_init_19 : decode cX7_init 19 = .ok (.dup, 1) := by decide +kernel
theorem dX7_init_20 : decode cX7_init 20 = .ok (.invokespecial 11, 3) := by decide +kernel
theorem dX7_init_23 : decode cX7_init 23 = .ok (.putfield 16, 3) := by decide +kernel
theorem dX7_init_26 : decode cX7_init 26 = .ok (.aload_n 0, 1) := by decide +kernel
theorem dX7_init_27 : decode cX7_init 27 = .ok (.iconst 2, 1) := by decide +kernel
theorem dX7_init_28 : decode cX7_init 28 = .ok (.anewarray 9, 3) := by decide +kernel
theorem dX7_init_31 : decode cX7_init 31 = .ok (.dup, 1) := by decide +kernel
theorem dX7_init_32 : decode cX7_init 32 = .ok (.iconst 0, 1) := by decide +kernel
theorem dX7_init_33 : decode cX7_init 33 = .ok (.new 9, 3) := by decide +kernel
theorem dX7_init_36 : decode cX7_init 36 = .ok (.dup, 1) := by decide +kernel
theorem dX7_init_37 : decode cX7_init 37 = .ok (.invokespecial 11, 3) := by decide +kernel
theorem dX7_init_40 : decode cX7_init 40 = .ok (.aastore, 1) := by decide +kernel
theorem dX7_init_41 : decode cX7_init 41 = .ok (.dup, 1) := by decide +kernel
theorem dX7_init_42 : decode cX7_init 42 = .ok (.iconst 1, 1) := by decide +kernel
theorem dX7_init_43 : decode cX7_init 43 = .ok (.new 9, 3) := by decide +kernel
theorem dX7_init_46 : decode cX7_init 46 = .ok (.dup, 1) := by decide +kernel
theorem dX7_init_47 : decode cX7_init 47 = .ok (.invokespecial 11, 3) := by decide +kernel
theorem dX7_init_50 : decode cX7_init 50 = .ok (.aastore, 1) := by decide +kernel
theorem dX7_init_51 : decode cX7_init 51 = .ok (.putfield 19, 3) := by decide +kernel
theorem dX7_init_54 : decode cX7_init 54 = .ok (.aload_n 0, 1) := by decide +kernel
theorem dX7_init_55 : decode cX7_init 55 = .ok (.iconst 2, 1) := by decide +kernel
theorem dX7_init_56 : decode cX7_init 56 = .ok (.newarray .boolean, 2) := by decide +kernel
theorem dX7_init_58 : decode cX7_init 58 = .ok (.putfield 23, 3) := by decide +kernel
theorem dX7_init_61 : decode cX7_init 61 = .ok (.aload_n 0, 1) := by decide +kernel
theorem dX7_init_62 : decode cX7_init 62 = .ok (.new 27, 3) := by decide +kernel
theorem dX7_init_65 : decode cX7_init 65 = .ok (.dup, 1) := by decide +kernel
theorem dX7_init_66 : decode cX7_init 66 = .ok (.invokespecial 29, 3) := by decide +kernel
theorem dX7_init_69 : decode cX7_init 69 = .ok (.putfield 30, 3) := by decide +kernel
theorem dX7_init_72 : decode cX7_init 72 = .ok (.aload_n 0, 1) := by decide +kernel
theorem dX7_init_73 : decode cX7_init 73 = .ok (.new 34, 3) := by decide +kernel
theorem dX7_init_76 : decode cX7_init 76 = .ok (.dup, 1) := by decide +kernel
theorem dX7_init_77 : decode cX7_init 77 = .ok (.invokespecial 36, 3) := by decide +kernel
theorem dX7_init_80 : decode cX7_init 80 = .ok (.putfield 37, 3) := by decide +kernel
theorem dX7_init_83 : decode cX7_init 83 = .ok (.aload_n 0, 1) := by decide +kernel
theorem dX7_init_84 : decode cX7_init 84 = .ok (.new 41, 3) := by decide +kernel
theorem dX7_init_87 : decode cX7_init 87 = .ok (.dup, 1) := by decide +kernel
theorem dX7_init_88 : decode cX7_init 88 = .ok (.invokespecial 43, 3) := by decide +kernel
theorem dX7_init_91 : decode cX7_init 91 = .ok (.putfield 44, 3) := by decide +kernel
theorem dX7_init_94 : decode cX7_init 94 = .ok (.aload_n 0, 1) := by decide +kernel
theorem dX7_init_95 : decode cX7_init 95 = .ok (.new 48, 3) := by decide +kernel
theorem dX7_init_98 : decode cX7_init 98 = .ok (.dup, 1) := by decide +kernel
theorem dX7_init_99 : decode cX7_init 99 = .ok (.invokespecial 50, 3) := by decide +kernel
theorem dX7_init_102 : decode cX7_init 102 = .ok (.putfield 51, 3) := by decide +kernel
theorem dX7_init_105 : decode cX7_init 105 = .ok (.aload_n 0, 1) := by decide +kernel
theorem dX7_init_106 : decode cX7_init 106 = .ok (.new 55, 3) := by decide +kernel
theorem dX7_init_109 : decode cX7_init 109 = .ok (.dup, 1) := by decide +kernel
theorem dX7_init_110 : decode cX7_init 110 = .ok (.invokespecial 57, 3) := by decide +kernel
theorem dX7_init_113 : decode cX7_init 113 = .ok (.putfield 58, 3) := by decide +kernel
theorem dX7_init_116 : decode cX7_init 116 = .ok (.return_, 1) := by decide +kernel
set_option maxRecDepth 20000 in
theorem ggX7_past_X5_empty : GoodIn wsX7_past wsX5_empty := goodIn_r _ [10, 11, 12, 13, 14, 15, 16, 17, 18, 19, 20, 21, 34, 35, 36, 37, 38, 39, 40, 41, 42, 43, 44] (by decide +kernel) (by decide +kernel)
set_option maxRecDepth 20000 in
theorem gX7_past_X5_empty : GoodIn wsX7_past (wsV RX7 72 RX5 yX5_empty wsX5_empty) := goodIn_app (goodIn_of _ (by decide +kernel)) ggX7_past_X5_empty
theorem dX7_past_0 : decode cX7_past 0 = .ok (.aload_n 0, 1) := by decide +kernel
theorem dX7_past_1 : decode cX7_past 1 = .ok (.getfield 12, 3) := by decide +kernel
theorem dX7_past_4 : decode cX7_past 4 = .ok (.getfield 62, 3) := by decide +kernel
theorem dX7_past_7 : decode cX7_past 7 = .ok (.getfield 66, 3) := by decide +kernel
theorem dX7_past_10 : decode cX7_past 10 = .ok (.istore_n 1, 1) := by decide +kernel
theorem dX7_past_11 : decode cX7_past 11 = .ok (.aload_n 0, 1) := by decide +kernel
theorem dX7_past_12 : decode cX7_past 12 = .ok (.getfield 12, 3) := by decide +kernel
theorem dX7_past_15 : decode cX7_past 15 = .ok (.invokevirtual 72, 3) := by decide +kernel
theorem dX7_past_18 : decode cX7_past 18 = .ok (.aload_n 0, 1) := by decide +kernel
theorem dX7_past_19 : decode cX7_past 19 = .ok (.getfield 30, 3) := by decide +kernel
theorem dX7_past_22 : decode cX7_past 22 = .ok (.iconst 1, 1) := by decide +kernel
theorem dX7_past_23 : decode cX7_past 23 = .ok (.putfield 75, 3) := by decide +kernel
theorem dX7_past_26 : decode cX7_past 26 = .ok (.iload_n 1, 1) := by decide +kernel
theorem dX7_past_27 : decode cX7_past 27 = .ok (.ireturn, 1) := by decide +kernel
set_option maxRecDepth 20000 in
theorem ggX7_rule_X7_isWithin : GoodIn wsX7_rule wsX7_isWithin := goodIn_r _ [9] (by decide +kernel) (by decide +kernel)
set_option maxRecDepth 20000 in
theorem gX7_rule_X7_isWithin : GoodIn wsX7_rule (va_wsS RX7 79 yX7_isWithin wsX7_isWithin) := goodIn_app (goodIn_of _ (by decide +kernel)) ggX7_rule_X7_isWithin
set_option maxRecDepth 20000 in
theorem ggX7_rule_X7_isFact : GoodIn wsX7_rule wsX7_isFact := goodIn_r _ [12, 6, 7, 8, 9] (by decide +kernel) (by decide +kernel)
set_option maxRecDepth 20000 in
theorem gX7_rule_X7_isFact : GoodIn wsX7_rule (va_wsS RX7 83 yX7_isFact wsX7_isFact) := goodIn_app (goodIn_of _ (by decide +kernel)) ggX7_rule_X7_isFact
set_option maxRecDepth 20000 in
theorem ggX7_rule_X7_asBad : GoodIn wsX7_rule wsX7_asBad := goodIn_r _ [16, 17, 43, 44, 45, 46, 47, 48, 49, 50, 51, 52, 53, 54] (by decide +kernel) (by decide +kernel)
set_option maxRecDepth 20000 in
theorem gX7_rule_X7_asBad : GoodIn wsX7_rule (wsV RX7 87 RX7 yX7_asBad wsX7_asBad) := goodIn_app (goodIn_of _ (by decide +kernel)) ggX7_rule_X7_asBad
set_option maxRecDepth 20000 in
theorem ggX7_rule_X6_isFull : GoodIn wsX7_rule wsX6_isFull := goodIn_r _ [22, 23, 24, 66, 67, 68, 69] (by decide +kernel) (by decide +kernel)
set_option maxRecDepth 20000 in
theorem gX7_rule_X6_isFull : GoodIn wsX7_rule (wsV RX7 94 RX6 yX6_isFull wsX6_isFull) := goodIn_app (goodIn_of _ (by decide +kernel)) ggX7_rule_X6_isFull
set_option maxRecDepth 20000 in
theorem ggX7_rule_X7_asFull : GoodIn wsX7_rule wsX7_asFull := goodIn_r _ [28, 29, 43, 44, 45, 46, 47, 48, 49, 50, 51, 52, 53, 54] (by decide +kernel) (by decide +kernel)
set_option maxRecDepth 20000 in
theorem gX7_rule_X7_asFull : GoodIn wsX7_rule (wsV RX7 98 RX7 yX7_asFull wsX7_asFull) := goodIn_app (goodIn_of _ (by decide +kernel)) ggX7_rule_X7_asFull
set_option maxRecDepth 20000 in
theorem ggX7_rule_X6_addThree : GoodIn wsX7_rule wsX6_addThree := goodIn_r _ [33, 34, 23, 35, 36, 19, 20, 21, 22, 24, 66, 67, 68, 69] (by decide +kernel) (by decide +kernel)
set_option maxRecDepth 20000 in
theorem gX7_rule_X6_addThree : GoodIn wsX7_rule (wsV RX7 102 RX6 yX6_addThree wsX6_addThree) := goodIn_app (goodIn_of _ (by decide +kernel)) ggX7_rule_X6_addThree
set_option maxRecDepth 20000 in
theorem ggX7_rule_X5_loseSteps : GoodIn wsX7_rule wsX5_loseSteps := goodIn_r _ [41, 42, 55, 56, 57, 58, 59, 60, 61] (by decide +kernel) (by decide +kernel)
set_option maxRecDepth 20000 in
theorem gX7_rule_X5_loseSteps : GoodIn wsX7_rule (wsV RX7 106 RX5 yX5_loseSteps wsX5_loseSteps) := goodIn_app (goodIn_of _ (by decide +kernel)) ggX7_rule_X5_loseSteps
theorem dX7_rule_0 : decode cX7_rule 0 = .ok (.iload_n 1, 1) := by decide +kernel
theorem dX7_rule_1 : decode cX7_rule 1 = .ok (.iconst 0, 1) := by decide +kernel
theorem dX7_rule_2 : decode cX7_rule 2 = .ok (.iconst 3, 1) := by decide +kernel
theorem dX7_rule_3 : decode cX7_rule 3 = .ok (.invokestatic 79, 3) := by decide +kernel
theorem dX7_rule_6 : decode cX7_rule 6 = .ok (.ifCond .eq 17, 3) := by decide +kernel
theorem dX7_rule_9 : decode cX7_rule 9 = .ok (.iload_n 2, 1) := by decide +kernel
theorem dX7_rule_10 : decode cX7_rule 10 = .ok (.invokestatic 83, 3) := by decide +kernel
theorem dX7_rule_13 : decode cX7_rule 13 = .ok (.ifCond .eq 10, 3) := by decide +kernel
theorem dX7_rule_16 : decode cX7_rule 16 = .ok (.iload_n 3, 1) := by decide +kernel
theorem dX7_rule_17 : decode cX7_rule 17 = .ok (.invokestatic 83, 3) := by decide +kernel
theorem dX7_rule_20 : decode cX7_rule 20 = .ok (.ifCond .ne 10, 3) := by decide +kernel
theorem dX7_rule_23 : decode cX7_rule 23 = .ok (.aload_n 0, 1) := by decide +kernel
theorem dX7_rule_24 : decode cX7_rule 24 = .ok (.bipush (-2), 2) := by decide +kernel
theorem dX7_rule_26 : decode cX7_rule 26 = .ok (.invokevirtual 87, 3) := by decide +kernel
theorem dX7_rule_29 : decode cX7_rule 29 = .ok (.ireturn, 1) := by decide +kernel
theorem dX7_rule_30 : decode cX7_rule 30 = .ok (.aload_n 0, 1) := by decide +kernel
theorem dX7_rule_31 : decode cX7_rule 31 = .ok (.getfield 12, 3) := by decide +kernel
theorem dX7_rule_34 : decode cX7_rule 34 = .ok (.getfield 91, 3) := by decide +kernel
theorem dX7_rule_37 : decode cX7_rule 37 = .ok (.invokevirtual 94, 3) := by decide +kernel
theorem dX7_rule_40 : decode cX7_rule 40 = .ok (.ifCond .eq 8, 3) := by decide +kernel
theorem dX7_rule_43 : decode cX7_rule 43 = .ok (.aload_n 0, 1) := by decide +kernel
theorem dX7_rule_44 : decode cX7_rule 44 = .ok (.invokevirtual 98, 3) := by decide +kernel
theorem dX7_rule_47 : decode cX7_rule 47 = .ok (.ireturn, 1) := by decide +kernel
theorem dX7_rule_48 : decode cX7_rule 48 = .ok (.aload_n 0, 1) := by decide +kernel
theorem dX7_rule_49 : decode cX7_rule 49 = .ok (.getfield 12, 3) := by decide +kernel
theorem dX7_rule_52 : decode cX7_rule 52 = .ok (.getfield 91, 3) := by decide +kernel
theorem dX7_rule_55 : decode cX7_rule 55 = .ok (.iload_n 1, 1) := by decide +kernel
theorem dX7_rule_56 : decode cX7_rule 56 = .ok (.iload_n 2, 1) := by decide +kernel
theorem dX7_rule_57 : decode cX7_rule 57 = .ok (.iload_n 3, 1) := by decide +kernel
theorem dX7_rule_58 : decode cX7_rule 58 = .ok (.invokevirtual 102, 3) := by decide +kernel
theorem dX7_rule_61 : decode cX7_rule 61 = .ok (.aload_n 0, 1) := by decide +kernel
theorem dX7_rule_62 : decode cX7_rule 62 = .ok (.getfield 12, 3) := by decide +kernel
theorem dX7_rule_65 : decode cX7_rule 65 = .ok (.invokevirtual 106, 3) := by decide +kernel
theorem dX7_rule_68 : decode cX7_rule 68 = .ok (.aload_n 0, 1) := by decide +kernel
theorem dX7_rule_69 : decode cX7_rule 69 = .ok (.getfield 30, 3) := by decide +kernel
theorem dX7_rule_72 : decode cX7_rule 72 = .ok (.iconst 1, 1) := by decide +kernel
theorem dX7_rule_73 : decode cX7_rule 73 = .ok (.putfield 75, 3) := by decide +kernel
theorem dX7_rule_76 : decode cX7_rule 76 = .ok (.aload_n 0, 1) := by decide +kernel
theorem dX7_rule_77 : decode cX7_rule 77 = .ok (.getfield 12, 3) := by decide +kernel
theorem dX7_rule_80 : decode cX7_rule 80 = .ok (.getfield 91, 3) := by decide +kernel
theorem dX7_rule_83 : decode cX7_rule 83 = .ok (.getfield 66, 3) := by decide +kernel
theorem dX7_rule_86 : decode cX7_rule 86 = .ok (.iconst 1, 1) := by decide +kernel
theorem dX7_rule_87 : decode cX7_rule 87 = .ok (.isub, 1) := by decide +kernel
theorem dX7_rule_88 : decode cX7_rule 88 = .ok (.ireturn, 1) := by decide +kernel
set_option maxRecDepth 20000 in
theorem ggX7_find_X7_isFind : GoodIn wsX7_find wsX7_isFind := goodIn_r _ [9, 10, 11, 8, 12, 13, 14, 15] (by decide +kernel) (by decide +kernel)
set_option maxRecDepth 20000 in
theorem gX7_find_X7_isFind : GoodIn wsX7_find (va_wsS RX7 109 yX7_isFind wsX7_isFind) := goodIn_app (goodIn_of _ (by decide +kernel)) ggX7_find_X7_isFind
set_option maxRecDepth 20000 in
theorem ggX7_find_X7_asBad : GoodIn wsX7_find wsX7_asBad := goodIn_r _ [19, 20, 55, 56, 57, 58, 59, 60, 61, 62, 63, 64, 65, 66] (by decide +kernel) (by decide +kernel)
set_option maxRecDepth 20000 in
theorem gX7_find_X7_asBad : GoodIn wsX7_find (wsV RX7 87 RX7 yX7_asBad wsX7_asBad) := goodIn_app (goodIn_of _ (by decide +kernel)) ggX7_find_X7_asBad
set_option maxRecDepth 20000 in
theorem ggX7_find_X6_isFull : GoodIn wsX7_find wsX6_isFull := goodIn_r _ [25, 26, 27, 78, 79, 80, 81] (by decide +kernel) (by decide +kernel)
set_option maxRecDepth 20000 in
theorem gX7_find_X6_isFull : GoodIn wsX7_find (wsV RX7 94 RX6 yX6_isFull wsX6_isFull) := goodIn_app (goodIn_of _ (by decide +kernel)) ggX7_find_X6_isFull
set_option maxRecDepth 20000 in
theorem ggX7_find_X7_asFull : GoodIn wsX7_find wsX7_asFull := goodIn_r _ [31, 32, 55, 56, 57, 58, 59, 60, 61, 62, 63, 64, 65, 66] (by decide +kernel) (by decide +kernel)
set_option maxRecDepth 20000 in
theorem gX7_find_X7_asFull : GoodIn wsX7_find (wsV RX7 98 RX7 yX7_asFull wsX7_asFull) := goodIn_app (goodIn_of _ (by decide +kernel)) ggX7_find_X7_asFull
set_option maxRecDepth 20000 in
theorem ggX7_find_X5_keepStep : GoodIn wsX7_find wsX5_keepStep := goodIn_r _ [37, 38, 39, 40, 41, 42, 43, 44, 45, 46, 47, 67, 68, 69, 70, 71, 72, 73, 78, 79, 80, 81] (by decide +kernel) (by decide +kernel)
set_option maxRecDepth 20000 in
theorem gX7_find_X5_keepStep : GoodIn wsX7_find (wsV RX7 112 RX5 yX5_keepStep wsX5_keepStep) := goodIn_app (goodIn_of _ (by decide +kernel)) ggX7_find_X5_keepStep
set_option maxRecDepth 20000 in
theorem ggX7_find_X6_addThree : GoodIn wsX7_find wsX6_addThree := goodIn_r _ [51, 52, 26, 53, 54, 22, 23, 24, 25, 27, 78, 79, 80, 81] (by decide +kernel) (by decide +kernel)
set_option maxRecDepth 20000 in
theorem gX7_find_X6_addThree : GoodIn wsX7_find (wsV RX7 102 RX6 yX6_addThree wsX6_addThree) := goodIn_app (goodIn_of _ (by decide +kernel)) ggX7_find_X6_addThree
theorem dX7_find_0 : decode cX7_find 0 = .ok (.iload_n 1, 1) := by decide +kernel
theorem dX7_find_1 : decode cX7_find 1 = .ok (.iload_n 2, 1) := by decide +kernel
theorem dX7_find_2 : decode cX7_find 2 = .ok (.iload_n 3, 1) := by decide +kernel
theorem dX7_find_3 : decode cX7_find 3 = .ok (.invokestatic 109, 3) := by decide +kernel
theorem dX7_find_6 : decode cX7_find 6 = .ok (.ifCond .ne 10, 3) := by decide +kernel
theorem dX7_find_9 : decode cX7_find 9 = .ok (.aload_n 0, 1) := by decide +kernel
theorem dX7_find_10 : decode cX7_find 10 = .ok (.bipush (-2), 2) := by decide +kernel
theorem dX7_find_12 : decode cX7_find 12 = .ok (.invokevirtual 87, 3) := by decide +kernel
theorem dX7_find_15 : decode cX7_find 15 = .ok (.ireturn, 1) := by decide +kernel
theorem dX7_find_16 : decode cX7_find 16 = .ok (.aload_n 0, 1) := by decide +kernel
theorem dX7_find_17 : decode cX7_find 17 = .ok (.getfield 12, 3) := by decide +kernel
theorem dX7_find_20 : decode cX7_find 20 = .ok (.getfield 62, 3) := by decide +kernel
theorem dX7_find_23 : decode cX7_find 23 = .ok (.invokevirtual 94, 3) := by decide +kernel
theorem dX7_find_26 : decode cX7_find 26 = .ok (.ifCond .eq 8, 3) := by decide +kernel
theorem dX7_find_29 : decode cX7_find 29 = .ok (.aload_n 0, 1) := by decide +kernel
theorem dX7_find_30 : decode cX7_find 30 = .ok (.invokevirtual 98, 3) := by decide +kernel
theorem dX7_find_33 : decode cX7_find 33 = .ok (.ireturn, 1) := by decide +kernel
theorem dX7_find_34 : decode cX7_find 34 = .ok (.aload_n 0, 1) := by decide +kernel
theorem dX7_find_35 : decode cX7_find 35 = .ok (.getfield 12, 3) := by decide +kernel
theorem dX7_find_38 : decode cX7_find 38 = .ok (.invokevirtual 112, 3) := by decide +kernel
theorem dX7_find_41 : decode cX7_find 41 = .ok (.aload_n 0, 1) := by decide +kernel
theorem dX7_find_42 : decode cX7_find 42 = .ok (.getfield 12, 3) := by decide +kernel
theorem dX7_find_45 : decode cX7_find 45 = .ok (.getfield 62, 3) := by decide +kernel
theorem dX7_find_48 : decode cX7_find 48 = .ok (.iload_n 1, 1) := by decide +kernel
theorem dX7_find_49 : decode cX7_find 49 = .ok (.iload_n 2, 1) := by decide +kernel
theorem dX7_find_50 : decode cX7_find 50 = .ok (.iload_n 3, 1) := by decide +kernel
theorem dX7_find_51 : decode cX7_find 51 = .ok (.invokevirtual 102, 3) := by decide +kernel
theorem dX7_find_54 : decode cX7_find 54 = .ok (.aload_n 0, 1) := by decide +kernel
theorem dX7_find_55 : decode cX7_find 55 = .ok (.getfield 30, 3) := by decide +kernel
theorem dX7_find_58 : decode cX7_find 58 = .ok (.iconst 1, 1) := by decide +kernel
theorem dX7_find_59 : decode cX7_find 59 = .ok (.putfield 75, 3) := by decide +kernel
theorem dX7_find_62 : decode cX7_find 62 = .ok (.aload_n 0, 1) := by decide +kernel
theorem dX7_find_63 : decode cX7_find 63 = .ok (.getfield 12, 3) := by decide +kernel
theorem dX7_find_66 : decode cX7_find 66 = .ok (.getfield 62, 3) := by decide +kernel
theorem dX7_find_69 : decode cX7_find 69 = .ok (.getfield 66, 3) := by decide +kernel
theorem dX7_find_72 : decode cX7_find 72 = .ok (.iconst 1, 1) := by decide +kernel
theorem dX7_find_73 : decode cX7_find 73 = .ok (.isub, 1) := by decide +kernel
theorem dX7_find_74 : decode cX7_find 74 = .ok (.ireturn, 1) := by decide +kernel
set_option maxRecDepth 20000 in
theorem ggX7_drop_X6_has : GoodIn wsX7_drop wsX6_has := goodIn_r _ [10, 11, 64, 65, 66, 67] (by decide +kernel) (by decide +kernel)
set_option maxRecDepth 20000 in
theorem gX7_drop_X6_has : GoodIn wsX7_drop (wsV RX7 115 RX6 yX6_has wsX6_has) := goodIn_app (goodIn_of _ (by decide +kernel)) ggX7_drop_X6_has
set_option maxRecDepth 20000 in
theorem ggX7_drop_X7_asBad : GoodIn wsX7_drop wsX7_asBad := goodIn_r _ [16, 17, 41, 42, 43, 44, 45, 46, 47, 48, 49, 50, 51, 52] (by decide +kernel) (by decide +kernel)
set_option maxRecDepth 20000 in
theorem gX7_drop_X7_asBad : GoodIn wsX7_drop (wsV RX7 87 RX7 yX7_asBad wsX7_asBad) := goodIn_app (goodIn_of _ (by decide +kernel)) ggX7_drop_X7_asBad
set_option maxRecDepth 20000 in
theorem ggX7_drop_X5_keepStep : GoodIn wsX7_drop wsX5_keepStep := goodIn_r _ [22, 23, 24, 25, 26, 27, 28, 29, 30, 31, 32, 53, 54, 55, 56, 57, 58, 59, 64, 65, 66, 67] (by decide +kernel) (by decide +kernel)
set_option maxRecDepth 20000 in
theorem gX7_drop_X5_keepStep : GoodIn wsX7_drop (wsV RX7 112 RX5 yX5_keepStep wsX5_keepStep) := goodIn_app (goodIn_of _ (by decide +kernel)) ggX7_drop_X5_keepStep
set_option maxRecDepth 20000 in
theorem ggX7_drop_X6_takeOut : GoodIn wsX7_drop wsX6_takeOut := goodIn_r _ [36, 37, 11, 38, 39, 26, 27, 28, 40, 7, 8, 9, 10, 64, 65, 66, 67] (by decide +kernel) (by decide +kernel)
set_option maxRecDepth 20000 in
theorem gX7_drop_X6_takeOut : GoodIn wsX7_drop (wsV RX7 118 RX6 yX6_takeOut wsX6_takeOut) := goodIn_app (goodIn_of _ (by decide +kernel)) ggX7_drop_X6_takeOut
theorem dX7_drop_0 : decode cX7_drop 0 = .ok (.aload_n 0, 1) := by decide +kernel
theorem dX7_drop_1 : decode cX7_drop 1 = .ok (.getfield 12, 3) := by decide +kernel
theorem dX7_drop_4 : decode cX7_drop 4 = .ok (.getfield 62, 3) := by decide +kernel
theorem dX7_drop_7 : decode cX7_drop 7 = .ok (.iload_n 1, 1) := by decide +kernel
theorem dX7_drop_8 : decode cX7_drop 8 = .ok (.invokevirtual 115, 3) := by decide +kernel
theorem dX7_drop_11 : decode cX7_drop 11 = .ok (.ifCond .ne 10, 3) := by decide +kernel
theorem dX7_drop_14 : decode cX7_drop 14 = .ok (.aload_n 0, 1) := by decide +kernel
theorem dX7_drop_15 : decode cX7_drop 15 = .ok (.bipush (-2), 2) := by decide +kernel
theorem dX7_drop_17 : decode cX7_drop 17 = .ok (.invokevirtual 87, 3) := by decide +kernel
theorem dX7_drop_20 : decode cX7_drop 20 = .ok (.ireturn, 1) := by decide +kernel
theorem dX7_drop_21 : decode cX7_drop 21 = .ok (.aload_n 0, 1) := by decide +kernel
theorem dX7_drop_22 : decode cX7_drop 22 = .ok (.getfield 12, 3) := by decide +kernel
theorem dX7_drop_25 : decode cX7_drop 25 = .ok (.invokevirtual 112, 3) := by decide +kernel
theorem dX7_drop_28 : decode cX7_drop 28 = .ok (.aload_n 0, 1) := by decide +kernel
theorem dX7_drop_29 : decode cX7_drop 29 = .ok (.getfield 12, 3) := by decide +kernel
theorem dX7_drop_32 : decode cX7_drop 32 = .ok (.getfield 62, 3) := by decide +kernel
theorem dX7_drop_35 : decode cX7_drop 35 = .ok (.iload_n 1, 1) := by decide +kernel
theorem dX7_drop_36 : decode cX7_drop 36 = .ok (.invokevirtual 118, 3) := by decide +kernel
theorem dX7_drop_39 : decode cX7_drop 39 = .ok (.aload_n 0, 1) := by decide +kernel
theorem dX7_drop_40 : decode cX7_drop 40 = .ok (.getfield 30, 3) := by decide +kernel
theorem dX7_drop_43 : decode cX7_drop 43 = .ok (.iconst 1, 1) := by decide +kernel
theorem dX7_drop_44 : decode cX7_drop 44 = .ok (.putfield 75, 3) := by decide +kernel
theorem dX7_drop_47 : decode cX7_drop 47 = .ok (.aload_n 0, 1) := by decide +kernel
theorem dX7_drop_48 : decode cX7_drop 48 = .ok (.getfield 12, 3) := by decide +kernel
theorem dX7_drop_51 : decode cX7_drop 51 = .ok (.getfield 62, 3) := by decide +kernel
theorem dX7_drop_54 : decode cX7_drop 54 = .ok (.getfield 66, 3) := by decide +kernel
theorem dX7_drop_57 : decode cX7_drop 57 = .ok (.ireturn, 1) := by decide +kernel
set_option maxRecDepth 20000 in
theorem ggX7_undo_X7_asNo : GoodIn wsX7_undo wsX7_asNo := goodIn_r _ [11, 12, 28, 29, 30, 31, 32, 33, 34, 35, 36, 37, 38, 39] (by decide +kernel) (by decide +kernel)
set_option maxRecDepth 20000 in
theorem gX7_undo_X7_asNo : GoodIn wsX7_undo (wsV RX7 125 RX7 yX7_asNo wsX7_asNo) := goodIn_app (goodIn_of _ (by decide +kernel)) ggX7_undo_X7_asNo
set_option maxRecDepth 20000 in
theorem ggX7_undo_X5_stepBack : GoodIn wsX7_undo wsX5_stepBack := goodIn_r _ [17, 18, 19, 20, 21, 22, 23, 24, 25, 26, 27, 40, 41, 42, 43, 44, 45, 46, 51, 52, 53, 54] (by decide +kernel) (by decide +kernel)
set_option maxRecDepth 20000 in
theorem gX7_undo_X5_stepBack : GoodIn wsX7_undo (wsV RX7 128 RX5 yX5_stepBack wsX5_stepBack) := goodIn_app (goodIn_of _ (by decide +kernel)) ggX7_undo_X5_stepBack
theorem dX7_undo_0 : decode cX7_undo 0 = .ok (.aload_n 0, 1) := by decide +kernel
theorem dX7_undo_1 : decode cX7_undo 1 = .ok (.getfield 12, 3) := by decide +kernel
theorem dX7_undo_4 : decode cX7_undo 4 = .ok (.getfield 122, 3) := by decide +kernel
theorem dX7_undo_7 : decode cX7_undo 7 = .ok (.ifCond .ne 10, 3) := by decide +kernel
theorem dX7_undo_10 : decode cX7_undo 10 = .ok (.aload_n 0, 1) := by decide +kernel
theorem dX7_undo_11 : decode cX7_undo 11 = .ok (.bipush (-3), 2) := by decide +kernel
theorem dX7_undo_13 : decode cX7_undo 13 = .ok (.invokevirtual 125, 3) := by decide +kernel
theorem dX7_undo_16 : decode cX7_undo 16 = .ok (.ireturn, 1) := by decide +kernel
theorem dX7_undo_17 : decode cX7_undo 17 = .ok (.aload_n 0, 1) := by decide +kernel
theorem dX7_undo_18 : decode cX7_undo 18 = .ok (.getfield 12, 3) := by decide +kernel
theorem dX7_undo_21 : decode cX7_undo 21 = .ok (.invokevirtual 128, 3) := by decide +kernel
theorem dX7_undo_24 : decode cX7_undo 24 = .ok (.aload_n 0, 1) := by decide +kernel
theorem dX7_undo_25 : decode cX7_undo 25 = .ok (.getfield 30, 3) := by decide +kernel
theorem dX7_undo_28 : decode cX7_undo 28 = .ok (.iconst 1, 1) := by decide +kernel
theorem dX7_undo_29 : decode cX7_undo 29 = .ok (.putfield 75, 3) := by decide +kernel
theorem dX7_undo_32 : decode cX7_undo 32 = .ok (.aload_n 0, 1) := by decide +kernel
theorem dX7_undo_33 : decode cX7_undo 33 = .ok (.getfield 12, 3) := by decide +kernel
theorem dX7_undo_36 : decode cX7_undo 36 = .ok (.getfield 62, 3) := by decide +kernel
theorem dX7_undo_39 : decode cX7_undo 39 = .ok (.getfield 66, 3) := by decide +kernel
theorem dX7_undo_42 : decode cX7_undo 42 = .ok (.ireturn, 1) := by decide +kernel
set_option maxRecDepth 20000 in
theorem ggX7_bet_X7_isClaim : GoodIn wsX7_bet wsX7_isClaim := goodIn_r _ [7, 8, 9, 6, 10, 11, 12, 13] (by decide +kernel) (by decide +kernel)
set_option maxRecDepth 20000 in
theorem gX7_bet_X7_isClaim : GoodIn wsX7_bet (va_wsS RX7 131 yX7_isClaim wsX7_isClaim) := goodIn_app (goodIn_of _ (by decide +kernel)) ggX7_bet_X7_isClaim
set_option maxRecDepth 20000 in
theorem ggX7_bet_X7_isWithin : GoodIn wsX7_bet wsX7_isWithin := goodIn_r _ [10] (by decide +kernel) (by decide +kernel)
set_option maxRecDepth 20000 in
theorem gX7_bet_X7_isWithin : GoodIn wsX7_bet (va_wsS RX7 79 yX7_isWithin wsX7_isWithin) := goodIn_app (goodIn_of _ (by decide +kernel)) ggX7_bet_X7_isWithin
set_option maxRecDepth 20000 in
theorem ggX7_bet_X7_asBad : GoodIn wsX7_bet wsX7_asBad := goodIn_r _ [17, 18, 42, 43, 44, 45, 46, 47, 48, 49, 50, 51, 52, 53] (by decide +kernel) (by decide +kernel)
set_option maxRecDepth 20000 in
theorem gX7_bet_X7_asBad : GoodIn wsX7_bet (wsV RX7 87 RX7 yX7_asBad wsX7_asBad) := goodIn_app (goodIn_of _ (by decide +kernel)) ggX7_bet_X7_asBad
set_option maxRecDepth 20000 in
theorem ggX7_bet_X6_isFull : GoodIn wsX7_bet wsX6_isFull := goodIn_r _ [23, 24, 25, 61, 62, 63, 64] (by decide +kernel) (by decide +kernel)
set_option maxRecDepth 20000 in
theorem gX7_bet_X6_isFull : GoodIn wsX7_bet (wsV RX7 94 RX6 yX6_isFull wsX6_isFull) := goodIn_app (goodIn_of _ (by decide +kernel)) ggX7_bet_X6_isFull
set_option maxRecDepth 20000 in
theorem ggX7_bet_X7_asFull : GoodIn wsX7_bet wsX7_asFull := goodIn_r _ [29, 30, 42, 43, 44, 45, 46, 47, 48, 49, 50, 51, 52, 53] (by decide +kernel) (by decide +kernel)
set_option maxRecDepth 20000 in
theorem gX7_bet_X7_asFull : GoodIn wsX7_bet (wsV RX7 98 RX7 yX7_asFull wsX7_asFull) := goodIn_app (goodIn_of _ (by decide +kernel)) ggX7_bet_X7_asFull
set_option maxRecDepth 20000 in
theorem ggX7_bet_X6_addFive : GoodIn wsX7_bet wsX6_addFive := goodIn_r _ [34, 35, 24, 36, 37, 20, 21, 22, 23, 25, 38, 39, 40, 41, 61, 62, 63, 64] (by decide +kernel) (by decide +kernel)
set_option maxRecDepth 20000 in
theorem gX7_bet_X6_addFive : GoodIn wsX7_bet (wsV RX7 137 RX6 yX6_addFive wsX6_addFive) := goodIn_app (goodIn_of _ (by decide +kernel)) ggX7_bet_X6_addFive
theorem dX7_bet_0 : decode cX7_bet 0 = .ok (.iload_n 1, 1) := by decide +kernel
theorem dX7_bet_1 : decode cX7_bet 1 = .ok (.iload_n 2, 1) := by decide +kernel
theorem dX7_bet_2 : decode cX7_bet 2 = .ok (.iload_n 3, 1) := by decide +kernel
theorem dX7_bet_3 : decode cX7_bet 3 = .ok (.invokestatic 131, 3) := by decide +kernel
theorem dX7_bet_6 : decode cX7_bet 6 = .ok (.ifCond .eq 25, 3) := by decide +kernel
theorem dX7_bet_9 : decode cX7_bet 9 = .ok (.iload 4, 2) := by decide +kernel
theorem dX7_bet_11 : decode cX7_bet 11 = .ok (.iconst 1, 1) := by decide +kernel
theorem dX7_bet_12 : decode cX7_bet 12 = .ok (.bipush 99, 2) := by decide +kernel
theorem dX7_bet_14 : decode cX7_bet 14 = .ok (.invokestatic 79, 3) := by decide +kernel
theorem dX7_bet_17 : decode cX7_bet 17 = .ok (.ifCond .eq 14, 3) := by decide +kernel
theorem dX7_bet_20 : decode cX7_bet 20 = .ok (.iload 5, 2) := by decide +kernel
theorem dX7_bet_22 : decode cX7_bet 22 = .ok (.iconst 0, 1) := by decide +kernel
theorem dX7_bet_23 : decode cX7_bet 23 = .ok (.bipush 99, 2) := by decide +kernel
theorem dX7_bet_25 : decode cX7_bet 25 = .ok (.invokestatic 79, 3) := by decide +kernel
theorem dX7_bet_28 : decode cX7_bet 28 = .ok (.ifCond .ne 10, 3) := by decide +kernel
theorem dX7_bet_31 : decode cX7_bet 31 = .ok (.aload_n 0, 1) := by decide +kernel
theorem dX7_bet_32 : decode cX7_bet 32 = .ok (.bipush (-2), 2) := by decide +kernel
theorem dX7_bet_34 : decode cX7_bet 34 = .ok (.invokevirtual 87, 3) := by decide +kernel
theorem dX7_bet_37 : decode cX7_bet 37 = .ok (.ireturn, 1) := by decide +kernel
theorem dX7_bet_38 : decode cX7_bet 38 = .ok (.aload_n 0, 1) := by decide +kernel
theorem dX7_bet_39 : decode cX7_bet 39 = .ok (.getfield 12, 3) := by decide +kernel
theorem dX7_bet_42 : decode cX7_bet 42 = .ok (.getfield 134, 3) := by decide +kernel
theorem dX7_bet_45 : decode cX7_bet 45 = .ok (.invokevirtual 94, 3) := by decide +kernel
theorem dX7_bet_48 : decode cX7_bet 48 = .ok (.ifCond .eq 8, 3) := by decide +kernel
theorem dX7_bet_51 : decode cX7_bet 51 = .ok (.aload_n 0, 1) := by decide +kernel
theorem dX7_bet_52 : decode cX7_bet 52 = .ok (.invokevirtual 98, 3) := by decide +kernel
theorem dX7_bet_55 : decode cX7_bet 55 = .ok (.ireturn, 1) := by decide +kernel
theorem dX7_bet_56 : decode cX7_bet 56 = .ok (.aload_n 0, 1) := by decide +kernel
theorem dX7_bet_57 : decode cX7_bet 57 = .ok (.getfield 12, 3) := by decide +kernel
theorem dX7_bet_60 : decode cX7_bet 60 = .ok (.getfield 134, 3) := by decide +kernel
theorem dX7_bet_63 : decode cX7_bet 63 = .ok (.iload_n 1, 1) := by decide +kernel
theorem dX7_bet_64 : decode cX7_bet 64 = .ok (.iload_n 2, 1) := by decide +kernel
theorem dX7_bet_65 : decode cX7_bet 65 = .ok (.iload_n 3, 1) := by decide +kernel
theorem dX7_bet_66 : decode cX7_bet 66 = .ok (.iload 4, 2) := by decide +kernel
theorem dX7_bet_68 : decode cX7_bet 68 = .ok (.iload 5, 2) := by decide +kernel
theorem dX7_bet_70 : decode cX7_bet 70 = .ok (.invokevirtual 137, 3) := by decide +kernel
theorem dX7_bet_73 : decode cX7_bet 73 = .ok (.aload_n 0, 1) := by decide +kernel
theorem dX7_bet_74 : decode cX7_bet 74 = .ok (.getfield 12, 3) := by decide +kernel
theorem dX7_bet_77 : decode cX7_bet 77 = .ok (.getfield 134, 3) := by decide +kernel
theorem dX7_bet_80 : decode cX7_bet 80 = .ok (.getfield 66, 3) := by decide +kernel
theorem dX7_bet_83 : decode cX7_bet 83 = .ok (.iconst 1, 1) := by decide +kernel
theorem dX7_bet_84 : decode cX7_bet 84 = .ok (.isub, 1) := by decide +kernel
theorem dX7_bet_85 : decode cX7_bet 85 = .ok (.ireturn, 1) := by decide +kernel
set_option maxRecDepth 20000 in
theorem ggX7_off_X6_empty : GoodIn wsX7_off wsX6_empty := goodIn_r _ [8, 9, 29, 30, 31, 32] (by decide +kernel) (by decide +kernel)
set_option maxRecDepth 20000 in
theorem gX7_off_X6_empty : GoodIn wsX7_off (wsV RX7 141 RX6 yX6_empty wsX6_empty) := goodIn_app (goodIn_of _ (by decide +kernel)) ggX7_off_X6_empty
theorem dX7_off_0 : decode cX7_off 0 = .ok (.aload_n 0, 1) := by decide +kernel
theorem dX7_off_1 : decode cX7_off 1 = .ok (.getfield 12, 3) := by decide +kernel
theorem dX7_off_4 : decode cX7_off 4 = .ok (.getfield 134, 3) := by decide +kernel
theorem dX7_off_7 : decode cX7_off 7 = .ok (.getfield 66, 3) := by decide +kernel
theorem dX7_off_10 : decode cX7_off 10 = .ok (.istore_n 1, 1) := by decide +kernel
theorem dX7_off_11 : decode cX7_off 11 = .ok (.aload_n 0, 1) := by decide +kernel
theorem dX7_off_12 : decode cX7_off 12 = .ok (.getfield 12, 3) := by decide +kernel
theorem dX7_off_15 : decode cX7_off 15 = .ok (.getfield 134, 3) := by decide +kernel
theorem dX7_off_18 : decode cX7_off 18 = .ok (.invokevirtual 141, 3) := by decide +kernel
theorem dX7_off_21 : decode cX7_off 21 = .ok (.iload_n 1, 1) := by decide +kernel
theorem dX7_off_22 : decode cX7_off 22 = .ok (.ireturn, 1) := by decide +kernel
set_option maxRecDepth 20000 in
theorem ggX7_type_X7_isWithin : GoodIn wsX7_type wsX7_isWithin := goodIn_r _ [6] (by decide +kernel) (by decide +kernel)
set_option maxRecDepth 20000 in
theorem gX7_type_X7_isWithin : GoodIn wsX7_type (va_wsS RX7 79 yX7_isWithin wsX7_isWithin) := goodIn_app (goodIn_of _ (by decide +kernel)) ggX7_type_X7_isWithin
set_option maxRecDepth 20000 in
theorem ggX7_type_X7_asBad : GoodIn wsX7_type wsX7_asBad := goodIn_r _ [10, 11, 24, 25, 26, 27, 28, 29, 30, 31, 32, 33, 34, 35] (by decide +kernel) (by decide +kernel)
set_option maxRecDepth 20000 in
theorem gX7_type_X7_asBad : GoodIn wsX7_type (wsV RX7 87 RX7 yX7_asBad wsX7_asBad) := goodIn_app (goodIn_of _ (by decide +kernel)) ggX7_type_X7_asBad
set_option maxRecDepth 20000 in
theorem ggX7_type_X7_asFull : GoodIn wsX7_type wsX7_asFull := goodIn_r _ [15, 16, 24, 25, 26, 27, 28, 29, 30, 31, 32, 33, 34, 35] (by decide +kernel) (by decide +kernel)
set_option maxRecDepth 20000 in
theorem gX7_type_X7_asFull : GoodIn wsX7_type (wsV RX7 98 RX7 yX7_asFull wsX7_asFull) := goodIn_app (goodIn_of _ (by decide +kernel)) ggX7_type_X7_asFull
set_option maxRecDepth 20000 in
theorem ggX7_type_X3_append : GoodIn wsX7_type wsX3_append := goodIn_r _ [21, 22, 23, 36, 37, 38, 39, 40, 41] (by decide +kernel) (by decide +kernel)
set_option maxRecDepth 20000 in
theorem gX7_type_X3_append : GoodIn wsX7_type (wsV RX7 143 RX3 yX3_append wsX3_append) := goodIn_app (goodIn_of _ (by decide +kernel)) ggX7_type_X3_append
theorem dX7_type_0 : decode cX7_type 0 = .ok (.iload_n 1, 1) := by decide +kernel
theorem dX7_type_1 : decode cX7_type 1 = .ok (.iconst 0, 1) := by decide +kernel
theorem dX7_type_2 : decode cX7_type 2 = .ok (.bipush 127, 2) := by decide +kernel
theorem dX7_type_4 : decode cX7_type 4 = .ok (.invokestatic 79, 3) := by decide +kernel
theorem dX7_type_7 : decode cX7_type 7 = .ok (.ifCond .ne 10, 3) := by decide +kernel
theorem dX7_type_10 : decode cX7_type 10 = .ok (.aload_n 0, 1) := by decide +kernel
theorem dX7_type_11 : decode cX7_type 11 = .ok (.bipush (-2), 2) := by decide +kernel
theorem dX7_type_13 : decode cX7_type 13 = .ok (.invokevirtual 87, 3) := by decide +kernel
theorem dX7_type_16 : decode cX7_type 16 = .ok (.ireturn, 1) := by decide +kernel
theorem dX7_type_17 : decode cX7_type 17 = .ok (.aload_n 0, 1) := by decide +kernel
theorem dX7_type_18 : decode cX7_type 18 = .ok (.getfield 51, 3) := by decide +kernel
theorem dX7_type_21 : decode cX7_type 21 = .ok (.getfield 142, 3) := by decide +kernel
theorem dX7_type_24 : decode cX7_type 24 = .ok (.sipush 150, 3) := by decide +kernel
theorem dX7_type_27 : decode cX7_type 27 = .ok (.if_icmp .lt 8, 3) := by decide +kernel
theorem dX7_type_30 : decode cX7_type 30 = .ok (.aload_n 0, 1) := by decide +kernel
theorem dX7_type_31 : decode cX7_type 31 = .ok (.invokevirtual 98, 3) := by decide +kernel
theorem dX7_type_34 : decode cX7_type 34 = .ok (.ireturn, 1) := by decide +kernel
theorem dX7_type_35 : decode cX7_type 35 = .ok (.aload_n 0, 1) := by decide +kernel
theorem dX7_type_36 : decode cX7_type 36 = .ok (.getfield 51, 3) := by decide +kernel
theorem dX7_type_39 : decode cX7_type 39 = .ok (.iload_n 1, 1) := by decide +kernel
theorem dX7_type_40 : decode cX7_type 40 = .ok (.invokevirtual 143, 3) := by decide +kernel
theorem dX7_type_43 : decode cX7_type 43 = .ok (.aload_n 0, 1) := by decide +kernel
theorem dX7_type_44 : decode cX7_type 44 = .ok (.getfield 51, 3) := by decide +kernel
theorem dX7_type_47 : decode cX7_type 47 = .ok (.getfield 142, 3) := by decide +kernel
theorem dX7_type_50 : decode cX7_type 50 = .ok (.ireturn, 1) := by decide +kernel
theorem dX7_clear_0 : decode cX7_clear 0 = .ok (.aload_n 0, 1) := by decide +kernel
theorem dX7_clear_1 : decode cX7_clear 1 = .ok (.getfield 51, 3) := by decide +kernel
theorem dX7_clear_4 : decode cX7_clear 4 = .ok (.getfield 142, 3) := by decide +kernel
theorem dX7_clear_7 : decode cX7_clear 7 = .ok (.istore_n 1, 1) := by decide +kernel
theorem dX7_clear_8 : decode cX7_clear 8 = .ok (.aload_n 0, 1) := by decide +kernel
theorem dX7_clear_9 : decode cX7_clear 9 = .ok (.getfield 51, 3) := by decide +kernel
theorem dX7_clear_12 : decode cX7_clear 12 = .ok (.iconst 0, 1) := by decide +kernel
theorem dX7_clear_13 : decode cX7_clear 13 = .ok (.putfield 142, 3) := by decide +kernel
theorem dX7_clear_16 : decode cX7_clear 16 = .ok (.iload_n 1, 1) := by decide +kernel
theorem dX7_clear_17 : decode cX7_clear 17 = .ok (.ireturn, 1) := by decide +kernel
set_option maxRecDepth 20000 in
theorem ggX7_read_X3_readInto : GoodIn wsX7_read wsX3_readInto := goodIn_r _ [11, 12, 13, 14, 15, 16, 17, 18, 19, 20, 21, 22, 23, 24, 25, 26, 27, 28, 29, 30, 31, 32, 10, 33, 34, 35, 36, 37, 38, 39, 40, 41, 42, 43, 44, 45, 46, 47, 48, 49, 50, 51, 52, 53, 54, 55, 56, 57, 58, 59, 60, 61, 62, 63, 64, 65, 66, 67, 68, 69, 70, 71, 72, 73, 74, 75, 76, 77, 78, 79, 80, 81, 82, 83, 84, 85, 86, 87, 88, 89, 90, 91, 92, 93, 94, 95, 96, 97, 98, 99, 100, 101, 102, 103, 104, 105, 106, 107, 108, 109, 110, 111, 112, 113, 114, 115, 116, 117, 118, 119, 120, 121, 122, 123, 124, 125, 126, 127, 128, 129, 130, 131, 132, 133, 134, 135, 163, 164, 165, 166, 167, 168, 173, 174, 175, 176, 177, 178, 179, 180, 181, 182, 183] (by decide +kernel) (by decide +kernel)
set_option maxRecDepth 20000 in
theorem gX7_read_X3_readInto : GoodIn wsX7_read (wsV RX7 146 RX3 yX3_readInto wsX3_readInto) := goodIn_app (goodIn_of _ (by decide +kernel)) ggX7_read_X3_readInto
set_option maxRecDepth 20000 in
theorem ggX7_read_X5_takeOver : GoodIn wsX7_read wsX5_takeOver := goodIn_r _ [139, 19, 20, 21, 22, 140, 141, 142, 143, 144, 145, 23, 146, 147, 148, 27, 149, 129, 150, 29, 173, 174, 175, 176, 177, 178, 179, 180, 181, 182, 183] (by decide +kernel) (by decide +kernel)
set_option maxRecDepth 20000 in
theorem gX7_read_X5_takeOver : GoodIn wsX7_read (wsV RX7 153 RX5 yX5_takeOver wsX5_takeOver) := goodIn_app (goodIn_of _ (by decide +kernel)) ggX7_read_X5_takeOver
theorem dX7_read_0 : decode cX7_read 0 = .ok (.aload_n 0, 1) := by decide +kernel
theorem dX7_read_1 : decode cX7_read 1 = .ok (.getfield 51, 3) := by decide +kernel
theorem dX7_read_4 : decode cX7_read 4 = .ok (.aload_n 0, 1) := by decide +kernel
theorem dX7_read_5 : decode cX7_read 5 = .ok (.getfield 16, 3) := by decide +kernel
theorem dX7_read_8 : decode cX7_read 8 = .ok (.invokevirtual 146, 3) := by decide +kernel
theorem dX7_read_11 : decode cX7_read 11 = .ok (.istore_n 1, 1) := by decide +kernel
theorem dX7_read_12 : decode cX7_read 12 = .ok (.iload_n 1, 1) := by decide +kernel
theorem dX7_read_13 : decode cX7_read 13 = .ok (.iconst (-1), 1) := by decide +kernel
theorem dX7_read_14 : decode cX7_read 14 = .ok (.if_icmp .ne 14, 3) := by decide +kernel
theorem dX7_read_17 : decode cX7_read 17 = .ok (.bipush (-10), 2) := by decide +kernel
theorem dX7_read_19 : decode cX7_read 19 = .ok (.aload_n 0, 1) := by decide +kernel
theorem dX7_read_20 : decode cX7_read 20 = .ok (.getfield 51, 3) := by decide +kernel
theorem dX7_read_23 : decode cX7_read 23 = .ok (.getfield 150, 3) := by decide +kernel
theorem dX7_read_26 : decode cX7_read 26 = .ok (.isub, 1) := by decide +kernel
theorem dX7_read_27 : decode cX7_read 27 = .ok (.ireturn, 1) := by decide +kernel
theorem dX7_read_28 : decode cX7_read 28 = .ok (.aload_n 0, 1) := by decide +kernel
theorem dX7_read_29 : decode cX7_read 29 = .ok (.getfield 12, 3) := by decide +kernel
theorem dX7_read_32 : decode cX7_read 32 = .ok (.aload_n 0, 1) := by decide +kernel
theorem dX7_read_33 : decode cX7_read 33 = .ok (.getfield 16, 3) := by decide +kernel
theorem dX7_read_36 : decode cX7_read 36 = .ok (.invokevirtual 153, 3) := by decide +kernel
theorem dX7_read_39 : decode cX7_read 39 = .ok (.aload_n 0, 1) := by decide +kernel
theorem dX7_read_40 : decode cX7_read 40 = .ok (.getfield 30, 3) := by decide +kernel
theorem dX7_read_43 : decode cX7_read 43 = .ok (.iconst 1, 1) := by decide +kernel
theorem dX7_read_44 : decode cX7_read 44 = .ok (.putfield 75, 3) := by decide +kernel
theorem dX7_read_47 : decode cX7_read 47 = .ok (.iload_n 1, 1) := by decide +kernel
theorem dX7_read_48 : decode cX7_read 48 = .ok (.ireturn, 1) := by decide +kernel
set_option maxRecDepth 20000 in
theorem ggX7_of_X6_has : GoodIn wsX7_of wsX6_has := goodIn_r _ [7, 8, 43, 44, 45, 46] (by decide +kernel) (by decide +kernel)
set_option maxRecDepth 20000 in
theorem gX7_of_X6_has : GoodIn wsX7_of (wsV RX7 115 RX6 yX6_has wsX6_has) := goodIn_app (goodIn_of _ (by decide +kernel)) ggX7_of_X6_has
set_option maxRecDepth 20000 in
theorem ggX7_of_X7_isWithin : GoodIn wsX7_of wsX7_isWithin := goodIn_r _ [12] (by decide +kernel) (by decide +kernel)
set_option maxRecDepth 20000 in
theorem gX7_of_X7_isWithin : GoodIn wsX7_of (va_wsS RX7 79 yX7_isWithin wsX7_isWithin) := goodIn_app (goodIn_of _ (by decide +kernel)) ggX7_of_X7_isWithin
set_option maxRecDepth 20000 in
theorem ggX7_of_X7_asBad : GoodIn wsX7_of wsX7_asBad := goodIn_r _ [16, 17, 24, 25, 26, 27, 28, 29, 30, 31, 32, 33, 34, 35] (by decide +kernel) (by decide +kernel)
set_option maxRecDepth 20000 in
theorem gX7_of_X7_asBad : GoodIn wsX7_of (wsV RX7 87 RX7 yX7_asBad wsX7_asBad) := goodIn_app (goodIn_of _ (by decide +kernel)) ggX7_of_X7_asBad
set_option maxRecDepth 20000 in
theorem ggX7_of_X6_cell : GoodIn wsX7_of wsX6_cell := goodIn_r _ [21, 8, 22, 23, 43, 44, 45, 46] (by decide +kernel) (by decide +kernel)
set_option maxRecDepth 20000 in
theorem gX7_of_X6_cell : GoodIn wsX7_of (wsV RX7 157 RX6 yX6_cell wsX6_cell) := goodIn_app (goodIn_of _ (by decide +kernel)) ggX7_of_X6_cell
theorem dX7_of_0 : decode cX7_of 0 = .ok (.aload_n 0, 1) := by decide +kernel
theorem dX7_of_1 : decode cX7_of 1 = .ok (.getfield 12, 3) := by decide +kernel
theorem dX7_of_4 : decode cX7_of 4 = .ok (.getfield 134, 3) := by decide +kernel
theorem dX7_of_7 : decode cX7_of 7 = .ok (.iload_n 1, 1) := by decide +kernel
theorem dX7_of_8 : decode cX7_of 8 = .ok (.invokevirtual 115, 3) := by decide +kernel
theorem dX7_of_11 : decode cX7_of 11 = .ok (.ifCond .eq 12, 3) := by decide +kernel
theorem dX7_of_14 : decode cX7_of 14 = .ok (.iload_n 2, 1) := by decide +kernel
theorem dX7_of_15 : decode cX7_of 15 = .ok (.iconst 0, 1) := by decide +kernel
theorem dX7_of_16 : decode cX7_of 16 = .ok (.iconst 4, 1) := by decide +kernel
theorem dX7_of_17 : decode cX7_of 17 = .ok (.invokestatic 79, 3) := by decide +kernel
theorem dX7_of_20 : decode cX7_of 20 = .ok (.ifCond .ne 10, 3) := by decide +kernel
theorem dX7_of_23 : decode cX7_of 23 = .ok (.aload_n 0, 1) := by decide +kernel
theorem dX7_of_24 : decode cX7_of 24 = .ok (.bipush (-2), 2) := by decide +kernel
theorem dX7_of_26 : decode cX7_of 26 = .ok (.invokevirtual 87, 3) := by decide +kernel
theorem dX7_of_29 : decode cX7_of 29 = .ok (.ireturn, 1) := by decide +kernel
theorem dX7_of_30 : decode cX7_of 30 = .ok (.aload_n 0, 1) := by decide +kernel
theorem dX7_of_31 : decode cX7_of 31 = .ok (.getfield 12, 3) := by decide +kernel
theorem dX7_of_34 : decode cX7_of 34 = .ok (.getfield 134, 3) := by decide +kernel
theorem dX7_of_37 : decode cX7_of 37 = .ok (.iload_n 1, 1) := by decide +kernel
theorem dX7_of_38 : decode cX7_of 38 = .ok (.iload_n 2, 1) := by decide +kernel
theorem dX7_of_39 : decode cX7_of 39 = .ok (.invokevirtual 157, 3) := by decide +kernel
theorem dX7_of_42 : decode cX7_of 42 = .ok (.ireturn, 1) := by decide +kernel
set_option maxRecDepth 20000 in
theorem ggX7_possible_X7_asBad : GoodIn wsX7_possible wsX7_asBad := goodIn_r _ [5, 6, 56, 57, 58, 59, 60, 61, 62, 63, 64, 65, 66, 67] (by decide +kernel) (by decide +kernel)
set_option maxRecDepth 20000 in
theorem gX7_possible_X7_asBad : GoodIn wsX7_possible (wsV RX7 87 RX7 yX7_asBad wsX7_asBad) := goodIn_app (goodIn_of _ (by decide +kernel)) ggX7_possible_X7_asBad
set_option maxRecDepth 20000 in
theorem ggX7_possible_X7_weighed : GoodIn wsX7_possible wsX7_weighed := goodIn_r _ [10, 11, 12, 13, 14, 15, 16, 17, 18, 19, 20, 21, 22, 23, 24, 25, 26, 27, 28, 29, 30, 31, 32, 33, 34, 35, 36, 37, 38, 39, 40, 41, 42, 43, 44, 4, 45, 46, 47, 56, 57, 58, 59, 60, 61, 62, 63, 64, 65, 66, 67, 68, 69, 70, 71, 72, 73, 74, 75, 76, 77, 78, 79, 80, 81, 82] (by decide +kernel) (by decide +kernel)
set_option maxRecDepth 20000 in
theorem gX7_possible_X7_weighed : GoodIn wsX7_possible (wsV RX7 161 RX7 yX7_weighed wsX7_weighed) := goodIn_app (goodIn_of _ (by decide +kernel)) ggX7_possible_X7_weighed
set_option maxRecDepth 20000 in
theorem ggX7_possible_X2_howManyPossible : GoodIn wsX7_possible wsX2_howManyPossible := goodIn_r _ [51, 22, 68, 69, 70, 71] (by decide +kernel) (by decide +kernel)
set_option maxRecDepth 20000 in
theorem gX7_possible_X2_howManyPossible : GoodIn wsX7_possible (wsV RX7 165 RX2 yX2_howManyPossible wsX2_howManyPossible) := goodIn_app (goodIn_of _ (by decide +kernel)) ggX7_possible_X2_howManyPossible
set_option maxRecDepth 20000 in
theorem ggX7_possible_X2_possibleAt : GoodIn wsX7_possible wsX2_possibleAt := goodIn_r _ [55, 22, 68, 69, 70, 71] (by decide +kernel) (by decide +kernel)
set_option maxRecDepth 20000 in
theorem gX7_possible_X2_possibleAt : GoodIn wsX7_possible (wsV RX7 168 RX2 yX2_possibleAt wsX2_possibleAt) := goodIn_app (goodIn_of _ (by decide +kernel)) ggX7_possible_X2_possibleAt
theorem dX7_possible_0 : decode cX7_possible 0 = .ok (.iload_n 1, 1) := by decide +kernel
theorem dX7_possible_1 : decode cX7_possible 1 = .ok (.iconst (-1), 1) := by decide +kernel
theorem dX7_possible_2 : decode cX7_possible 2 = .ok (.if_icmp .ge 10, 3) := by decide +kernel
theorem dX7_possible_5 : decode cX7_possible 5 = .ok (.aload_n 0, 1) := by decide +kernel
theorem dX7_possible_6 : decode cX7_possible 6 = .ok (.bipush (-10), 2) := by decide +kernel
theorem dX7_possible_8 : decode cX7_possible 8 = .ok (.invokevirtual 87, 3) := by decide +kernel
theorem dX7_possible_11 : decode cX7_possible 11 = .ok (.ireturn, 1) := by decide +kernel
theorem dX7_possible_12 : decode cX7_possible 12 = .ok (.aload_n 0, 1) := by decide +kernel
theorem dX7_possible_13 : decode cX7_possible 13 = .ok (.invokevirtual 161, 3) := by decide +kernel
theorem dX7_possible_16 : decode cX7_possible 16 = .ok (.astore_n 2, 1) := by decide +kernel
theorem dX7_possible_17 : decode cX7_possible 17 = .ok (.iload_n 1, 1) := by decide +kernel
theorem dX7_possible_18 : decode cX7_possible 18 = .ok (.iconst (-1), 1) := by decide +kernel
theorem dX7_possible_19 : decode cX7_possible 19 = .ok (.if_icmp .ne 8, 3) := by decide +kernel
theorem dX7_possible_22 : decode cX7_possible 22 = .ok (.aload_n 2, 1) := by decide +kernel
theorem dX7_possible_23 : decode cX7_possible 23 = .ok (.invokevirtual 165, 3) := by decide +kernel
theorem dX7_possible_26 : decode cX7_possible 26 = .ok (.ireturn, 1) := by decide +kernel
theorem dX7_possible_27 : decode cX7_possible 27 = .ok (.aload_n 2, 1) := by decide +kernel
theorem dX7_possible_28 : decode cX7_possible 28 = .ok (.iload_n 1, 1) := by decide +kernel
theorem dX7_possible_29 : decode cX7_possible 29 = .ok (.invokevirtual 168, 3) := by decide +kernel
theorem dX7_possible_32 : decode cX7_possible 32 = .ok (.istore_n 3, 1) := by decide +kernel
theorem dX7_possible_33 : decode cX7_possible 33 = .ok (.iload_n 3, 1) := by decide +kernel
theorem dX7_possible_34 : decode cX7_possible 34 = .ok (.iconst (-1), 1) := by decide +kernel
theorem dX7_possible_35 : decode cX7_possible 35 = .ok (.if_icmp .ne 8, 3) := by decide +kernel
theorem dX7_possible_38 : decode cX7_possible 38 = .ok (.bipush (-5), 2) := by decide +kernel
theorem dX7_possible_40 : decode cX7_possible 40 = .ok (.goto 4, 3) := by decide +kernel
theorem dX7_possible_43 : decode cX7_possible 43 = .ok (.iload_n 3, 1) := by decide +kernel
theorem dX7_possible_44 : decode cX7_possible 44 = .ok (.ireturn, 1) := by decide +kernel
set_option maxRecDepth 20000 in
theorem ggX7_weighs_X7_isPast : GoodIn wsX7_weighs wsX7_isPast := goodIn_r _ [5, 6, 7, 4, 8] (by decide +kernel) (by decide +kernel)
set_option maxRecDepth 20000 in
theorem gX7_weighs_X7_isPast : GoodIn wsX7_weighs (va_wsS RX7 171 yX7_isPast wsX7_isPast) := goodIn_app (goodIn_of _ (by decide +kernel)) ggX7_weighs_X7_isPast
set_option maxRecDepth 20000 in
theorem ggX7_weighs_X7_asBad : GoodIn wsX7_weighs wsX7_asBad := goodIn_r _ [12, 13, 59, 60, 61, 62, 63, 64, 65, 66, 67, 68, 69, 70] (by decide +kernel) (by decide +kernel)
set_option maxRecDepth 20000 in
theorem gX7_weighs_X7_asBad : GoodIn wsX7_weighs (wsV RX7 87 RX7 yX7_asBad wsX7_asBad) := goodIn_app (goodIn_of _ (by decide +kernel)) ggX7_weighs_X7_asBad
set_option maxRecDepth 20000 in
theorem ggX7_weighs_X7_weighed : GoodIn wsX7_weighs wsX7_weighed := goodIn_r _ [17, 18, 19, 20, 21, 22, 23, 24, 25, 26, 27, 28, 29, 30, 31, 32, 33, 34, 35, 36, 37, 38, 39, 40, 41, 42, 43, 44, 45, 46, 47, 48, 49, 50, 51, 4, 52, 53, 54, 59, 60, 61, 62, 63, 64, 65, 66, 67, 68, 69, 70, 55, 56, 57, 58, 71, 72, 73, 74, 75, 76, 77, 78, 79, 80, 81] (by decide +kernel) (by decide +kernel)
set_option maxRecDepth 20000 in
theorem gX7_weighs_X7_weighed : GoodIn wsX7_weighs (wsV RX7 161 RX7 yX7_weighed wsX7_weighed) := goodIn_app (goodIn_of _ (by decide +kernel)) ggX7_weighs_X7_weighed
theorem dX7_weighs_0 : decode cX7_weighs 0 = .ok (.iload_n 1, 1) := by decide +kernel
theorem dX7_weighs_1 : decode cX7_weighs 1 = .ok (.invokestatic 171, 3) := by decide +kernel
theorem dX7_weighs_4 : decode cX7_weighs 4 = .ok (.ifCond .ne 11, 3) := by decide +kernel
theorem dX7_weighs_7 : decode cX7_weighs 7 = .ok (.aload_n 0, 1) := by decide +kernel
theorem dX7_weighs_8 : decode cX7_weighs 8 = .ok (.bipush (-10), 2) := by decide +kernel
theorem dX7_weighs_10 : decode cX7_weighs 10 = .ok (.invokevirtual 87, 3) := by decide +kernel
theorem dX7_weighs_13 : decode cX7_weighs 13 = .ok (.i2l, 1) := by decide +kernel
theorem dX7_weighs_14 : decode cX7_weighs 14 = .ok (.lreturn, 1) := by decide +kernel
theorem dX7_weighs_15 : decode cX7_weighs 15 = .ok (.aload_n 0, 1) := by decide +kernel
theorem dX7_weighs_16 : decode cX7_weighs 16 = .ok (.invokevirtual 161, 3) := by decide +kernel
theorem dX7_weighs_19 : decode cX7_weighs 19 = .ok (.getfield 174, 3) := by decide +kernel
theorem dX7_weighs_22 : decode cX7_weighs 22 = .ok (.iload_n 1, 1) := by decide +kernel
theorem dX7_weighs_23 : decode cX7_weighs 23 = .ok (.laload, 1) := by decide +kernel
theorem dX7_weighs_24 : decode cX7_weighs 24 = .ok (.lreturn, 1) := by decide +kernel
set_option maxRecDepth 20000 in
theorem ggX7_heaviest_X7_weighed : GoodIn wsX7_heaviest wsX7_weighed := goodIn_r _ [5, 6, 7, 8, 9, 10, 11, 12, 13, 14, 15, 16, 17, 18, 19, 20, 21, 22, 23, 24, 25, 26, 27, 28, 29, 30, 31, 32, 33, 34, 35, 36, 37, 38, 39, 4, 40, 41, 42, 47, 48, 49, 50, 51, 52, 53, 54, 55, 56, 57, 58, 59, 60, 61, 62, 63, 64, 65, 66, 67, 68, 69, 70, 71, 72, 73] (by decide +kernel) (by decide +kernel)
set_option maxRecDepth 20000 in
theorem gX7_heaviest_X7_weighed : GoodIn wsX7_heaviest (wsV RX7 161 RX7 yX7_weighed wsX7_weighed) := goodIn_app (goodIn_of _ (by decide +kernel)) ggX7_heaviest_X7_weighed
set_option maxRecDepth 20000 in
theorem ggX7_heaviest_X2_mostWeight : GoodIn wsX7_heaviest wsX2_mostWeight := goodIn_r _ [46, 18, 59, 60, 61, 62] (by decide +kernel) (by decide +kernel)
set_option maxRecDepth 20000 in
theorem gX7_heaviest_X2_mostWeight : GoodIn wsX7_heaviest (wsV RX7 178 RX2 yX2_mostWeight wsX2_mostWeight) := goodIn_app (goodIn_of _ (by decide +kernel)) ggX7_heaviest_X2_mostWeight
theorem dX7_heaviest_0 : decode cX7_heaviest 0 = .ok (.aload_n 0, 1) := by decide +kernel
theorem dX7_heaviest_1 : decode cX7_heaviest 1 = .ok (.invokevirtual 161, 3) := by decide +kernel
theorem dX7_heaviest_4 : decode cX7_heaviest 4 = .ok (.invokevirtual 178, 3) := by decide +kernel
theorem dX7_heaviest_7 : decode cX7_heaviest 7 = .ok (.ireturn, 1) := by decide +kernel
set_option maxRecDepth 20000 in
theorem ggX7_holds_X7_isClaim : GoodIn wsX7_holds wsX7_isClaim := goodIn_r _ [4, 5, 6, 3, 7, 8, 9, 10] (by decide +kernel) (by decide +kernel)
set_option maxRecDepth 20000 in
theorem gX7_holds_X7_isClaim : GoodIn wsX7_holds (va_wsS RX7 131 yX7_isClaim wsX7_isClaim) := goodIn_app (goodIn_of _ (by decide +kernel)) ggX7_holds_X7_isClaim
set_option maxRecDepth 20000 in
theorem ggX7_holds_X7_isPast : GoodIn wsX7_holds wsX7_isPast := goodIn_r _ [13, 5, 6, 3, 7] (by decide +kernel) (by decide +kernel)
set_option maxRecDepth 20000 in
theorem gX7_holds_X7_isPast : GoodIn wsX7_holds (va_wsS RX7 171 yX7_isPast wsX7_isPast) := goodIn_app (goodIn_of _ (by decide +kernel)) ggX7_holds_X7_isPast
set_option maxRecDepth 20000 in
theorem ggX7_holds_X7_asBad : GoodIn wsX7_holds wsX7_asBad := goodIn_r _ [17, 18, 25, 26, 27, 28, 29, 30, 31, 32, 33, 34, 35, 36] (by decide +kernel) (by decide +kernel)
set_option maxRecDepth 20000 in
theorem gX7_holds_X7_asBad : GoodIn wsX7_holds (wsV RX7 87 RX7 yX7_asBad wsX7_asBad) := goodIn_app (goodIn_of _ (by decide +kernel)) ggX7_holds_X7_asBad
set_option maxRecDepth 20000 in
theorem ggX7_holds_X7_claimHolds : GoodIn wsX7_holds wsX7_claimHolds := goodIn_r _ [21, 22, 23, 3, 24] (by decide +kernel) (by decide +kernel)
set_option maxRecDepth 20000 in
theorem gX7_holds_X7_claimHolds : GoodIn wsX7_holds (va_wsS RX7 181 yX7_claimHolds wsX7_claimHolds) := goodIn_app (goodIn_of _ (by decide +kernel)) ggX7_holds_X7_claimHolds
theorem dX7_holds_0 : decode cX7_holds 0 = .ok (.iload_n 1, 1) := by decide +kernel
theorem dX7_holds_1 : decode cX7_holds 1 = .ok (.iload_n 2, 1) := by decide +kernel
theorem dX7_holds_2 : decode cX7_holds 2 = .ok (.iload_n 3, 1) := by decide +kernel
theorem dX7_holds_3 : decode cX7_holds 3 = .ok (.invokestatic 131, 3) := by decide +kernel
theorem dX7_holds_6 : decode cX7_holds 6 = .ok (.ifCond .eq 11, 3) := by decide +kernel
theorem dX7_holds_9 : decode cX7_holds 9 = .ok (.iload 4, 2) := by decide +kernel
theorem dX7_holds_11 : decode cX7_holds 11 = .ok (.invokestatic 171, 3) := by decide +kernel
theorem dX7_holds_14 : decode cX7_holds 14 = .ok (.ifCond .ne 10, 3) := by decide +kernel
theorem dX7_holds_17 : decode cX7_holds 17 = .ok (.aload_n 0, 1) := by decide +kernel
theorem dX7_holds_18 : decode cX7_holds 18 = .ok (.bipush (-2), 2) := by decide +kernel
theorem dX7_holds_20 : decode cX7_holds 20 = .ok (.invokevirtual 87, 3) := by decide +kernel
theorem dX7_holds_23 : decode cX7_holds 23 = .ok (.ireturn, 1) := by decide +kernel
theorem dX7_holds_24 : decode cX7_holds 24 = .ok (.iload_n 1, 1) := by decide +kernel
theorem dX7_holds_25 : decode cX7_holds 25 = .ok (.iload_n 2, 1) := by decide +kernel
theorem dX7_holds_26 : decode cX7_holds 26 = .ok (.iload_n 3, 1) := by decide +kernel
theorem dX7_holds_27 : decode cX7_holds 27 = .ok (.iload 4, 2) := by decide +kernel
theorem dX7_holds_29 : decode cX7_holds 29 = .ok (.invokestatic 181, 3) := by decide +kernel
theorem dX7_holds_32 : decode cX7_holds 32 = .ok (.ifCond .eq 7, 3) := by decide +kernel
theorem dX7_holds_35 : decode cX7_holds 35 = .ok (.iconst 1, 1) := by decide +kernel
theorem dX7_holds_36 : decode cX7_holds 36 = .ok (.goto 4, 3) := by decide +kernel
theorem dX7_holds_39 : decode cX7_holds 39 = .ok (.iconst 0, 1) := by decide +kernel
theorem dX7_holds_40 : decode cX7_holds 40 = .ok (.ireturn, 1) := by decide +kernel
set_option maxRecDepth 20000 in
theorem ggX7_settled_X7_isClaim : GoodIn wsX7_settled wsX7_isClaim := goodIn_r _ [4, 5, 6, 3, 7, 8, 9, 10] (by decide +kernel) (by decide +kernel)
set_option maxRecDepth 20000 in
theorem gX7_settled_X7_isClaim : GoodIn wsX7_settled (va_wsS RX7 131 yX7_isClaim wsX7_isClaim) := goodIn_app (goodIn_of _ (by decide +kernel)) ggX7_settled_X7_isClaim
set_option maxRecDepth 20000 in
theorem ggX7_settled_X7_asBad : GoodIn wsX7_settled wsX7_asBad := goodIn_r _ [14, 15, 64, 65, 66, 67, 68, 69, 70, 71, 72, 73, 74, 75] (by decide +kernel) (by decide +kernel)
set_option maxRecDepth 20000 in
theorem gX7_settled_X7_asBad : GoodIn wsX7_settled (wsV RX7 87 RX7 yX7_asBad wsX7_asBad) := goodIn_app (goodIn_of _ (by decide +kernel)) ggX7_settled_X7_asBad
set_option maxRecDepth 20000 in
theorem ggX7_settled_X7_weighed : GoodIn wsX7_settled wsX7_weighed := goodIn_r _ [19, 20, 21, 22, 23, 24, 25, 26, 27, 28, 29, 30, 31, 32, 33, 34, 35, 36, 37, 38, 39, 40, 41, 42, 43, 44, 45, 46, 47, 48, 49, 50, 51, 52, 53, 3, 54, 55, 56, 64, 65, 66, 67, 68, 69, 70, 71, 72, 73, 74, 75, 76, 77, 78, 79, 80, 81, 82, 83, 84, 85, 86, 87, 88, 89, 90] (by decide +kernel) (by decide +kernel)
set_option maxRecDepth 20000 in
theorem gX7_settled_X7_weighed : GoodIn wsX7_settled (wsV RX7 161 RX7 yX7_weighed wsX7_weighed) := goodIn_app (goodIn_of _ (by decide +kernel)) ggX7_settled_X7_weighed
set_option maxRecDepth 20000 in
theorem ggX7_settled_X2_verdict : GoodIn wsX7_settled wsX2_verdict := goodIn_r _ [60, 32, 61, 3, 62, 63, 53, 54, 76, 77, 78, 79] (by decide +kernel) (by decide +kernel)
set_option maxRecDepth 20000 in
theorem gX7_settled_X2_verdict : GoodIn wsX7_settled (wsV RX7 185 RX2 yX2_verdict wsX2_verdict) := goodIn_app (goodIn_of _ (by decide +kernel)) ggX7_settled_X2_verdict
theorem dX7_settled_0 : decode cX7_settled 0 = .ok (.iload_n 1, 1) := by decide +kernel
theorem dX7_settled_1 : decode cX7_settled 1 = .ok (.iload_n 2, 1) := by decide +kernel
theorem dX7_settled_2 : decode cX7_settled 2 = .ok (.iload_n 3, 1) := by decide +kernel
theorem dX7_settled_3 : decode cX7_settled 3 = .ok (.invokestatic 131, 3) := by decide +kernel
theorem dX7_settled_6 : decode cX7_settled 6 = .ok (.ifCond .ne 10, 3) := by decide +kernel
theorem dX7_settled_9 : decode cX7_settled 9 = .ok (.aload_n 0, 1) := by decide +kernel
theorem dX7_settled_10 : decode cX7_settled 10 = .ok (.bipush (-2), 2) := by decide +kernel
theorem dX7_settled_12 : decode cX7_settled 12 = .ok (.invokevirtual 87, 3) := by decide +kernel
theorem dX7_settled_15 : decode cX7_settled 15 = .ok (.ireturn, 1) := by decide +kernel
theorem dX7_settled_16 : decode cX7_settled 16 = .ok (.aload_n 0, 1) := by decide +kernel
theorem dX7_settled_17 : decode cX7_settled 17 = .ok (.invokevirtual 161, 3) := by decide +kernel
theorem dX7_settled_20 : decode cX7_settled 20 = .ok (.iload_n 1, 1) := by decide +kernel
theorem dX7_settled_21 : decode cX7_settled 21 = .ok (.iload_n 2, 1) := by decide +kernel
theorem dX7_settled_22 : decode cX7_settled 22 = .ok (.iload_n 3, 1) := by decide +kernel
theorem dX7_settled_23 : decode cX7_settled 23 = .ok (.invokevirtual 185, 3) := by decide +kernel
theorem dX7_settled_26 : decode cX7_settled 26 = .ok (.ireturn, 1) := by decide +kernel
set_option maxRecDepth 20000 in
theorem ggX7_chance_X7_isClaim : GoodIn wsX7_chance wsX7_isClaim := goodIn_r _ [6, 7, 8, 5, 9, 10, 11, 12] (by decide +kernel) (by decide +kernel)
set_option maxRecDepth 20000 in
theorem gX7_chance_X7_isClaim : GoodIn wsX7_chance (va_wsS RX7 131 yX7_isClaim wsX7_isClaim) := goodIn_app (goodIn_of _ (by decide +kernel)) ggX7_chance_X7_isClaim
set_option maxRecDepth 20000 in
theorem ggX7_chance_X7_asBad : GoodIn wsX7_chance wsX7_asBad := goodIn_r _ [16, 17, 89, 90, 91, 92, 93, 94, 95, 96, 97, 98, 99, 100] (by decide +kernel) (by decide +kernel)
set_option maxRecDepth 20000 in
theorem gX7_chance_X7_asBad : GoodIn wsX7_chance (wsV RX7 87 RX7 yX7_asBad wsX7_asBad) := goodIn_app (goodIn_of _ (by decide +kernel)) ggX7_chance_X7_asBad
set_option maxRecDepth 20000 in
theorem ggX7_chance_X7_weighed : GoodIn wsX7_chance wsX7_weighed := goodIn_r _ [21, 22, 23, 24, 25, 26, 27, 28, 29, 30, 31, 32, 33, 34, 35, 36, 37, 38, 39, 40, 41, 42, 43, 44, 45, 46, 47, 48, 49, 50, 51, 52, 53, 54, 55, 5, 56, 57, 58, 89, 90, 91, 92, 93, 94, 95, 96, 97, 98, 99, 100, 101, 102, 103, 104, 105, 106, 107, 108, 109, 110, 111, 112, 113, 114, 115] (by decide +kernel) (by decide +kernel)
set_option maxRecDepth 20000 in
theorem gX7_chance_X7_weighed : GoodIn wsX7_chance (wsV RX7 161 RX7 yX7_weighed wsX7_weighed) := goodIn_app (goodIn_of _ (by decide +kernel)) ggX7_chance_X7_weighed
set_option maxRecDepth 20000 in
theorem ggX7_chance_X2_fits : GoodIn wsX7_chance wsX2_fits := goodIn_r _ [62, 32, 101, 102, 103, 104] (by decide +kernel) (by decide +kernel)
set_option maxRecDepth 20000 in
theorem gX7_chance_X2_fits : GoodIn wsX7_chance (wsV RX7 189 RX2 yX2_fits wsX2_fits) := goodIn_app (goodIn_of _ (by decide +kernel)) ggX7_chance_X2_fits
set_option maxRecDepth 20000 in
theorem ggX7_chance_X7_asNo : GoodIn wsX7_chance wsX7_asNo := goodIn_r _ [66, 67, 89, 90, 91, 92, 93, 94, 95, 96, 97, 98, 99, 100] (by decide +kernel) (by decide +kernel)
set_option maxRecDepth 20000 in
theorem gX7_chance_X7_asNo : GoodIn wsX7_chance (wsV RX7 125 RX7 yX7_asNo wsX7_asNo) := goodIn_app (goodIn_of _ (by decide +kernel)) ggX7_chance_X7_asNo
set_option maxRecDepth 20000 in
theorem ggX7_chance_X2_held : GoodIn wsX7_chance wsX2_held := goodIn_r _ [71, 34, 72, 5, 73, 74, 55, 56, 101, 102, 103, 104] (by decide +kernel) (by decide +kernel)
set_option maxRecDepth 20000 in
theorem gX7_chance_X2_held : GoodIn wsX7_chance (wsV RX7 192 RX2 yX2_held wsX2_held) := goodIn_app (goodIn_of _ (by decide +kernel)) ggX7_chance_X2_held
set_option maxRecDepth 20000 in
theorem ggX7_chance_X0_put : GoodIn wsX7_chance wsX0_put := goodIn_r _ [79, 80, 81, 82, 83, 84, 85, 86, 87, 78, 88, 116, 117] (by decide +kernel) (by decide +kernel)
set_option maxRecDepth 20000 in
theorem gX7_chance_X0_put : GoodIn wsX7_chance (wsV RX7 200 RX0 yX0_put wsX0_put) := goodIn_app (goodIn_of _ (by decide +kernel)) ggX7_chance_X0_put
theorem dX7_chance_0 : decode cX7_chance 0 = .ok (.iload_n 1, 1) := by decide +kernel
theorem dX7_chance_1 : decode cX7_chance 1 = .ok (.iload_n 2, 1) := by decide +kernel
theorem dX7_chance_2 : decode cX7_chance 2 = .ok (.iload_n 3, 1) := by decide +kernel
theorem dX7_chance_3 : decode cX7_chance 3 = .ok (.invokestatic 131, 3) := by decide +kernel
theorem dX7_chance_6 : decode cX7_chance 6 = .ok (.ifCond .ne 10, 3) := by decide +kernel
theorem dX7_chance_9 : decode cX7_chance 9 = .ok (.aload_n 0, 1) := by decide +kernel
theorem dX7_chance_10 : decode cX7_chance 10 = .ok (.bipush (-2), 2) := by decide +kernel
theorem dX7_chance_12 : decode cX7_chance 12 = .ok (.invokevirtual 87, 3) := by decide +kernel
theorem dX7_chance_15 : decode cX7_chance 15 = .ok (.ireturn, 1) := by decide +kernel
theorem dX7_chance_16 : decode cX7_chance 16 = .ok (.aload_n 0, 1) := by decide +kernel
theorem dX7_chance_17 : decode cX7_chance 17 = .ok (.invokevirtual 161, 3) := by decide +kernel
theorem dX7_chance_20 : decode cX7_chance 20 = .ok (.astore 4, 2) := by decide +kernel
theorem dX7_chance_22 : decode cX7_chance 22 = .ok (.aload 4, 2) := by decide +kernel
theorem dX7_chance_24 : decode cX7_chance 24 = .ok (.invokevirtual 189, 3) := by decide +kernel
theorem dX7_chance_27 : decode cX7_chance 27 = .ok (.ifCond .ne 10, 3) := by decide +kernel
theorem dX7_chance_30 : decode cX7_chance 30 = .ok (.aload_n 0, 1) := by decide +kernel
theorem dX7_chance_31 : decode cX7_chance 31 = .ok (.bipush (-3), 2) := by decide +kernel
theorem dX7_chance_33 : decode cX7_chance 33 = .ok (.invokevirtual 125, 3) := by decide +kernel
theorem dX7_chance_36 : decode cX7_chance 36 = .ok (.ireturn, 1) := by decide +kernel
theorem dX7_chance_37 : decode cX7_chance 37 = .ok (.aload_n 0, 1) := by decide +kernel
theorem dX7_chance_38 : decode cX7_chance 38 = .ok (.getfield 58, 3) := by decide +kernel
theorem dX7_chance_41 : decode cX7_chance 41 = .ok (.aload 4, 2) := by decide +kernel
theorem dX7_chance_43 : decode cX7_chance 43 = .ok (.iload_n 1, 1) := by decide +kernel
theorem dX7_chance_44 : decode cX7_chance 44 = .ok (.iload_n 2, 1) := by decide +kernel
theorem dX7_chance_45 : decode cX7_chance 45 = .ok (.iload_n 3, 1) := by decide +kernel
theorem dX7_chance_46 : decode cX7_chance 46 = .ok (.invokevirtual 192, 3) := by decide +kernel
theorem dX7_chance_49 : decode cX7_chance 49 = .ok (.aload 4, 2) := by decide +kernel
theorem dX7_chance_51 : decode cX7_chance 51 = .ok (.getfield 196, 3) := by decide +kernel
theorem dX7_chance_54 : decode cX7_chance 54 = .ok (.invokevirtual 200, 3) := by decide +kernel
theorem dX7_chance_57 : decode cX7_chance 57 = .ok (.iconst 1, 1) := by decide +kernel
theorem dX7_chance_58 : decode cX7_chance 58 = .ok (.ireturn, 1) := by decide +kernel
set_option maxRecDepth 20000 in
theorem ggX7_ifFound_X7_isClaim : GoodIn wsX7_ifFound wsX7_isClaim := goodIn_r _ [5, 6, 7, 4, 8, 9, 10, 11] (by decide +kernel) (by decide +kernel)
set_option maxRecDepth 20000 in
theorem gX7_ifFound_X7_isClaim : GoodIn wsX7_ifFound (va_wsS RX7 131 yX7_isClaim wsX7_isClaim) := goodIn_app (goodIn_of _ (by decide +kernel)) ggX7_ifFound_X7_isClaim
set_option maxRecDepth 20000 in
theorem ggX7_ifFound_X7_isFind : GoodIn wsX7_ifFound wsX7_isFind := goodIn_r _ [14, 9, 10, 4, 11, 6, 7, 8] (by decide +kernel) (by decide +kernel)
set_option maxRecDepth 20000 in
theorem gX7_ifFound_X7_isFind : GoodIn wsX7_ifFound (va_wsS RX7 109 yX7_isFind wsX7_isFind) := goodIn_app (goodIn_of _ (by decide +kernel)) ggX7_ifFound_X7_isFind
set_option maxRecDepth 20000 in
theorem ggX7_ifFound_X7_asBad : GoodIn wsX7_ifFound wsX7_asBad := goodIn_r _ [18, 19, 93, 94, 95, 96, 97, 98, 99, 100, 101, 102, 103, 104] (by decide +kernel) (by decide +kernel)
set_option maxRecDepth 20000 in
theorem gX7_ifFound_X7_asBad : GoodIn wsX7_ifFound (wsV RX7 87 RX7 yX7_asBad wsX7_asBad) := goodIn_app (goodIn_of _ (by decide +kernel)) ggX7_ifFound_X7_asBad
set_option maxRecDepth 20000 in
theorem ggX7_ifFound_X7_weighed : GoodIn wsX7_ifFound wsX7_weighed := goodIn_r _ [23, 24, 25, 26, 27, 28, 29, 30, 31, 32, 33, 34, 35, 36, 37, 38, 39, 40, 41, 42, 43, 44, 45, 46, 47, 48, 49, 50, 51, 52, 53, 54, 55, 56, 57, 4, 58, 59, 60, 93, 94, 95, 96, 97, 98, 99, 100, 101, 102, 103, 104, 105, 106, 107, 108, 109, 110, 111, 112, 113, 114, 115, 116, 117, 118, 119] (by decide +kernel) (by decide +kernel)
set_option maxRecDepth 20000 in
theorem gX7_ifFound_X7_weighed : GoodIn wsX7_ifFound (wsV RX7 161 RX7 yX7_weighed wsX7_weighed) := goodIn_app (goodIn_of _ (by decide +kernel)) ggX7_ifFound_X7_weighed
set_option maxRecDepth 20000 in
theorem ggX7_ifFound_X2_totalIf : GoodIn wsX7_ifFound wsX2_totalIf := goodIn_r _ [64, 36, 65, 4, 66, 67, 57, 58, 105, 106, 107, 108] (by decide +kernel) (by decide +kernel)
set_option maxRecDepth 20000 in
theorem gX7_ifFound_X2_totalIf : GoodIn wsX7_ifFound (wsV RX7 204 RX2 yX2_totalIf wsX2_totalIf) := goodIn_app (goodIn_of _ (by decide +kernel)) ggX7_ifFound_X2_totalIf
set_option maxRecDepth 20000 in
theorem ggX7_ifFound_X7_asNo : GoodIn wsX7_ifFound wsX7_asNo := goodIn_r _ [71, 72, 93, 94, 95, 96, 97, 98, 99, 100, 101, 102, 103, 104] (by decide +kernel) (by decide +kernel)
set_option maxRecDepth 20000 in
theorem gX7_ifFound_X7_asNo : GoodIn wsX7_ifFound (wsV RX7 125 RX7 yX7_asNo wsX7_asNo) := goodIn_app (goodIn_of _ (by decide +kernel)) ggX7_ifFound_X7_asNo
set_option maxRecDepth 20000 in
theorem ggX7_ifFound_X2_heldIf : GoodIn wsX7_ifFound wsX2_heldIf := goodIn_r _ [76, 36, 77, 4, 78, 67, 57, 58, 65, 66, 105, 106, 107, 108] (by decide +kernel) (by decide +kernel)
set_option maxRecDepth 20000 in
theorem gX7_ifFound_X2_heldIf : GoodIn wsX7_ifFound (wsV RX7 207 RX2 yX2_heldIf wsX2_heldIf) := goodIn_app (goodIn_of _ (by decide +kernel)) ggX7_ifFound_X2_heldIf
set_option maxRecDepth 20000 in
theorem ggX7_ifFound_X0_put : GoodIn wsX7_ifFound wsX0_put := goodIn_r _ [83, 84, 85, 86, 87, 88, 89, 90, 91, 82, 92, 120, 121] (by decide +kernel) (by decide +kernel)
set_option maxRecDepth 20000 in
theorem gX7_ifFound_X0_put : GoodIn wsX7_ifFound (wsV RX7 200 RX0 yX0_put wsX0_put) := goodIn_app (goodIn_of _ (by decide +kernel)) ggX7_ifFound_X0_put
theorem dX7_ifFound_0 : decode cX7_ifFound 0 = .ok (.iload_n 1, 1) := by decide +kernel
theorem dX7_ifFound_1 : decode cX7_ifFound 1 = .ok (.iload_n 2, 1) := by decide +kernel
theorem dX7_ifFound_2 : decode cX7_ifFound 2 = .ok (.iload_n 3, 1) := by decide +kernel
theorem dX7_ifFound_3 : decode cX7_ifFound 3 = .ok (.invokestatic 131, 3) := by decide +kernel
theorem dX7_ifFound_6 : decode cX7_ifFound 6 = .ok (.ifCond .eq 15, 3) := by decide +kernel
theorem dX7_ifFound_9 : decode cX7_ifFound 9 = .ok (.iload 4, 2) := by decide +kernel
theorem dX7_ifFound_11 : decode cX7_ifFound 11 = .ok (.iload 5, 2) := by decide +kernel
theorem dX7_ifFound_13 : decode cX7_ifFound 13 = .ok (.iload 6, 2) := by decide +kernel
theorem dX7_ifFound_15 : decode cX7_ifFound 15 = .ok (.invokestatic 109, 3) := by decide +kernel
theorem dX7_ifFound_18 : decode cX7_ifFound 18 = .ok (.ifCond .ne 10, 3) := by decide +kernel
theorem dX7_ifFound_21 : decode cX7_ifFound 21 = .ok (.aload_n 0, 1) := by decide +kernel
theorem dX7_ifFound_22 : decode cX7_ifFound 22 = .ok (.bipush (-2), 2) := by decide +kernel
theorem dX7_ifFound_24 : decode cX7_ifFound 24 = .ok (.invokevirtual 87, 3) := by decide +kernel
theorem dX7_ifFound_27 : decode cX7_ifFound 27 = .ok (.ireturn, 1) := by decide +kernel
theorem dX7_ifFound_28 : decode cX7_ifFound 28 = .ok (.aload_n 0, 1) := by decide +kernel
theorem dX7_ifFound_29 : decode cX7_ifFound 29 = .ok (.invokevirtual 161, 3) := by decide +kernel
theorem dX7_ifFound_32 : decode cX7_ifFound 32 = .ok (.astore 7, 2) := by decide +kernel
theorem dX7_ifFound_34 : decode cX7_ifFound 34 = .ok (.aload 7, 2) := by decide +kernel
theorem dX7_ifFound_36 : decode cX7_ifFound 36 = .ok (.iload 4, 2) := by decide +kernel
theorem dX7_ifFound_38 : decode cX7_ifFound 38 = .ok (.iload 5, 2) := by decide +kernel
theorem dX7_ifFound_40 : decode cX7_ifFound 40 = .ok (.iload 6, 2) := by decide +kernel
theorem dX7_ifFound_42 : decode cX7_ifFound 42 = .ok (.invokevirtual 204, 3) := by decide +kernel
theorem dX7_ifFound_45 : decode cX7_ifFound 45 = .ok (.lstore 8, 2) := by decide +kernel
theorem dX7_ifFound_47 : decode cX7_ifFound 47 = .ok (.lload 8, 2) := by decide +kernel
theorem dX7_ifFound_49 : decode cX7_ifFound 49 = .ok (.lconst 0, 1) := by decide +kernel
theorem dX7_ifFound_50 : decode cX7_ifFound 50 = .ok (.lcmp, 1) := by decide +kernel
theorem dX7_ifFound_51 : decode cX7_ifFound 51 = .ok (.ifCond .gt 10, 3) := by decide +kernel
theorem dX7_ifFound_54 : decode cX7_ifFound 54 = .ok (.aload_n 0, 1) := by decide +kernel
theorem dX7_ifFound_55 : decode cX7_ifFound 55 = .ok (.bipush (-3), 2) := by decide +kernel
theorem dX7_ifFound_57 : decode cX7_ifFound 57 = .ok (.invokevirtual 125, 3) := by decide +kernel
theorem dX7_ifFound_60 : decode cX7_ifFound 60 = .ok (.ireturn, 1) := by decide +kernel
theorem dX7_ifFound_61 : decode cX7_ifFound 61 = .ok (.aload_n 0, 1) := by decide +kernel
theorem dX7_ifFound_62 : decode cX7_ifFound 62 = .ok (.getfield 58, 3) := by decide +kernel
theorem dX7_ifFound_65 : decode cX7_ifFound 65 = .ok (.aload 7, 2) := by decide +kernel
theorem dX7_ifFound_67 : decode cX7_ifFound 67 = .ok (.iload_n 1, 1) := by decide +kernel
theorem dX7_ifFound_68 : decode cX7_ifFound 68 = .ok (.iload_n 2, 1) := by decide +kernel
theorem dX7_ifFound_69 : decode cX7_ifFound 69 = .ok (.iload_n 3, 1) := by decide +kernel
theorem dX7_ifFound_70 : decode cX7_ifFound 70 = .ok (.iload 4, 2) := by decide +kernel
theorem dX7_ifFound_72 : decode cX7_ifFound 72 = .ok (.iload 5, 2) := by decide +kernel
theorem dX7_ifFound_74 : decode cX7_ifFound 74 = .ok (.iload 6, 2) := by decide +kernel
theorem dX7_ifFound_76 : decode cX7_ifFound 76 = .ok (.invokevirtual 207, 3) := by decide +kernel
theorem dX7_ifFound_79 : decode cX7_ifFound 79 = .ok (.lload 8, 2) := by decide +kernel
theorem dX7_ifFound_81 : decode cX7_ifFound 81 = .ok (.invokevirtual 200, 3) := by decide +kernel
theorem dX7_ifFound_84 : decode cX7_ifFound 84 = .ok (.iconst 1, 1) := by decide +kernel
theorem dX7_ifFound_85 : decode cX7_ifFound 85 = .ok (.ireturn, 1) := by decide +kernel
set_option maxRecDepth 20000 in
theorem ggX7_book_X7_isPast : GoodIn wsX7_book wsX7_isPast := goodIn_r _ [7, 8, 9, 6, 10] (by decide +kernel) (by decide +kernel)
set_option maxRecDepth 20000 in
theorem gX7_book_X7_isPast : GoodIn wsX7_book (va_wsS RX7 171 yX7_isPast wsX7_isPast) := goodIn_app (goodIn_of _ (by decide +kernel)) ggX7_book_X7_isPast
set_option maxRecDepth 20000 in
theorem ggX7_book_X7_asBad : GoodIn wsX7_book wsX7_asBad := goodIn_r _ [14, 15, 40, 41, 42, 43, 44, 45, 46, 47, 48, 49, 50, 51] (by decide +kernel) (by decide +kernel)
set_option maxRecDepth 20000 in
theorem gX7_book_X7_asBad : GoodIn wsX7_book (wsV RX7 87 RX7 yX7_asBad wsX7_asBad) := goodIn_app (goodIn_of _ (by decide +kernel)) ggX7_book_X7_asBad
set_option maxRecDepth 20000 in
theorem ggX7_book_X7_bookIn : GoodIn wsX7_book wsX7_bookIn := goodIn_r _ [18, 19, 20, 21, 6, 22, 23, 24, 25, 26, 27, 28, 29, 30, 31, 32, 33, 34, 35, 36, 37, 38, 39, 59, 60, 61, 62] (by decide +kernel) (by decide +kernel)
set_option maxRecDepth 20000 in
theorem gX7_book_X7_bookIn : GoodIn wsX7_book (va_wsS RX7 212 yX7_bookIn wsX7_bookIn) := goodIn_app (goodIn_of _ (by decide +kernel)) ggX7_book_X7_bookIn
theorem dX7_book_0 : decode cX7_book 0 = .ok (.iload_n 1, 1) := by decide +kernel
theorem dX7_book_1 : decode cX7_book 1 = .ok (.invokestatic 171, 3) := by decide +kernel
theorem dX7_book_4 : decode cX7_book 4 = .ok (.ifCond .ne 10, 3) := by decide +kernel
theorem dX7_book_7 : decode cX7_book 7 = .ok (.aload_n 0, 1) := by decide +kernel
theorem dX7_book_8 : decode cX7_book 8 = .ok (.ldc 211, 2) := by decide +kernel
theorem dX7_book_10 : decode cX7_book 10 = .ok (.invokevirtual 87, 3) := by decide +kernel
theorem dX7_book_13 : decode cX7_book 13 = .ok (.ireturn, 1) := by decide +kernel
theorem dX7_book_14 : decode cX7_book 14 = .ok (.aload_n 0, 1) := by decide +kernel
theorem dX7_book_15 : decode cX7_book 15 = .ok (.getfield 12, 3) := by decide +kernel
theorem dX7_book_18 : decode cX7_book 18 = .ok (.getfield 134, 3) := by decide +kernel
theorem dX7_book_21 : decode cX7_book 21 = .ok (.iload_n 1, 1) := by decide +kernel
theorem dX7_book_22 : decode cX7_book 22 = .ok (.invokestatic 212, 3) := by decide +kernel
theorem dX7_book_25 : decode cX7_book 25 = .ok (.ireturn, 1) := by decide +kernel
set_option maxRecDepth 20000 in
theorem ggX7_worst_X7_isWithin : GoodIn wsX7_worst wsX7_isWithin := goodIn_r _ [11] (by decide +kernel) (by decide +kernel)
set_option maxRecDepth 20000 in
theorem gX7_worst_X7_isWithin : GoodIn wsX7_worst (va_wsS RX7 79 yX7_isWithin wsX7_isWithin) := goodIn_app (goodIn_of _ (by decide +kernel)) ggX7_worst_X7_isWithin
set_option maxRecDepth 20000 in
theorem ggX7_worst_X7_asBad : GoodIn wsX7_worst wsX7_asBad := goodIn_r _ [15, 16, 88, 89, 90, 91, 92, 93, 94, 95, 96, 97, 98, 99] (by decide +kernel) (by decide +kernel)
set_option maxRecDepth 20000 in
theorem gX7_worst_X7_asBad : GoodIn wsX7_worst (wsV RX7 87 RX7 yX7_asBad wsX7_asBad) := goodIn_app (goodIn_of _ (by decide +kernel)) ggX7_worst_X7_asBad
set_option maxRecDepth 20000 in
theorem ggX7_worst_X7_weighed : GoodIn wsX7_worst wsX7_weighed := goodIn_r _ [20, 21, 22, 4, 23, 24, 25, 26, 27, 28, 29, 30, 31, 32, 33, 34, 35, 36, 37, 38, 39, 40, 41, 42, 43, 44, 45, 46, 47, 48, 49, 50, 51, 52, 53, 10, 54, 55, 56, 88, 89, 90, 91, 92, 93, 94, 95, 96, 97, 98, 99, 116, 117, 118, 119, 100, 101, 102, 103, 104, 105, 106, 120, 121, 122, 123] (by decide +kernel) (by decide +kernel)
set_option maxRecDepth 20000 in
theorem gX7_worst_X7_weighed : GoodIn wsX7_worst (wsV RX7 161 RX7 yX7_weighed wsX7_weighed) := goodIn_app (goodIn_of _ (by decide +kernel)) ggX7_worst_X7_weighed
set_option maxRecDepth 20000 in
theorem ggX7_worst_X2_fits : GoodIn wsX7_worst wsX2_fits := goodIn_r _ [60, 30, 116, 117, 118, 119] (by decide +kernel) (by decide +kernel)
set_option maxRecDepth 20000 in
theorem gX7_worst_X2_fits : GoodIn wsX7_worst (wsV RX7 189 RX2 yX2_fits wsX2_fits) := goodIn_app (goodIn_of _ (by decide +kernel)) ggX7_worst_X2_fits
set_option maxRecDepth 20000 in
theorem ggX7_worst_X7_asNo : GoodIn wsX7_worst wsX7_asNo := goodIn_r _ [64, 65, 88, 89, 90, 91, 92, 93, 94, 95, 96, 97, 98, 99] (by decide +kernel) (by decide +kernel)
set_option maxRecDepth 20000 in
theorem gX7_worst_X7_asNo : GoodIn wsX7_worst (wsV RX7 125 RX7 yX7_asNo wsX7_asNo) := goodIn_app (goodIn_of _ (by decide +kernel)) ggX7_worst_X7_asNo
set_option maxRecDepth 20000 in
theorem ggX7_worst_X1_seekWorst : GoodIn wsX7_worst wsX1_seekWorst := goodIn_r _ [70, 71, 72, 73, 74, 10, 75, 76, 77, 78, 79, 80, 43, 44, 45, 46, 47, 48, 49, 81, 82, 83, 84, 85, 86, 87, 53, 54, 107, 108, 109, 110, 111, 112, 113, 114, 115, 116, 117, 118, 119, 120, 121, 122, 123] (by decide +kernel) (by decide +kernel)
set_option maxRecDepth 20000 in
theorem gX7_worst_X1_seekWorst : GoodIn wsX7_worst (wsV RX7 217 RX1 yX1_seekWorst wsX1_seekWorst) := goodIn_app (goodIn_of _ (by decide +kernel)) ggX7_worst_X1_seekWorst
theorem dX7_worst_0 : decode cX7_worst 0 = .ok (.iload_n 1, 1) := by decide +kernel
theorem dX7_worst_1 : decode cX7_worst 1 = .ok (.iconst 0, 1) := by decide +kernel
theorem dX7_worst_2 : decode cX7_worst 2 = .ok (.iconst 1, 1) := by decide +kernel
theorem dX7_worst_3 : decode cX7_worst 3 = .ok (.invokestatic 79, 3) := by decide +kernel
theorem dX7_worst_6 : decode cX7_worst 6 = .ok (.ifCond .ne 10, 3) := by decide +kernel
theorem dX7_worst_9 : decode cX7_worst 9 = .ok (.aload_n 0, 1) := by decide +kernel
theorem dX7_worst_10 : decode cX7_worst 10 = .ok (.ldc 211, 2) := by decide +kernel
theorem dX7_worst_12 : decode cX7_worst 12 = .ok (.invokevirtual 87, 3) := by decide +kernel
theorem dX7_worst_15 : decode cX7_worst 15 = .ok (.ireturn, 1) := by decide +kernel
theorem dX7_worst_16 : decode cX7_worst 16 = .ok (.aload_n 0, 1) := by decide +kernel
theorem dX7_worst_17 : decode cX7_worst 17 = .ok (.invokevirtual 161, 3) := by decide +kernel
theorem dX7_worst_20 : decode cX7_worst 20 = .ok (.astore_n 2, 1) := by decide +kernel
theorem dX7_worst_21 : decode cX7_worst 21 = .ok (.aload_n 2, 1) := by decide +kernel
theorem dX7_worst_22 : decode cX7_worst 22 = .ok (.invokevirtual 189, 3) := by decide +kernel
theorem dX7_worst_25 : decode cX7_worst 25 = .ok (.ifCond .ne 10, 3) := by decide +kernel
theorem dX7_worst_28 : decode cX7_worst 28 = .ok (.aload_n 0, 1) := by decide +kernel
theorem dX7_worst_29 : decode cX7_worst 29 = .ok (.ldc 216, 2) := by decide +kernel
theorem dX7_worst_31 : decode cX7_worst 31 = .ok (.invokevirtual 125, 3) := by decide +kernel
theorem dX7_worst_34 : decode cX7_worst 34 = .ok (.ireturn, 1) := by decide +kernel
theorem dX7_worst_35 : decode cX7_worst 35 = .ok (.aload_n 0, 1) := by decide +kernel
theorem dX7_worst_36 : decode cX7_worst 36 = .ok (.getfield 37, 3) := by decide +kernel
theorem dX7_worst_39 : decode cX7_worst 39 = .ok (.aload_n 0, 1) := by decide +kernel
theorem dX7_worst_40 : decode cX7_worst 40 = .ok (.getfield 12, 3) := by decide +kernel
theorem dX7_worst_43 : decode cX7_worst 43 = .ok (.getfield 134, 3) := by decide +kernel
theorem dX7_worst_46 : decode cX7_worst 46 = .ok (.aload_n 2, 1) := by decide +kernel
theorem dX7_worst_47 : decode cX7_worst 47 = .ok (.invokevirtual 217, 3) := by decide +kernel
theorem dX7_worst_50 : decode cX7_worst 50 = .ok (.iload_n 1, 1) := by decide +kernel
theorem dX7_worst_51 : decode cX7_worst 51 = .ok (.ifCond .ne 13, 3) := by decide +kernel
theorem dX7_worst_54 : decode cX7_worst 54 = .ok (.aload_n 0, 1) := by decide +kernel
theorem dX7_worst_55 : decode cX7_worst 55 = .ok (.getfield 37, 3) := by decide +kernel
theorem dX7_worst_58 : decode cX7_worst 58 = .ok (.getfield 221, 3) := by decide +kernel
theorem dX7_worst_61 : decode cX7_worst 61 = .ok (.goto 10, 3) := by decide +kernel
theorem dX7_worst_64 : decode cX7_worst 64 = .ok (.aload_n 0, 1) := by decide +kernel
theorem dX7_worst_65 : decode cX7_worst 65 = .ok (.getfield 37, 3) := by decide +kernel
theorem dX7_worst_68 : decode cX7_worst 68 = .ok (.getfield 224, 3) := by decide +kernel
theorem dX7_worst_71 : decode cX7_worst 71 = .ok (.ireturn, 1) := by decide +kernel
set_option maxRecDepth 20000 in
theorem ggX7_mean_X7_weighed : GoodIn wsX7_mean wsX7_weighed := goodIn_r _ [9, 10, 11, 2, 12, 13, 14, 15, 16, 17, 18, 19, 20, 21, 22, 23, 24, 25, 26, 27, 28, 29, 30, 31, 32, 33, 34, 35, 36, 37, 38, 39, 40, 41, 42, 8, 43, 44, 45, 88, 89, 90, 91, 92, 93, 94, 95, 96, 97, 98, 99, 107, 108, 109, 110, 100, 101, 102, 103, 104, 105, 106, 111, 112, 113, 114] (by decide +kernel) (by decide +kernel)
set_option maxRecDepth 20000 in
theorem gX7_mean_X7_weighed : GoodIn wsX7_mean (wsV RX7 161 RX7 yX7_weighed wsX7_weighed) := goodIn_app (goodIn_of _ (by decide +kernel)) ggX7_mean_X7_weighed
set_option maxRecDepth 20000 in
theorem ggX7_mean_X2_fits : GoodIn wsX7_mean wsX2_fits := goodIn_r _ [49, 19, 107, 108, 109, 110] (by decide +kernel) (by decide +kernel)
set_option maxRecDepth 20000 in
theorem gX7_mean_X2_fits : GoodIn wsX7_mean (wsV RX7 189 RX2 yX2_fits wsX2_fits) := goodIn_app (goodIn_of _ (by decide +kernel)) ggX7_mean_X2_fits
set_option maxRecDepth 20000 in
theorem ggX7_mean_X7_asNo : GoodIn wsX7_mean wsX7_asNo := goodIn_r _ [53, 54, 88, 89, 90, 91, 92, 93, 94, 95, 96, 97, 98, 99] (by decide +kernel) (by decide +kernel)
set_option maxRecDepth 20000 in
theorem gX7_mean_X7_asNo : GoodIn wsX7_mean (wsV RX7 125 RX7 yX7_asNo wsX7_asNo) := goodIn_app (goodIn_of _ (by decide +kernel)) ggX7_mean_X7_asNo
set_option maxRecDepth 20000 in
theorem ggX7_mean_X1_weighedBook : GoodIn wsX7_mean wsX1_weighedBook := goodIn_r _ [58, 59, 60, 8, 61, 62, 63, 64, 65, 66, 32, 33, 34, 35, 36, 37, 38, 67, 68, 69, 70, 71, 72, 73, 42, 43, 107, 108, 109, 110, 111, 112, 113, 114] (by decide +kernel) (by decide +kernel)
set_option maxRecDepth 20000 in
theorem gX7_mean_X1_weighedBook : GoodIn wsX7_mean (va_wsS RX7 227 yX1_weighedBook wsX1_weighedBook) := goodIn_app (goodIn_of _ (by decide +kernel)) ggX7_mean_X1_weighedBook
set_option maxRecDepth 20000 in
theorem ggX7_mean_X0_put : GoodIn wsX7_mean wsX0_put := goodIn_r _ [78, 79, 80, 81, 82, 83, 84, 85, 86, 77, 87, 115, 116] (by decide +kernel) (by decide +kernel)
set_option maxRecDepth 20000 in
theorem gX7_mean_X0_put : GoodIn wsX7_mean (wsV RX7 200 RX0 yX0_put wsX0_put) := goodIn_app (goodIn_of _ (by decide +kernel)) ggX7_mean_X0_put
theorem dX7_mean_0 : decode cX7_mean 0 = .ok (.aload_n 0, 1) := by decide +kernel
theorem dX7_mean_1 : decode cX7_mean 1 = .ok (.invokevirtual 161, 3) := by decide +kernel
theorem dX7_mean_4 : decode cX7_mean 4 = .ok (.astore_n 1, 1) := by decide +kernel
theorem dX7_mean_5 : decode cX7_mean 5 = .ok (.aload_n 1, 1) := by decide +kernel
theorem dX7_mean_6 : decode cX7_mean 6 = .ok (.invokevirtual 189, 3) := by decide +kernel
theorem dX7_mean_9 : decode cX7_mean 9 = .ok (.ifCond .ne 10, 3) := by decide +kernel
theorem dX7_mean_12 : decode cX7_mean 12 = .ok (.aload_n 0, 1) := by decide +kernel
theorem dX7_mean_13 : decode cX7_mean 13 = .ok (.bipush (-3), 2) := by decide +kernel
theorem dX7_mean_15 : decode cX7_mean 15 = .ok (.invokevirtual 125, 3) := by decide +kernel
theorem dX7_mean_18 : decode cX7_mean 18 = .ok (.ireturn, 1) := by decide +kernel
theorem dX7_mean_19 : decode cX7_mean 19 = .ok (.aload_n 0, 1) := by decide +kernel
theorem dX7_mean_20 : decode cX7_mean 20 = .ok (.getfield 58, 3) := by decide +kernel
theorem dX7_mean_23 : decode cX7_mean 23 = .ok (.aload_n 0, 1) := by decide +kernel
theorem dX7_mean_24 : decode cX7_mean 24 = .ok (.getfield 12, 3) := by decide +kernel
theorem dX7_mean_27 : decode cX7_mean 27 = .ok (.getfield 134, 3) := by decide +kernel
theorem dX7_mean_30 : decode cX7_mean 30 = .ok (.aload_n 1, 1) := by decide +kernel
theorem dX7_mean_31 : decode cX7_mean 31 = .ok (.invokestatic 227, 3) := by decide +kernel
theorem dX7_mean_34 : decode cX7_mean 34 = .ok (.aload_n 1, 1) := by decide +kernel
theorem dX7_mean_35 : decode cX7_mean 35 = .ok (.getfield 196, 3) := by decide +kernel
theorem dX7_mean_38 : decode cX7_mean 38 = .ok (.invokevirtual 200, 3) := by decide +kernel
theorem dX7_mean_41 : decode cX7_mean 41 = .ok (.iconst 1, 1) := by decide +kernel
theorem dX7_mean_42 : decode cX7_mean 42 = .ok (.ireturn, 1) := by decide +kernel
set_option maxRecDepth 20000 in
theorem ggX7_sure_X7_isWithin : GoodIn wsX7_sure wsX7_isWithin := goodIn_r _ [9] (by decide +kernel) (by decide +kernel)
set_option maxRecDepth 20000 in
theorem gX7_sure_X7_isWithin : GoodIn wsX7_sure (va_wsS RX7 79 yX7_isWithin wsX7_isWithin) := goodIn_app (goodIn_of _ (by decide +kernel)) ggX7_sure_X7_isWithin
set_option maxRecDepth 20000 in
theorem ggX7_sure_X7_asBad : GoodIn wsX7_sure wsX7_asBad := goodIn_r _ [13, 14, 107, 108, 109, 110, 111, 112, 113, 114, 115, 116, 117, 118] (by decide +kernel) (by decide +kernel)
set_option maxRecDepth 20000 in
theorem gX7_sure_X7_asBad : GoodIn wsX7_sure (wsV RX7 87 RX7 yX7_asBad wsX7_asBad) := goodIn_app (goodIn_of _ (by decide +kernel)) ggX7_sure_X7_asBad
set_option maxRecDepth 20000 in
theorem ggX7_sure_X7_weighed : GoodIn wsX7_sure wsX7_weighed := goodIn_r _ [18, 19, 20, 2, 21, 22, 23, 24, 25, 26, 27, 28, 29, 30, 31, 32, 33, 34, 35, 36, 37, 38, 39, 40, 41, 42, 43, 44, 45, 46, 47, 48, 49, 50, 51, 8, 52, 53, 54, 107, 108, 109, 110, 111, 112, 113, 114, 115, 116, 117, 118, 135, 136, 137, 138, 119, 120, 121, 122, 123, 124, 125, 139, 140, 141, 142] (by decide +kernel) (by decide +kernel)
set_option maxRecDepth 20000 in
theorem gX7_sure_X7_weighed : GoodIn wsX7_sure (wsV RX7 161 RX7 yX7_weighed wsX7_weighed) := goodIn_app (goodIn_of _ (by decide +kernel)) ggX7_sure_X7_weighed
set_option maxRecDepth 20000 in
theorem ggX7_sure_X1_seekSure : GoodIn wsX7_sure wsX1_seekSure := goodIn_r _ [59, 60, 61, 62, 63, 64, 65, 66, 67, 68, 69, 70, 71, 72, 73, 58, 74, 75, 76, 77, 78, 79, 80, 81, 8, 82, 83, 41, 42, 43, 44, 45, 46, 47, 84, 85, 86, 87, 51, 52, 88, 89, 90, 91, 92, 93, 94, 95, 96, 97, 98, 99, 100, 101, 102, 103, 104, 105, 106, 126, 127, 128, 129, 130, 131, 132, 133, 134, 139, 140, 141, 142, 135, 136, 137, 138] (by decide +kernel) (by decide +kernel)
set_option maxRecDepth 20000 in
theorem gX7_sure_X1_seekSure : GoodIn wsX7_sure (wsV RX7 231 RX1 yX1_seekSure wsX1_seekSure) := goodIn_app (goodIn_of _ (by decide +kernel)) ggX7_sure_X1_seekSure
theorem dX7_sure_0 : decode cX7_sure 0 = .ok (.iload_n 1, 1) := by decide +kernel
theorem dX7_sure_1 : decode cX7_sure 1 = .ok (.iconst 0, 1) := by decide +kernel
theorem dX7_sure_2 : decode cX7_sure 2 = .ok (.iconst 1, 1) := by decide +kernel
theorem dX7_sure_3 : decode cX7_sure 3 = .ok (.invokestatic 79, 3) := by decide +kernel
theorem dX7_sure_6 : decode cX7_sure 6 = .ok (.ifCond .ne 10, 3) := by decide +kernel
theorem dX7_sure_9 : decode cX7_sure 9 = .ok (.aload_n 0, 1) := by decide +kernel
theorem dX7_sure_10 : decode cX7_sure 10 = .ok (.bipush (-2), 2) := by decide +kernel
theorem dX7_sure_12 : decode cX7_sure 12 = .ok (.invokevirtual 87, 3) := by decide +kernel
theorem dX7_sure_15 : decode cX7_sure 15 = .ok (.ireturn, 1) := by decide +kernel
theorem dX7_sure_16 : decode cX7_sure 16 = .ok (.aload_n 0, 1) := by decide +kernel
theorem dX7_sure_17 : decode cX7_sure 17 = .ok (.getfield 37, 3) := by decide +kernel
theorem dX7_sure_20 : decode cX7_sure 20 = .ok (.aload_n 0, 1) := by decide +kernel
theorem dX7_sure_21 : decode cX7_sure 21 = .ok (.getfield 12, 3) := by decide +kernel
theorem dX7_sure_24 : decode cX7_sure 24 = .ok (.getfield 134, 3) := by decide +kernel
theorem dX7_sure_27 : decode cX7_sure 27 = .ok (.aload_n 0, 1) := by decide +kernel
theorem dX7_sure_28 : decode cX7_sure 28 = .ok (.invokevirtual 161, 3) := by decide +kernel
theorem dX7_sure_31 : decode cX7_sure 31 = .ok (.invokevirtual 231, 3) := by decide +kernel
theorem dX7_sure_34 : decode cX7_sure 34 = .ok (.aload_n 0, 1) := by decide +kernel
theorem dX7_sure_35 : decode cX7_sure 35 = .ok (.getfield 37, 3) := by decide +kernel
theorem dX7_sure_38 : decode cX7_sure 38 = .ok (.getfield 234, 3) := by decide +kernel
theorem dX7_sure_41 : decode cX7_sure 41 = .ok (.ifCond .ne 5, 3) := by decide +kernel
theorem dX7_sure_44 : decode cX7_sure 44 = .ok (.iconst (-1), 1) := by decide +kernel
theorem dX7_sure_45 : decode cX7_sure 45 = .ok (.ireturn, 1) := by decide +kernel
theorem dX7_sure_46 : decode cX7_sure 46 = .ok (.iload_n 1, 1) := by decide +kernel
theorem dX7_sure_47 : decode cX7_sure 47 = .ok (.ifCond .ne 13, 3) := by decide +kernel
theorem dX7_sure_50 : decode cX7_sure 50 = .ok (.aload_n 0, 1) := by decide +kernel
theorem dX7_sure_51 : decode cX7_sure 51 = .ok (.getfield 37, 3) := by decide +kernel
theorem dX7_sure_54 : decode cX7_sure 54 = .ok (.getfield 234, 3) := by decide +kernel
theorem dX7_sure_57 : decode cX7_sure 57 = .ok (.goto 10, 3) := by decide +kernel
theorem dX7_sure_60 : decode cX7_sure 60 = .ok (.aload_n 0, 1) := by decide +kernel
theorem dX7_sure_61 : decode cX7_sure 61 = .ok (.getfield 37, 3) := by decide +kernel
theorem dX7_sure_64 : decode cX7_sure 64 = .ok (.getfield 237, 3) := by decide +kernel
theorem dX7_sure_67 : decode cX7_sure 67 = .ok (.ireturn, 1) := by decide +kernel
set_option maxRecDepth 20000 in
theorem ggX7_worth_X6_has : GoodIn wsX7_worth wsX6_has := goodIn_r _ [9, 10, 125, 126, 127, 128] (by decide +kernel) (by decide +kernel)
set_option maxRecDepth 20000 in
theorem gX7_worth_X6_has : GoodIn wsX7_worth (wsV RX7 115 RX6 yX6_has wsX6_has) := goodIn_app (goodIn_of _ (by decide +kernel)) ggX7_worth_X6_has
set_option maxRecDepth 20000 in
theorem ggX7_worth_X7_isFact : GoodIn wsX7_worth wsX7_isFact := goodIn_r _ [14, 15, 16, 13, 17] (by decide +kernel) (by decide +kernel)
set_option maxRecDepth 20000 in
theorem gX7_worth_X7_isFact : GoodIn wsX7_worth (va_wsS RX7 83 yX7_isFact wsX7_isFact) := goodIn_app (goodIn_of _ (by decide +kernel)) ggX7_worth_X7_isFact
set_option maxRecDepth 20000 in
theorem ggX7_worth_X7_asBad : GoodIn wsX7_worth wsX7_asBad := goodIn_r _ [21, 22, 102, 103, 104, 105, 106, 107, 108, 109, 110, 111, 112, 113] (by decide +kernel) (by decide +kernel)
set_option maxRecDepth 20000 in
theorem gX7_worth_X7_asBad : GoodIn wsX7_worth (wsV RX7 87 RX7 yX7_asBad wsX7_asBad) := goodIn_app (goodIn_of _ (by decide +kernel)) ggX7_worth_X7_asBad
set_option maxRecDepth 20000 in
theorem ggX7_worth_X7_weighed : GoodIn wsX7_worth wsX7_weighed := goodIn_r _ [26, 27, 28, 1, 29, 30, 31, 32, 33, 34, 35, 36, 37, 38, 39, 40, 41, 42, 43, 44, 45, 46, 47, 48, 49, 50, 8, 51, 10, 52, 53, 54, 55, 56, 57, 13, 58, 59, 60, 102, 103, 104, 105, 106, 107, 108, 109, 110, 111, 112, 113, 121, 122, 123, 124, 114, 115, 116, 117, 118, 119, 120, 125, 126, 127, 128] (by decide +kernel) (by decide +kernel)
set_option maxRecDepth 20000 in
theorem gX7_worth_X7_weighed : GoodIn wsX7_worth (wsV RX7 161 RX7 yX7_weighed wsX7_weighed) := goodIn_app (goodIn_of _ (by decide +kernel)) ggX7_worth_X7_weighed
set_option maxRecDepth 20000 in
theorem ggX7_worth_X2_fits : GoodIn wsX7_worth wsX2_fits := goodIn_r _ [64, 36, 121, 122, 123, 124] (by decide +kernel) (by decide +kernel)
set_option maxRecDepth 20000 in
theorem gX7_worth_X2_fits : GoodIn wsX7_worth (wsV RX7 189 RX2 yX2_fits wsX2_fits) := goodIn_app (goodIn_of _ (by decide +kernel)) ggX7_worth_X2_fits
set_option maxRecDepth 20000 in
theorem ggX7_worth_X7_asNo : GoodIn wsX7_worth wsX7_asNo := goodIn_r _ [68, 69, 102, 103, 104, 105, 106, 107, 108, 109, 110, 111, 112, 113] (by decide +kernel) (by decide +kernel)
set_option maxRecDepth 20000 in
theorem gX7_worth_X7_asNo : GoodIn wsX7_worth (wsV RX7 125 RX7 yX7_asNo wsX7_asNo) := goodIn_app (goodIn_of _ (by decide +kernel)) ggX7_worth_X7_asNo
set_option maxRecDepth 20000 in
theorem ggX7_worth_X1_weighedWorth : GoodIn wsX7_worth wsX1_weighedWorth := goodIn_r _ [73, 74, 75, 76, 77, 78, 79, 13, 80, 81, 49, 50, 8, 51, 10, 52, 53, 82, 83, 84, 85, 86, 87, 88, 57, 58, 121, 122, 123, 124, 125, 126, 127, 128] (by decide +kernel) (by decide +kernel)
set_option maxRecDepth 20000 in
theorem gX7_worth_X1_weighedWorth : GoodIn wsX7_worth (va_wsS RX7 240 yX1_weighedWorth wsX1_weighedWorth) := goodIn_app (goodIn_of _ (by decide +kernel)) ggX7_worth_X1_weighedWorth
set_option maxRecDepth 20000 in
theorem ggX7_worth_X0_put : GoodIn wsX7_worth wsX0_put := goodIn_r _ [93, 94, 95, 77, 96, 97, 98, 99, 100, 92, 101, 129, 130] (by decide +kernel) (by decide +kernel)
set_option maxRecDepth 20000 in
theorem gX7_worth_X0_put : GoodIn wsX7_worth (wsV RX7 200 RX0 yX0_put wsX0_put) := goodIn_app (goodIn_of _ (by decide +kernel)) ggX7_worth_X0_put
theorem dX7_worth_0 : decode cX7_worth 0 = .ok (.aload_n 0, 1) := by decide +kernel
theorem dX7_worth_1 : decode cX7_worth 1 = .ok (.getfield 12, 3) := by decide +kernel
theorem dX7_worth_4 : decode cX7_worth 4 = .ok (.getfield 134, 3) := by decide +kernel
theorem dX7_worth_7 : decode cX7_worth 7 = .ok (.iload_n 1, 1) := by decide +kernel
theorem dX7_worth_8 : decode cX7_worth 8 = .ok (.invokevirtual 115, 3) := by decide +kernel
theorem dX7_worth_11 : decode cX7_worth 11 = .ok (.ifCond .eq 10, 3) := by decide +kernel
theorem dX7_worth_14 : decode cX7_worth 14 = .ok (.iload_n 2, 1) := by decide +kernel
theorem dX7_worth_15 : decode cX7_worth 15 = .ok (.invokestatic 83, 3) := by decide +kernel
theorem dX7_worth_18 : decode cX7_worth 18 = .ok (.ifCond .ne 10, 3) := by decide +kernel
theorem dX7_worth_21 : decode cX7_worth 21 = .ok (.aload_n 0, 1) := by decide +kernel
theorem dX7_worth_22 : decode cX7_worth 22 = .ok (.bipush (-2), 2) := by decide +kernel
theorem dX7_worth_24 : decode cX7_worth 24 = .ok (.invokevirtual 87, 3) := by decide +kernel
theorem dX7_worth_27 : decode cX7_worth 27 = .ok (.ireturn, 1) := by decide +kernel
theorem dX7_worth_28 : decode cX7_worth 28 = .ok (.aload_n 0, 1) := by decide +kernel
theorem dX7_worth_29 : decode cX7_worth 29 = .ok (.invokevirtual 161, 3) := by decide +kernel
theorem dX7_worth_32 : decode cX7_worth 32 = .ok (.astore_n 3, 1) := by decide +kernel
theorem dX7_worth_33 : decode cX7_worth 33 = .ok (.aload_n 3, 1) := by decide +kernel
theorem dX7_worth_34 : decode cX7_worth 34 = .ok (.invokevirtual 189, 3) := by decide +kernel
theorem dX7_worth_37 : decode cX7_worth 37 = .ok (.ifCond .ne 10, 3) := by decide +kernel
theorem dX7_worth_40 : decode cX7_worth 40 = .ok (.aload_n 0, 1) := by decide +kernel
theorem dX7_worth_41 : decode cX7_worth 41 = .ok (.bipush (-3), 2) := by decide +kernel
theorem dX7_worth_43 : decode cX7_worth 43 = .ok (.invokevirtual 125, 3) := by decide +kernel
theorem dX7_worth_46 : decode cX7_worth 46 = .ok (.ireturn, 1) := by decide +kernel
theorem dX7_worth_47 : decode cX7_worth 47 = .ok (.aload_n 0, 1) := by decide +kernel
theorem dX7_worth_48 : decode cX7_worth 48 = .ok (.getfield 58, 3) := by decide +kernel
theorem dX7_worth_51 : decode cX7_worth 51 = .ok (.aload_n 0, 1) := by decide +kernel
theorem dX7_worth_52 : decode cX7_worth 52 = .ok (.getfield 12, 3) := by decide +kernel
theorem dX7_worth_55 : decode cX7_worth 55 = .ok (.getfield 134, 3) := by decide +kernel
theorem dX7_worth_58 : decode cX7_worth 58 = .ok (.iload_n 1, 1) := by decide +kernel
theorem dX7_worth_59 : decode cX7_worth 59 = .ok (.iload_n 2, 1) := by decide +kernel
theorem dX7_worth_60 : decode cX7_worth 60 = .ok (.aload_n 3, 1) := by decide +kernel
theorem dX7_worth_61 : decode cX7_worth 61 = .ok (.invokestatic 240, 3) := by decide +kernel
theorem dX7_worth_64 : decode cX7_worth 64 = .ok (.aload_n 3, 1) := by decide +kernel
theorem dX7_worth_65 : decode cX7_worth 65 = .ok (.getfield 196, 3) := by decide +kernel
theorem dX7_worth_68 : decode cX7_worth 68 = .ok (.invokevirtual 200, 3) := by decide +kernel
theorem dX7_worth_71 : decode cX7_worth 71 = .ok (.iconst 1, 1) := by decide +kernel
theorem dX7_worth_72 : decode cX7_worth 72 = .ok (.ireturn, 1) := by decide +kernel
set_option maxRecDepth 20000 in
theorem ggX7_dig_X6_has : GoodIn wsX7_dig wsX6_has := goodIn_r _ [7, 8, 103, 104, 105, 106] (by decide +kernel) (by decide +kernel)
set_option maxRecDepth 20000 in
theorem gX7_dig_X6_has : GoodIn wsX7_dig (wsV RX7 115 RX6 yX6_has wsX6_has) := goodIn_app (goodIn_of _ (by decide +kernel)) ggX7_dig_X6_has
set_option maxRecDepth 20000 in
theorem ggX7_dig_X7_asBad : GoodIn wsX7_dig wsX7_asBad := goodIn_r _ [13, 14, 84, 85, 86, 87, 88, 89, 90, 91, 92, 93, 94, 95] (by decide +kernel) (by decide +kernel)
set_option maxRecDepth 20000 in
theorem gX7_dig_X7_asBad : GoodIn wsX7_dig (wsV RX7 87 RX7 yX7_asBad wsX7_asBad) := goodIn_app (goodIn_of _ (by decide +kernel)) ggX7_dig_X7_asBad
set_option maxRecDepth 20000 in
theorem ggX7_dig_X7_weighed : GoodIn wsX7_dig wsX7_weighed := goodIn_r _ [18, 19, 20, 1, 21, 22, 23, 24, 25, 26, 27, 28, 29, 30, 31, 32, 33, 34, 35, 36, 37, 38, 39, 40, 41, 42, 6, 43, 8, 44, 45, 46, 47, 48, 49, 12, 50, 51, 52, 84, 85, 86, 87, 88, 89, 90, 91, 92, 93, 94, 95, 107, 108, 109, 110, 96, 97, 98, 99, 100, 101, 102, 103, 104, 105, 106] (by decide +kernel) (by decide +kernel)
set_option maxRecDepth 20000 in
theorem gX7_dig_X7_weighed : GoodIn wsX7_dig (wsV RX7 161 RX7 yX7_weighed wsX7_weighed) := goodIn_app (goodIn_of _ (by decide +kernel)) ggX7_dig_X7_weighed
set_option maxRecDepth 20000 in
theorem ggX7_dig_X2_fits : GoodIn wsX7_dig wsX2_fits := goodIn_r _ [56, 28, 107, 108, 109, 110] (by decide +kernel) (by decide +kernel)
set_option maxRecDepth 20000 in
theorem gX7_dig_X2_fits : GoodIn wsX7_dig (wsV RX7 189 RX2 yX2_fits wsX2_fits) := goodIn_app (goodIn_of _ (by decide +kernel)) ggX7_dig_X2_fits
set_option maxRecDepth 20000 in
theorem ggX7_dig_X7_asNo : GoodIn wsX7_dig wsX7_asNo := goodIn_r _ [60, 61, 84, 85, 86, 87, 88, 89, 90, 91, 92, 93, 94, 95] (by decide +kernel) (by decide +kernel)
set_option maxRecDepth 20000 in
theorem gX7_dig_X7_asNo : GoodIn wsX7_dig (wsV RX7 125 RX7 yX7_asNo wsX7_asNo) := goodIn_app (goodIn_of _ (by decide +kernel)) ggX7_dig_X7_asNo
set_option maxRecDepth 20000 in
theorem ggX7_dig_X1_bestDig : GoodIn wsX7_dig wsX1_bestDig := goodIn_r _ [65, 66, 67, 64, 68, 69, 70, 71, 72, 73, 74, 12, 75, 76, 41, 42, 6, 43, 8, 44, 45, 77, 78, 79, 80, 81, 82, 83, 49, 50, 107, 108, 109, 110, 103, 104, 105, 106] (by decide +kernel) (by decide +kernel)
set_option maxRecDepth 20000 in
theorem gX7_dig_X1_bestDig : GoodIn wsX7_dig (va_wsS RX7 244 yX1_bestDig wsX1_bestDig) := goodIn_app (goodIn_of _ (by decide +kernel)) ggX7_dig_X1_bestDig
theorem dX7_dig_0 : decode cX7_dig 0 = .ok (.aload_n 0, 1) := by decide +kernel
theorem dX7_dig_1 : decode cX7_dig 1 = .ok (.getfield 12, 3) := by decide +kernel
theorem dX7_dig_4 : decode cX7_dig 4 = .ok (.getfield 134, 3) := by decide +kernel
theorem dX7_dig_7 : decode cX7_dig 7 = .ok (.iload_n 1, 1) := by decide +kernel
theorem dX7_dig_8 : decode cX7_dig 8 = .ok (.invokevirtual 115, 3) := by decide +kernel
theorem dX7_dig_11 : decode cX7_dig 11 = .ok (.ifCond .ne 10, 3) := by decide +kernel
theorem dX7_dig_14 : decode cX7_dig 14 = .ok (.aload_n 0, 1) := by decide +kernel
theorem dX7_dig_15 : decode cX7_dig 15 = .ok (.bipush (-2), 2) := by decide +kernel
theorem dX7_dig_17 : decode cX7_dig 17 = .ok (.invokevirtual 87, 3) := by decide +kernel
theorem dX7_dig_20 : decode cX7_dig 20 = .ok (.ireturn, 1) := by decide +kernel
theorem dX7_dig_21 : decode cX7_dig 21 = .ok (.aload_n 0, 1) := by decide +kernel
theorem dX7_dig_22 : decode cX7_dig 22 = .ok (.invokevirtual 161, 3) := by decide +kernel
theorem dX7_dig_25 : decode cX7_dig 25 = .ok (.astore_n 2, 1) := by decide +kernel
theorem dX7_dig_26 : decode cX7_dig 26 = .ok (.aload_n 2, 1) := by decide +kernel
theorem dX7_dig_27 : decode cX7_dig 27 = .ok (.invokevirtual 189, 3) := by decide +kernel
theorem dX7_dig_30 : decode cX7_dig 30 = .ok (.ifCond .ne 10, 3) := by decide +kernel
theorem dX7_dig_33 : decode cX7_dig 33 = .ok (.aload_n 0, 1) := by decide +kernel
theorem dX7_dig_34 : decode cX7_dig 34 = .ok (.bipush (-3), 2) := by decide +kernel
theorem dX7_dig_36 : decode cX7_dig 36 = .ok (.invokevirtual 125, 3) := by decide +kernel
theorem dX7_dig_39 : decode cX7_dig 39 = .ok (.ireturn, 1) := by decide +kernel
theorem dX7_dig_40 : decode cX7_dig 40 = .ok (.aload_n 0, 1) := by decide +kernel
theorem dX7_dig_41 : decode cX7_dig 41 = .ok (.getfield 12, 3) := by decide +kernel
theorem dX7_dig_44 : decode cX7_dig 44 = .ok (.getfield 134, 3) := by decide +kernel
theorem dX7_dig_47 : decode cX7_dig 47 = .ok (.iload_n 1, 1) := by decide +kernel
theorem dX7_dig_48 : decode cX7_dig 48 = .ok (.aload_n 2, 1) := by decide +kernel
theorem dX7_dig_49 : decode cX7_dig 49 = .ok (.invokestatic 244, 3) := by decide +kernel
theorem dX7_dig_52 : decode cX7_dig 52 = .ok (.ireturn, 1) := by decide +kernel
set_option maxRecDepth 20000 in
theorem ggX7_doped_X7_weighed : GoodIn wsX7_doped wsX7_weighed := goodIn_r _ [7, 8, 9, 1, 10, 2, 11, 12, 13, 14, 15, 16, 17, 18, 19, 20, 21, 22, 23, 24, 25, 26, 27, 28, 29, 30, 31, 32, 33, 34, 35, 36, 37, 38, 39, 6, 40, 41, 42, 66, 67, 68, 69, 70, 71, 72, 73, 74, 75, 76, 77, 85, 86, 87, 88, 78, 79, 80, 81, 82, 83, 84, 89, 90, 91, 92] (by decide +kernel) (by decide +kernel)
set_option maxRecDepth 20000 in
theorem gX7_doped_X7_weighed : GoodIn wsX7_doped (wsV RX7 161 RX7 yX7_weighed wsX7_weighed) := goodIn_app (goodIn_of _ (by decide +kernel)) ggX7_doped_X7_weighed
set_option maxRecDepth 20000 in
theorem ggX7_doped_X2_fewestInTheWay : GoodIn wsX7_doped wsX2_fewestInTheWay := goodIn_r _ [46, 17, 47, 48, 14, 49, 27, 28, 29, 30, 31, 32, 33, 34, 35, 50, 6, 51, 52, 39, 40, 53, 54, 55, 56, 57, 58, 59, 60, 61, 62, 63, 64, 65, 85, 86, 87, 88, 89, 90, 91, 92] (by decide +kernel) (by decide +kernel)
set_option maxRecDepth 20000 in
theorem gX7_doped_X2_fewestInTheWay : GoodIn wsX7_doped (wsV RX7 248 RX2 yX2_fewestInTheWay wsX2_fewestInTheWay) := goodIn_app (goodIn_of _ (by decide +kernel)) ggX7_doped_X2_fewestInTheWay
theorem dX7_doped_0 : decode cX7_doped 0 = .ok (.aload_n 0, 1) := by decide +kernel
theorem dX7_doped_1 : decode cX7_doped 1 = .ok (.invokevirtual 161, 3) := by decide +kernel
theorem dX7_doped_4 : decode cX7_doped 4 = .ok (.aload_n 0, 1) := by decide +kernel
theorem dX7_doped_5 : decode cX7_doped 5 = .ok (.getfield 12, 3) := by decide +kernel
theorem dX7_doped_8 : decode cX7_doped 8 = .ok (.getfield 62, 3) := by decide +kernel
theorem dX7_doped_11 : decode cX7_doped 11 = .ok (.invokevirtual 248, 3) := by decide +kernel
theorem dX7_doped_14 : decode cX7_doped 14 = .ok (.ireturn, 1) := by decide +kernel
set_option maxRecDepth 20000 in
theorem ggX7_price_X7_isClaim : GoodIn wsX7_price wsX7_isClaim := goodIn_r _ [7, 8, 9, 6, 10, 11, 12, 13] (by decide +kernel) (by decide +kernel)
set_option maxRecDepth 20000 in
theorem gX7_price_X7_isClaim : GoodIn wsX7_price (va_wsS RX7 131 yX7_isClaim wsX7_isClaim) := goodIn_app (goodIn_of _ (by decide +kernel)) ggX7_price_X7_isClaim
set_option maxRecDepth 20000 in
theorem ggX7_price_X7_isWithin : GoodIn wsX7_price wsX7_isWithin := goodIn_r _ [10] (by decide +kernel) (by decide +kernel)
set_option maxRecDepth 20000 in
theorem gX7_price_X7_isWithin : GoodIn wsX7_price (va_wsS RX7 79 yX7_isWithin wsX7_isWithin) := goodIn_app (goodIn_of _ (by decide +kernel)) ggX7_price_X7_isWithin
set_option maxRecDepth 20000 in
theorem ggX7_price_X7_asBad : GoodIn wsX7_price wsX7_asBad := goodIn_r _ [17, 18, 42, 43, 44, 45, 46, 47, 48, 49, 50, 51, 52, 53] (by decide +kernel) (by decide +kernel)
set_option maxRecDepth 20000 in
theorem gX7_price_X7_asBad : GoodIn wsX7_price (wsV RX7 87 RX7 yX7_asBad wsX7_asBad) := goodIn_app (goodIn_of _ (by decide +kernel)) ggX7_price_X7_asBad
set_option maxRecDepth 20000 in
theorem ggX7_price_X6_isFull : GoodIn wsX7_price wsX6_isFull := goodIn_r _ [23, 24, 25, 61, 62, 63, 64] (by decide +kernel) (by decide +kernel)
set_option maxRecDepth 20000 in
theorem gX7_price_X6_isFull : GoodIn wsX7_price (wsV RX7 94 RX6 yX6_isFull wsX6_isFull) := goodIn_app (goodIn_of _ (by decide +kernel)) ggX7_price_X6_isFull
set_option maxRecDepth 20000 in
theorem ggX7_price_X7_asFull : GoodIn wsX7_price wsX7_asFull := goodIn_r _ [29, 30, 42, 43, 44, 45, 46, 47, 48, 49, 50, 51, 52, 53] (by decide +kernel) (by decide +kernel)
set_option maxRecDepth 20000 in
theorem gX7_price_X7_asFull : GoodIn wsX7_price (wsV RX7 98 RX7 yX7_asFull wsX7_asFull) := goodIn_app (goodIn_of _ (by decide +kernel)) ggX7_price_X7_asFull
set_option maxRecDepth 20000 in
theorem ggX7_price_X6_addFive : GoodIn wsX7_price wsX6_addFive := goodIn_r _ [34, 35, 24, 36, 37, 20, 21, 22, 23, 25, 38, 39, 40, 41, 61, 62, 63, 64] (by decide +kernel) (by decide +kernel)
set_option maxRecDepth 20000 in
theorem gX7_price_X6_addFive : GoodIn wsX7_price (wsV RX7 137 RX6 yX6_addFive wsX6_addFive) := goodIn_app (goodIn_of _ (by decide +kernel)) ggX7_price_X6_addFive
theorem dX7_price_0 : decode cX7_price 0 = .ok (.iload_n 1, 1) := by decide +kernel
theorem dX7_price_1 : decode cX7_price 1 = .ok (.iload_n 2, 1) := by decide +kernel
theorem dX7_price_2 : decode cX7_price 2 = .ok (.iload_n 3, 1) := by decide +kernel
theorem dX7_price_3 : decode cX7_price 3 = .ok (.invokestatic 131, 3) := by decide +kernel
theorem dX7_price_6 : decode cX7_price 6 = .ok (.ifCond .eq 24, 3) := by decide +kernel
theorem dX7_price_9 : decode cX7_price 9 = .ok (.iload 4, 2) := by decide +kernel
theorem dX7_price_11 : decode cX7_price 11 = .ok (.iconst 0, 1) := by decide +kernel
theorem dX7_price_12 : decode cX7_price 12 = .ok (.bipush 99, 2) := by decide +kernel
theorem dX7_price_14 : decode cX7_price 14 = .ok (.invokestatic 79, 3) := by decide +kernel
theorem dX7_price_17 : decode cX7_price 17 = .ok (.ifCond .eq 13, 3) := by decide +kernel
theorem dX7_price_20 : decode cX7_price 20 = .ok (.iload 5, 2) := by decide +kernel
theorem dX7_price_22 : decode cX7_price 22 = .ok (.iconst 0, 1) := by decide +kernel
theorem dX7_price_23 : decode cX7_price 23 = .ok (.iconst 1, 1) := by decide +kernel
theorem dX7_price_24 : decode cX7_price 24 = .ok (.invokestatic 79, 3) := by decide +kernel
theorem dX7_price_27 : decode cX7_price 27 = .ok (.ifCond .ne 10, 3) := by decide +kernel
theorem dX7_price_30 : decode cX7_price 30 = .ok (.aload_n 0, 1) := by decide +kernel
theorem dX7_price_31 : decode cX7_price 31 = .ok (.bipush (-2), 2) := by decide +kernel
theorem dX7_price_33 : decode cX7_price 33 = .ok (.invokevirtual 87, 3) := by decide +kernel
theorem dX7_price_36 : decode cX7_price 36 = .ok (.ireturn, 1) := by decide +kernel
theorem dX7_price_37 : decode cX7_price 37 = .ok (.aload_n 0, 1) := by decide +kernel
theorem dX7_price_38 : decode cX7_price 38 = .ok (.getfield 12, 3) := by decide +kernel
theorem dX7_price_41 : decode cX7_price 41 = .ok (.getfield 252, 3) := by decide +kernel
theorem dX7_price_44 : decode cX7_price 44 = .ok (.invokevirtual 94, 3) := by decide +kernel
theorem dX7_price_47 : decode cX7_price 47 = .ok (.ifCond .eq 8, 3) := by decide +kernel
theorem dX7_price_50 : decode cX7_price 50 = .ok (.aload_n 0, 1) := by decide +kernel
theorem dX7_price_51 : decode cX7_price 51 = .ok (.invokevirtual 98, 3) := by decide +kernel
theorem dX7_price_54 : decode cX7_price 54 = .ok (.ireturn, 1) := by decide +kernel
theorem dX7_price_55 : decode cX7_price 55 = .ok (.aload_n 0, 1) := by decide +kernel
theorem dX7_price_56 : decode cX7_price 56 = .ok (.getfield 12, 3) := by decide +kernel
theorem dX7_price_59 : decode cX7_price 59 = .ok (.getfield 252, 3) := by decide +kernel
theorem dX7_price_62 : decode cX7_price 62 = .ok (.iload_n 1, 1) := by decide +kernel
theorem dX7_price_63 : decode cX7_price 63 = .ok (.iload_n 2, 1) := by decide +kernel
theorem dX7_price_64 : decode cX7_price 64 = .ok (.iload_n 3, 1) := by decide +kernel
theorem dX7_price_65 : decode cX7_price 65 = .ok (.iload 4, 2) := by decide +kernel
theorem dX7_price_67 : decode cX7_price 67 = .ok (.iload 5, 2) := by decide +kernel
theorem dX7_price_69 : decode cX7_price 69 = .ok (.invokevirtual 137, 3) := by decide +kernel
theorem dX7_price_72 : decode cX7_price 72 = .ok (.aload_n 0, 1) := by decide +kernel
theorem dX7_price_73 : decode cX7_price 73 = .ok (.getfield 12, 3) := by decide +kernel
theorem dX7_price_76 : decode cX7_price 76 = .ok (.getfield 252, 3) := by decide +kernel
theorem dX7_price_79 : decode cX7_price 79 = .ok (.getfield 66, 3) := by decide +kernel
theorem dX7_price_82 : decode cX7_price 82 = .ok (.ireturn, 1) := by decide +kernel
set_option maxRecDepth 20000 in
theorem ggX7_forget_X6_empty : GoodIn wsX7_forget wsX6_empty := goodIn_r _ [8, 9, 29, 30, 31, 32] (by decide +kernel) (by decide +kernel)
set_option maxRecDepth 20000 in
theorem gX7_forget_X6_empty : GoodIn wsX7_forget (wsV RX7 141 RX6 yX6_empty wsX6_empty) := goodIn_app (goodIn_of _ (by decide +kernel)) ggX7_forget_X6_empty
theorem dX7_forget_0 : decode cX7_forget 0 = .ok (.aload_n 0, 1) := by decide +kernel
theorem dX7_forget_1 : decode cX7_forget 1 = .ok (.getfield 12, 3) := by decide +kernel
theorem dX7_forget_4 : decode cX7_forget 4 = .ok (.getfield 252, 3) := by decide +kernel
theorem dX7_forget_7 : decode cX7_forget 7 = .ok (.getfield 66, 3) := by decide +kernel
theorem dX7_forget_10 : decode cX7_forget 10 = .ok (.istore_n 1, 1) := by decide +kernel
theorem dX7_forget_11 : decode cX7_forget 11 = .ok (.aload_n 0, 1) := by decide +kernel
theorem dX7_forget_12 : decode cX7_forget 12 = .ok (.getfield 12, 3) := by decide +kernel
theorem dX7_forget_15 : decode cX7_forget 15 = .ok (.getfield 252, 3) := by decide +kernel
theorem dX7_forget_18 : decode cX7_forget 18 = .ok (.invokevirtual 141, 3) := by decide +kernel
theorem dX7_forget_21 : decode cX7_forget 21 = .ok (.iload_n 1, 1) := by decide +kernel
theorem dX7_forget_22 : decode cX7_forget 22 = .ok (.ireturn, 1) := by decide +kernel
set_option maxRecDepth 20000 in
theorem ggX7_told_X7_isWithin : GoodIn wsX7_told wsX7_isWithin := goodIn_r _ [4] (by decide +kernel) (by decide +kernel)
set_option maxRecDepth 20000 in
theorem gX7_told_X7_isWithin : GoodIn wsX7_told (va_wsS RX7 79 yX7_isWithin wsX7_isWithin) := goodIn_app (goodIn_of _ (by decide +kernel)) ggX7_told_X7_isWithin
set_option maxRecDepth 20000 in
theorem ggX7_told_X7_asBad : GoodIn wsX7_told wsX7_asBad := goodIn_r _ [8, 9, 85, 86, 87, 88, 89, 90, 91, 92, 93, 94, 95, 96] (by decide +kernel) (by decide +kernel)
set_option maxRecDepth 20000 in
theorem gX7_told_X7_asBad : GoodIn wsX7_told (wsV RX7 87 RX7 yX7_asBad wsX7_asBad) := goodIn_app (goodIn_of _ (by decide +kernel)) ggX7_told_X7_asBad
set_option maxRecDepth 20000 in
theorem ggX7_told_X7_weighed : GoodIn wsX7_told wsX7_weighed := goodIn_r _ [13, 14, 15, 16, 17, 18, 19, 20, 21, 22, 23, 24, 25, 26, 27, 28, 29, 30, 31, 32, 33, 34, 35, 36, 37, 38, 39, 40, 41, 42, 43, 44, 45, 46, 47, 3, 48, 49, 50, 85, 86, 87, 88, 89, 90, 91, 92, 93, 94, 95, 96, 97, 98, 99, 100, 101, 102, 103, 104, 105, 106, 107, 108, 109, 110, 111] (by decide +kernel) (by decide +kernel)
set_option maxRecDepth 20000 in
theorem gX7_told_X7_weighed : GoodIn wsX7_told (wsV RX7 161 RX7 yX7_weighed wsX7_weighed) := goodIn_app (goodIn_of _ (by decide +kernel)) ggX7_told_X7_weighed
set_option maxRecDepth 20000 in
theorem ggX7_told_X2_fits : GoodIn wsX7_told wsX2_fits := goodIn_r _ [54, 24, 97, 98, 99, 100] (by decide +kernel) (by decide +kernel)
set_option maxRecDepth 20000 in
theorem gX7_told_X2_fits : GoodIn wsX7_told (wsV RX7 189 RX2 yX2_fits wsX2_fits) := goodIn_app (goodIn_of _ (by decide +kernel)) ggX7_told_X2_fits
set_option maxRecDepth 20000 in
theorem ggX7_told_X7_asNo : GoodIn wsX7_told wsX7_asNo := goodIn_r _ [58, 59, 85, 86, 87, 88, 89, 90, 91, 92, 93, 94, 95, 96] (by decide +kernel) (by decide +kernel)
set_option maxRecDepth 20000 in
theorem gX7_told_X7_asNo : GoodIn wsX7_told (wsV RX7 125 RX7 yX7_asNo wsX7_asNo) := goodIn_app (goodIn_of _ (by decide +kernel)) ggX7_told_X7_asNo
set_option maxRecDepth 20000 in
theorem ggX7_told_X7_makesAllSo : GoodIn wsX7_told wsX7_makesAllSo := goodIn_r _ [63, 64, 16, 65, 66, 67, 68, 69, 22, 70, 26, 71, 3, 72, 73, 47, 48, 74, 37, 38, 39, 40, 41, 42, 43, 75, 76, 77, 78, 79, 80, 81, 82, 83, 84, 97, 98, 99, 100, 85, 86, 87, 88, 89, 90, 91, 92, 93, 94, 95, 96, 101, 102, 103, 104, 105, 106, 107, 108, 109, 110, 111] (by decide +kernel) (by decide +kernel)
set_option maxRecDepth 20000 in
theorem gX7_told_X7_makesAllSo : GoodIn wsX7_told (wsV RX7 255 RX7 yX7_makesAllSo wsX7_makesAllSo) := goodIn_app (goodIn_of _ (by decide +kernel)) ggX7_told_X7_makesAllSo
theorem dX7_told_0 : decode cX7_told 0 = .ok (.iload_n 1, 1) := by decide +kernel
theorem dX7_told_1 : decode cX7_told 1 = .ok (.iconst 0, 1) := by decide +kernel
theorem dX7_told_2 : decode cX7_told 2 = .ok (.iconst 1, 1) := by decide +kernel
theorem dX7_told_3 : decode cX7_told 3 = .ok (.invokestatic 79, 3) := by decide +kernel
theorem dX7_told_6 : decode cX7_told 6 = .ok (.ifCond .ne 10, 3) := by decide +kernel
theorem dX7_told_9 : decode cX7_told 9 = .ok (.aload_n 0, 1) := by decide +kernel
theorem dX7_told_10 : decode cX7_told 10 = .ok (.bipush (-2), 2) := by decide +kernel
theorem dX7_told_12 : decode cX7_told 12 = .ok (.invokevirtual 87, 3) := by decide +kernel
theorem dX7_told_15 : decode cX7_told 15 = .ok (.ireturn, 1) := by decide +kernel
theorem dX7_told_16 : decode cX7_told 16 = .ok (.aload_n 0, 1) := by decide +kernel
theorem dX7_told_17 : decode cX7_told 17 = .ok (.invokevirtual 161, 3) := by decide +kernel
theorem dX7_told_20 : decode cX7_told 20 = .ok (.astore_n 2, 1) := by decide +kernel
theorem dX7_told_21 : decode cX7_told 21 = .ok (.aload_n 2, 1) := by decide +kernel
theorem dX7_told_22 : decode cX7_told 22 = .ok (.invokevirtual 189, 3) := by decide +kernel
theorem dX7_told_25 : decode cX7_told 25 = .ok (.ifCond .ne 10, 3) := by decide +kernel
theorem dX7_told_28 : decode cX7_told 28 = .ok (.aload_n 0, 1) := by decide +kernel
theorem dX7_told_29 : decode cX7_told 29 = .ok (.bipush (-3), 2) := by decide +kernel
theorem dX7_told_31 : decode cX7_told 31 = .ok (.invokevirtual 125, 3) := by decide +kernel
theorem dX7_told_34 : decode cX7_told 34 = .ok (.ireturn, 1) := by decide +kernel
theorem dX7_told_35 : decode cX7_told 35 = .ok (.iconst 0, 1) := by decide +kernel
theorem dX7_told_36 : decode cX7_told 36 = .ok (.istore_n 3, 1) := by decide +kernel
theorem dX7_told_37 : decode cX7_told 37 = .ok (.iconst (-1), 1) := by decide +kernel
theorem dX7_told_38 : decode cX7_told 38 = .ok (.istore 4, 2) := by decide +kernel
theorem dX7_told_40 : decode cX7_told 40 = .ok (.iconst 0, 1) := by decide +kernel
theorem dX7_told_41 : decode cX7_told 41 = .ok (.istore 5, 2) := by decide +kernel
theorem dX7_told_43 : decode cX7_told 43 = .ok (.iload 5, 2) := by decide +kernel
theorem dX7_told_45 : decode cX7_told 45 = .ok (.bipush 14, 2) := by decide +kernel
theorem dX7_told_47 : decode cX7_told 47 = .ok (.if_icmp .gt 35, 3) := by decide +kernel
theorem dX7_told_50 : decode cX7_told 50 = .ok (.aload_n 0, 1) := by decide +kernel
theorem dX7_told_51 : decode cX7_told 51 = .ok (.aload_n 2, 1) := by decide +kernel
theorem dX7_told_52 : decode cX7_told 52 = .ok (.iload 5, 2) := by decide +kernel
theorem dX7_told_54 : decode cX7_told 54 = .ok (.invokevirtual 255, 3) := by decide +kernel
theorem dX7_told_57 : decode cX7_told 57 = .ok (.ifCond .eq 19, 3) := by decide +kernel
theorem dX7_told_60 : decode cX7_told 60 = .ok (.iload_n 3, 1) := by decide +kernel
theorem dX7_told_61 : decode cX7_told 61 = .ok (.ifCond .ne 8, 3) := by decide +kernel
theorem dX7_told_64 : decode cX7_told 64 = .ok (.iload 5, 2) := by decide +kernel
theorem dX7_told_66 : decode cX7_told 66 = .ok (.goto 5, 3) := by decide +kernel
theorem dX7_told_69 : decode cX7_told 69 = .ok (.iload 4, 2) := by decide +kernel
theorem dX7_told_71 : decode cX7_told 71 = .ok (.istore 4, 2) := by decide +kernel
theorem dX7_told_73 : decode cX7_told 73 = .ok (.iinc 3 1, 3) := by decide +kernel
theorem dX7_told_76 : decode cX7_told 76 = .ok (.iinc 5 1, 3) := by decide +kernel
theorem dX7_told_79 : decode cX7_told 79 = .ok (.goto (-36), 3) := by decide +kernel
theorem dX7_told_82 : decode cX7_told 82 = .ok (.iload_n 1, 1) := by decide +kernel
theorem dX7_told_83 : decode cX7_told 83 = .ok (.ifCond .ne 7, 3) := by decide +kernel
theorem dX7_told_86 : decode cX7_told 86 = .ok (.iload_n 3, 1) := by decide +kernel
theorem dX7_told_87 : decode cX7_told 87 = .ok (.goto 5, 3) := by decide +kernel
theorem dX7_told_90 : decode cX7_told 90 = .ok (.iload 4, 2) := by decide +kernel
theorem dX7_told_92 : decode cX7_told 92 = .ok (.ireturn, 1) := by decide +kernel
set_option maxRecDepth 20000 in
theorem ggX7_days_X7_isWithin : GoodIn wsX7_days wsX7_isWithin := goodIn_r _ [7] (by decide +kernel) (by decide +kernel)
set_option maxRecDepth 20000 in
theorem gX7_days_X7_isWithin : GoodIn wsX7_days (va_wsS RX7 79 yX7_isWithin wsX7_isWithin) := goodIn_app (goodIn_of _ (by decide +kernel)) ggX7_days_X7_isWithin
set_option maxRecDepth 20000 in
theorem ggX7_days_X7_isClaim : GoodIn wsX7_days wsX7_isClaim := goodIn_r _ [10, 4, 5, 6, 7, 11, 12, 13] (by decide +kernel) (by decide +kernel)
set_option maxRecDepth 20000 in
theorem gX7_days_X7_isClaim : GoodIn wsX7_days (va_wsS RX7 131 yX7_isClaim wsX7_isClaim) := goodIn_app (goodIn_of _ (by decide +kernel)) ggX7_days_X7_isClaim
set_option maxRecDepth 20000 in
theorem ggX7_days_X7_asBad : GoodIn wsX7_days wsX7_asBad := goodIn_r _ [17, 18, 118, 119, 120, 121, 122, 123, 124, 125, 126, 127, 128, 129] (by decide +kernel) (by decide +kernel)
set_option maxRecDepth 20000 in
theorem gX7_days_X7_asBad : GoodIn wsX7_days (wsV RX7 87 RX7 yX7_asBad wsX7_asBad) := goodIn_app (goodIn_of _ (by decide +kernel)) ggX7_days_X7_asBad
set_option maxRecDepth 20000 in
theorem ggX7_days_X7_weighed : GoodIn wsX7_days wsX7_weighed := goodIn_r _ [22, 23, 24, 25, 26, 27, 28, 29, 30, 31, 32, 33, 34, 35, 36, 37, 38, 39, 40, 41, 42, 43, 44, 45, 46, 47, 48, 49, 50, 51, 52, 53, 54, 55, 56, 6, 57, 58, 59, 118, 119, 120, 121, 122, 123, 124, 125, 126, 127, 128, 129, 130, 131, 132, 133, 134, 135, 136, 137, 138, 139, 140, 141, 142, 143, 144] (by decide +kernel) (by decide +kernel)
set_option maxRecDepth 20000 in
theorem gX7_days_X7_weighed : GoodIn wsX7_days (wsV RX7 161 RX7 yX7_weighed wsX7_weighed) := goodIn_app (goodIn_of _ (by decide +kernel)) ggX7_days_X7_weighed
set_option maxRecDepth 20000 in
theorem ggX7_days_X2_fits : GoodIn wsX7_days wsX2_fits := goodIn_r _ [63, 33, 130, 131, 132, 133] (by decide +kernel) (by decide +kernel)
set_option maxRecDepth 20000 in
theorem gX7_days_X2_fits : GoodIn wsX7_days (wsV RX7 189 RX2 yX2_fits wsX2_fits) := goodIn_app (goodIn_of _ (by decide +kernel)) ggX7_days_X2_fits
set_option maxRecDepth 20000 in
theorem ggX7_days_X7_asNo : GoodIn wsX7_days wsX7_asNo := goodIn_r _ [67, 68, 118, 119, 120, 121, 122, 123, 124, 125, 126, 127, 128, 129] (by decide +kernel) (by decide +kernel)
set_option maxRecDepth 20000 in
theorem gX7_days_X7_asNo : GoodIn wsX7_days (wsV RX7 125 RX7 yX7_asNo wsX7_asNo) := goodIn_app (goodIn_of _ (by decide +kernel)) ggX7_days_X7_asNo
set_option maxRecDepth 20000 in
theorem ggX7_days_X4_begin : GoodIn wsX7_days wsX4_begin := goodIn_r _ [73, 74, 145, 146, 147] (by decide +kernel) (by decide +kernel)
set_option maxRecDepth 20000 in
theorem gX7_days_X4_begin : GoodIn wsX7_days (wsV RX7 260 RX4 yX4_begin wsX4_begin) := goodIn_app (goodIn_of _ (by decide +kernel)) ggX7_days_X4_begin
set_option maxRecDepth 20000 in
theorem ggX7_days_X4_daysOnce : GoodIn wsX7_days wsX4_daysOnce := goodIn_r _ [78, 79, 80, 81, 82, 83, 31, 84, 35, 85, 86, 87, 72, 88, 74, 89, 90, 91, 92, 93, 94, 95, 96, 97, 6, 98, 99, 56, 57, 100, 101, 102, 103, 145, 146, 147, 130, 131, 132, 133] (by decide +kernel) (by decide +kernel)
set_option maxRecDepth 20000 in
theorem gX7_days_X4_daysOnce : GoodIn wsX7_days (wsV RX7 263 RX4 yX4_daysOnce wsX4_daysOnce) := goodIn_app (goodIn_of _ (by decide +kernel)) ggX7_days_X4_daysOnce
set_option maxRecDepth 20000 in
theorem ggX7_days_X0_put : GoodIn wsX7_days wsX0_put := goodIn_r _ [108, 109, 110, 111, 112, 113, 114, 115, 116, 107, 117, 148, 149] (by decide +kernel) (by decide +kernel)
set_option maxRecDepth 20000 in
theorem gX7_days_X0_put : GoodIn wsX7_days (wsV RX7 200 RX0 yX0_put wsX0_put) := goodIn_app (goodIn_of _ (by decide +kernel)) ggX7_days_X0_put
theorem dX7_days_0 : decode cX7_days 0 = .ok (.iload_n 1, 1) := by decide +kernel
theorem dX7_days_1 : decode cX7_days 1 = .ok (.iconst 0, 1) := by decide +kernel
theorem dX7_days_2 : decode cX7_days 2 = .ok (.ldc_w 259, 3) := by decide +kernel
theorem dX7_days_5 : decode cX7_days 5 = .ok (.invokestatic 79, 3) := by decide +kernel
theorem dX7_days_8 : decode cX7_days 8 = .ok (.ifCond .eq 24, 3) := by decide +kernel
theorem dX7_days_11 : decode cX7_days 11 = .ok (.iload_n 2, 1) := by decide +kernel
theorem dX7_days_12 : decode cX7_days 12 = .ok (.iconst 1, 1) := by decide +kernel
theorem dX7_days_13 : decode cX7_days 13 = .ok (.bipush 30, 2) := by decide +kernel
theorem dX7_days_15 : decode cX7_days 15 = .ok (.invokestatic 79, 3) := by decide +kernel
theorem dX7_days_18 : decode cX7_days 18 = .ok (.ifCond .eq 14, 3) := by decide +kernel
theorem dX7_days_21 : decode cX7_days 21 = .ok (.iload_n 3, 1) := by decide +kernel
theorem dX7_days_22 : decode cX7_days 22 = .ok (.iload 4, 2) := by decide +kernel
theorem dX7_days_24 : decode cX7_days 24 = .ok (.iload 5, 2) := by decide +kernel
theorem dX7_days_26 : decode cX7_days 26 = .ok (.invokestatic 131, 3) := by decide +kernel
theorem dX7_days_29 : decode cX7_days 29 = .ok (.ifCond .ne 10, 3) := by decide +kernel
theorem dX7_days_32 : decode cX7_days 32 = .ok (.aload_n 0, 1) := by decide +kernel
theorem dX7_days_33 : decode cX7_days 33 = .ok (.bipush (-2), 2) := by decide +kernel
theorem dX7_days_35 : decode cX7_days 35 = .ok (.invokevirtual 87, 3) := by decide +kernel
theorem dX7_days_38 : decode cX7_days 38 = .ok (.ireturn, 1) := by decide +kernel
theorem dX7_days_39 : decode cX7_days 39 = .ok (.aload_n 0, 1) := by decide +kernel
theorem dX7_days_40 : decode cX7_days 40 = .ok (.invokevirtual 161, 3) := by decide +kernel
theorem dX7_days_43 : decode cX7_days 43 = .ok (.astore 6, 2) := by decide +kernel
theorem dX7_days_45 : decode cX7_days 45 = .ok (.aload 6, 2) := by decide +kernel
theorem dX7_days_47 : decode cX7_days 47 = .ok (.invokevirtual 189, 3) := by decide +kernel
theorem dX7_days_50 : decode cX7_days 50 = .ok (.ifCond .ne 10, 3) := by decide +kernel
theorem dX7_days_53 : decode cX7_days 53 = .ok (.aload_n 0, 1) := by decide +kernel
theorem dX7_days_54 : decode cX7_days 54 = .ok (.bipush (-3), 2) := by decide +kernel
theorem dX7_days_56 : decode cX7_days 56 = .ok (.invokevirtual 125, 3) := by decide +kernel
theorem dX7_days_59 : decode cX7_days 59 = .ok (.ireturn, 1) := by decide +kernel
theorem dX7_days_60 : decode cX7_days 60 = .ok (.aload_n 0, 1) := by decide +kernel
theorem dX7_days_61 : decode cX7_days 61 = .ok (.getfield 44, 3) := by decide +kernel
theorem dX7_days_64 : decode cX7_days 64 = .ok (.iload_n 1, 1) := by decide +kernel
theorem dX7_days_65 : decode cX7_days 65 = .ok (.invokevirtual 260, 3) := by decide +kernel
theorem dX7_days_68 : decode cX7_days 68 = .ok (.lconst 0, 1) := by decide +kernel
theorem dX7_days_69 : decode cX7_days 69 = .ok (.lstore 7, 2) := by decide +kernel
theorem dX7_days_71 : decode cX7_days 71 = .ok (.iconst 0, 1) := by decide +kernel
theorem dX7_days_72 : decode cX7_days 72 = .ok (.istore 9, 2) := by decide +kernel
theorem dX7_days_74 : decode cX7_days 74 = .ok (.iload 9, 2) := by decide +kernel
theorem dX7_days_76 : decode cX7_days 76 = .ok (.iload_n 2, 1) := by decide +kernel
theorem dX7_days_77 : decode cX7_days 77 = .ok (.if_icmp .ge 29, 3) := by decide +kernel
theorem dX7_days_80 : decode cX7_days 80 = .ok (.lload 7, 2) := by decide +kernel
theorem dX7_days_82 : decode cX7_days 82 = .ok (.aload_n 0, 1) := by decide +kernel
theorem dX7_days_83 : decode cX7_days 83 = .ok (.getfield 44, 3) := by decide +kernel
theorem dX7_days_86 : decode cX7_days 86 = .ok (.aload 6, 2) := by decide +kernel
theorem dX7_days_88 : decode cX7_days 88 = .ok (.iload_n 3, 1) := by decide +kernel
theorem dX7_days_89 : decode cX7_days 89 = .ok (.iload 4, 2) := by decide +kernel
theorem dX7_days_91 : decode cX7_days 91 = .ok (.iload 5, 2) := by decide +kernel
theorem dX7_days_93 : decode cX7_days 93 = .ok (.invokevirtual 263, 3) := by decide +kernel
theorem dX7_days_96 : decode cX7_days 96 = .ok (.i2l, 1) := by decide +kernel
theorem dX7_days_97 : decode cX7_days 97 = .ok (.ladd, 1) := by decide +kernel
theorem dX7_days_98 : decode cX7_days 98 = .ok (.lstore 7, 2) := by decide +kernel
theorem dX7_days_100 : decode cX7_days 100 = .ok (.iinc 9 1, 3) := by decide +kernel
theorem dX7_days_103 : decode cX7_days 103 = .ok (.goto (-29), 3) := by decide +kernel
theorem dX7_days_106 : decode cX7_days 106 = .ok (.aload_n 0, 1) := by decide +kernel
theorem dX7_days_107 : decode cX7_days 107 = .ok (.getfield 58, 3) := by decide +kernel
theorem dX7_days_110 : decode cX7_days 110 = .ok (.lload 7, 2) := by decide +kernel
theorem dX7_days_112 : decode cX7_days 112 = .ok (.iload_n 2, 1) := by decide +kernel
theorem dX7_days_113 : decode cX7_days 113 = .ok (.i2l, 1) := by decide +kernel
theorem dX7_days_114 : decode cX7_days 114 = .ok (.invokevirtual 200, 3) := by decide +kernel
theorem dX7_days_117 : decode cX7_days 117 = .ok (.iconst 1, 1) := by decide +kernel
theorem dX7_days_118 : decode cX7_days 118 = .ok (.ireturn, 1) := by decide +kernel
set_option maxRecDepth 20000 in
theorem ggX7_part_X7_isWithin : GoodIn wsX7_part wsX7_isWithin := goodIn_r _ [7] (by decide +kernel) (by decide +kernel)
set_option maxRecDepth 20000 in
theorem gX7_part_X7_isWithin : GoodIn wsX7_part (va_wsS RX7 79 yX7_isWithin wsX7_isWithin) := goodIn_app (goodIn_of _ (by decide +kernel)) ggX7_part_X7_isWithin
set_option maxRecDepth 20000 in
theorem ggX7_part_X7_asBad : GoodIn wsX7_part wsX7_asBad := goodIn_r _ [11, 12, 13, 14, 15, 16, 17, 18, 19, 20, 21, 22, 23, 24] (by decide +kernel) (by decide +kernel)
set_option maxRecDepth 20000 in
theorem gX7_part_X7_asBad : GoodIn wsX7_part (wsV RX7 87 RX7 yX7_asBad wsX7_asBad) := goodIn_app (goodIn_of _ (by decide +kernel)) ggX7_part_X7_asBad
theorem dX7_part_0 : decode cX7_part 0 = .ok (.iload_n 1, 1) := by decide +kernel
theorem dX7_part_1 : decode cX7_part 1 = .ok (.iconst 0, 1) := by decide +kernel
theorem dX7_part_2 : decode cX7_part 2 = .ok (.iconst 1, 1) := by decide +kernel
theorem dX7_part_3 : decode cX7_part 3 = .ok (.invokestatic 79, 3) := by decide +kernel
theorem dX7_part_6 : decode cX7_part 6 = .ok (.ifCond .ne 11, 3) := by decide +kernel
theorem dX7_part_9 : decode cX7_part 9 = .ok (.aload_n 0, 1) := by decide +kernel
theorem dX7_part_10 : decode cX7_part 10 = .ok (.bipush (-2), 2) := by decide +kernel
theorem dX7_part_12 : decode cX7_part 12 = .ok (.invokevirtual 87, 3) := by decide +kernel
theorem dX7_part_15 : decode cX7_part 15 = .ok (.i2l, 1) := by decide +kernel
theorem dX7_part_16 : decode cX7_part 16 = .ok (.lreturn, 1) := by decide +kernel
theorem dX7_part_17 : decode cX7_part 17 = .ok (.iload_n 1, 1) := by decide +kernel
theorem dX7_part_18 : decode cX7_part 18 = .ok (.ifCond .ne 13, 3) := by decide +kernel
theorem dX7_part_21 : decode cX7_part 21 = .ok (.aload_n 0, 1) := by decide +kernel
theorem dX7_part_22 : decode cX7_part 22 = .ok (.getfield 58, 3) := by decide +kernel
theorem dX7_part_25 : decode cX7_part 25 = .ok (.getfield 267, 3) := by decide +kernel
theorem dX7_part_28 : decode cX7_part 28 = .ok (.goto 10, 3) := by decide +kernel
theorem dX7_part_31 : decode cX7_part 31 = .ok (.aload_n 0, 1) := by decide +kernel
theorem dX7_part_32 : decode cX7_part 32 = .ok (.getfield 58, 3) := by decide +kernel
theorem dX7_part_35 : decode cX7_part 35 = .ok (.getfield 270, 3) := by decide +kernel
theorem dX7_part_38 : decode cX7_part 38 = .ok (.lreturn, 1) := by decide +kernel
set_option maxRecDepth 20000 in
theorem ggX7_image_X7_isWithin : GoodIn wsX7_image wsX7_isWithin := goodIn_r _ [7] (by decide +kernel) (by decide +kernel)
set_option maxRecDepth 20000 in
theorem gX7_image_X7_isWithin : GoodIn wsX7_image (va_wsS RX7 79 yX7_isWithin wsX7_isWithin) := goodIn_app (goodIn_of _ (by decide +kernel)) ggX7_image_X7_isWithin
set_option maxRecDepth 20000 in
theorem ggX7_image_X7_asBad : GoodIn wsX7_image wsX7_asBad := goodIn_r _ [11, 12, 37, 38, 39, 40, 41, 42, 43, 44, 45, 46, 47, 48] (by decide +kernel) (by decide +kernel)
set_option maxRecDepth 20000 in
theorem gX7_image_X7_asBad : GoodIn wsX7_image (wsV RX7 87 RX7 yX7_asBad wsX7_asBad) := goodIn_app (goodIn_of _ (by decide +kernel)) ggX7_image_X7_asBad
set_option maxRecDepth 20000 in
theorem ggX7_image_X5_takeOver : GoodIn wsX7_image wsX5_takeOver := goodIn_r _ [17, 18, 19, 20, 21, 22, 23, 24, 25, 26, 27, 28, 29, 30, 31, 32, 33, 34, 35, 36, 49, 50, 51, 52, 53, 54, 55, 56, 57, 58, 59] (by decide +kernel) (by decide +kernel)
set_option maxRecDepth 20000 in
theorem gX7_image_X5_takeOver : GoodIn wsX7_image (wsV RX7 153 RX5 yX5_takeOver wsX5_takeOver) := goodIn_app (goodIn_of _ (by decide +kernel)) ggX7_image_X5_takeOver
theorem dX7_image_0 : decode cX7_image 0 = .ok (.iload_n 1, 1) := by decide +kernel
theorem dX7_image_1 : decode cX7_image 1 = .ok (.iconst 0, 1) := by decide +kernel
theorem dX7_image_2 : decode cX7_image 2 = .ok (.iconst 1, 1) := by decide +kernel
theorem dX7_image_3 : decode cX7_image 3 = .ok (.invokestatic 79, 3) := by decide +kernel
theorem dX7_image_6 : decode cX7_image 6 = .ok (.ifCond .ne 10, 3) := by decide +kernel
theorem dX7_image_9 : decode cX7_image 9 = .ok (.aload_n 0, 1) := by decide +kernel
theorem dX7_image_10 : decode cX7_image 10 = .ok (.bipush (-2), 2) := by decide +kernel
theorem dX7_image_12 : decode cX7_image 12 = .ok (.invokevirtual 87, 3) := by decide +kernel
theorem dX7_image_15 : decode cX7_image 15 = .ok (.ireturn, 1) := by decide +kernel
theorem dX7_image_16 : decode cX7_image 16 = .ok (.aload_n 0, 1) := by decide +kernel
theorem dX7_image_17 : decode cX7_image 17 = .ok (.getfield 19, 3) := by decide +kernel
theorem dX7_image_20 : decode cX7_image 20 = .ok (.iload_n 1, 1) := by decide +kernel
theorem dX7_image_21 : decode cX7_image 21 = .ok (.aaload, 1) := by decide +kernel
theorem dX7_image_22 : decode cX7_image 22 = .ok (.aload_n 0, 1) := by decide +kernel
theorem dX7_image_23 : decode cX7_image 23 = .ok (.getfield 12, 3) := by decide +kernel
theorem dX7_image_26 : decode cX7_image 26 = .ok (.invokevirtual 153, 3) := by decide +kernel
theorem dX7_image_29 : decode cX7_image 29 = .ok (.aload_n 0, 1) := by decide +kernel
theorem dX7_image_30 : decode cX7_image 30 = .ok (.getfield 23, 3) := by decide +kernel
theorem dX7_image_33 : decode cX7_image 33 = .ok (.iload_n 1, 1) := by decide +kernel
theorem dX7_image_34 : decode cX7_image 34 = .ok (.iconst 1, 1) := by decide +kernel
