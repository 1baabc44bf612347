theorem pb_kB_m10 : (Int8.ofInt (-10)).toInt32 = (-10) := by decide
theorem pb_kB_m2 : (Int8.ofInt (-2)).toInt32 = (-2) := by decide
theorem pb_kB_m3 : (Int8.ofInt (-3)).toInt32 = (-3) := by decide
theorem pb_kB_m4 : (Int8.ofInt (-4)).toInt32 = (-4) := by decide
theorem pb_kB_m5 : (Int8.ofInt (-5)).toInt32 = (-5) := by decide
theorem pb_kB_10 : (Int8.ofInt 10).toInt32 = 10 := by decide
theorem pb_kB_100 : (Int8.ofInt 100).toInt32 = 100 := by decide
theorem pb_kB_101 : (Int8.ofInt 101).toInt32 = 101 := by decide
theorem pb_kB_102 : (Int8.ofInt 102).toInt32 = 102 := by decide
theorem pb_kB_105 : (Int8.ofInt 105).toInt32 = 105 := by decide
theorem pb_kB_108 : (Int8.ofInt 108).toInt32 = 108 := by decide
theorem pb_kB_110 : (Int8.ofInt 110).toInt32 = 110 := by decide
theorem pb_kB_112 : (Int8.ofInt 112).toInt32 = 112 := by decide
theorem pb_kB_114 : (Int8.ofInt 114).toInt32 = 114 := by decide
theorem pb_kB_115 : (Int8.ofInt 115).toInt32 = 115 := by decide
theorem pb_kB_116 : (Int8.ofInt 116).toInt32 = 116 := by decide
theorem pb_kB_117 : (Int8.ofInt 117).toInt32 = 117 := by decide
theorem pb_kB_122 : (Int8.ofInt 122).toInt32 = 122 := by decide
theorem pb_kB_127 : (Int8.ofInt 127).toInt32 = 127 := by decide
theorem pb_kB_14 : (Int8.ofInt 14).toInt32 = 14 := by decide
theorem pb_kB_15 : (Int8.ofInt 15).toInt32 = 15 := by decide
theorem pb_kB_16 : (Int8.ofInt 16).toInt32 = 16 := by decide
theorem pb_kB_29 : (Int8.ofInt 29).toInt32 = 29 := by decide
theorem pb_kB_30 : (Int8.ofInt 30).toInt32 = 30 := by decide
theorem pb_kB_31 : (Int8.ofInt 31).toInt32 = 31 := by decide
theorem pb_kB_32 : (Int8.ofInt 32).toInt32 = 32 := by decide
theorem pb_kB_40 : (Int8.ofInt 40).toInt32 = 40 := by decide
theorem pb_kB_48 : (Int8.ofInt 48).toInt32 = 48 := by decide
theorem pb_kB_56 : (Int8.ofInt 56).toInt32 = 56 := by decide
theorem pb_kB_57 : (Int8.ofInt 57).toInt32 = 57 := by decide
theorem pb_kB_59 : (Int8.ofInt 59).toInt32 = 59 := by decide
theorem pb_kB_6 : (Int8.ofInt 6).toInt32 = 6 := by decide
theorem pb_kB_63 : (Int8.ofInt 63).toInt32 = 63 := by decide
theorem pb_kB_7 : (Int8.ofInt 7).toInt32 = 7 := by decide
theorem pb_kB_8 : (Int8.ofInt 8).toInt32 = 8 := by decide
theorem pb_kB_97 : (Int8.ofInt 97).toInt32 = 97 := by decide
theorem pb_kB_98 : (Int8.ofInt 98).toInt32 = 98 := by decide
theorem pb_kB_99 : (Int8.ofInt 99).toInt32 = 99 := by decide
theorem pb_kI_m1 : Int32.ofInt (-1) = (-1) := by decide
theorem pb_kI_0 : Int32.ofInt 0 = 0 := by decide
theorem pb_kI_1 : Int32.ofInt 1 = 1 := by decide
theorem pb_kI_2 : Int32.ofInt 2 = 2 := by decide
theorem pb_kI_3 : Int32.ofInt 3 = 3 := by decide
theorem pb_kI_4 : Int32.ofInt 4 = 4 := by decide
theorem pb_kI_5 : Int32.ofInt 5 = 5 := by decide
theorem pb_kL_0 : Int64.ofNat ((0 : Fin 2) : Nat) = 0 := by decide
theorem pb_kL_1 : Int64.ofNat ((1 : Fin 2) : Nat) = 1 := by decide
theorem pb_kN_0 : Int32.toNatClampNeg 0 = 0 := by decide
theorem pb_kN_1 : Int32.toNatClampNeg 1 = 1 := by decide
theorem pb_kN_1131 : Int32.toNatClampNeg 1131 = 1131 := by decide
theorem pb_kN_1132 : Int32.toNatClampNeg 1132 = 1132 := by decide
theorem pb_kN_1133 : Int32.toNatClampNeg 1133 = 1133 := by decide
theorem pb_kN_2 : Int32.toNatClampNeg 2 = 2 := by decide
theorem pb_kN_3 : Int32.toNatClampNeg 3 = 3 := by decide
theorem pb_kN_4 : Int32.toNatClampNeg 4 = 4 := by decide
theorem pb_kS_1000 : (Int16.ofInt 1000).toInt32 = 1000 := by decide
theorem pb_kS_1131 : (Int16.ofInt 1131).toInt32 = 1131 := by decide
theorem pb_kS_1132 : (Int16.ofInt 1132).toInt32 = 1132 := by decide
theorem pb_kS_1133 : (Int16.ofInt 1133).toInt32 = 1133 := by decide
theorem pb_kS_128 : (Int16.ofInt 128).toInt32 = 128 := by decide
theorem pb_kS_129 : (Int16.ofInt 129).toInt32 = 129 := by decide
theorem pb_kS_150 : (Int16.ofInt 150).toInt32 = 150 := by decide
theorem pb_kS_210 : (Int16.ofInt 210).toInt32 = 210 := by decide
theorem pb_kS_217 : (Int16.ofInt 217).toInt32 = 217 := by decide
theorem pb_kS_256 : (Int16.ofInt 256).toInt32 = 256 := by decide
theorem pb_kS_377 : (Int16.ofInt 377).toInt32 = 377 := by decide
theorem pb_cok_0_0_240_240_240 : pb_cok 0 0 240 240 240 = true := by decide
theorem pb_cok_0_0_8_8_8 : pb_cok 0 0 8 8 8 = true := by decide
theorem pb_cok_1_0_7_8_8 : pb_cok 1 0 7 8 8 = true := by decide
theorem pb_cok_30_0_210_240_240 : pb_cok 30 0 210 240 240 = true := by decide
theorem pb_len_240 : Int32.ofNat 240 = 240 := by decide
theorem pb_len_5 : Int32.ofNat 5 = 5 := by decide
theorem pb_len_8 : Int32.ofNat 8 = 8 := by decide
theorem pb_nzI_2 : ¬ (2 : Int32) = 0 := by decide
theorem pb_nzJ_2147483648 : ¬ (2147483648 : Int64) = 0 := by decide
theorem pb_nzJ_65536 : ¬ (65536 : Int64) = 0 := by decide
theorem pb_ok_0_128 : pb_ok 0 128 = true := by decide
theorem pb_ok_0_1508 : pb_ok 0 1508 = true := by decide
theorem pb_ok_0_256 : pb_ok 0 256 = true := by decide
theorem pb_ok_0_3 : pb_ok 0 3 = true := by decide
theorem pb_ok_0_5 : pb_ok 0 5 = true := by decide
theorem pb_ok_1_1508 : pb_ok 1 1508 = true := by decide
theorem pb_ok_1_3 : pb_ok 1 3 = true := by decide
theorem pb_ok_1_5 : pb_ok 1 5 = true := by decide
theorem pb_ok_1131_1508 : pb_ok 1131 1508 = true := by decide
theorem pb_ok_1132_1508 : pb_ok 1132 1508 = true := by decide
theorem pb_ok_1133_1508 : pb_ok 1133 1508 = true := by decide
theorem pb_ok_2_1508 : pb_ok 2 1508 = true := by decide
theorem pb_ok_2_3 : pb_ok 2 3 = true := by decide
theorem pb_ok_2_5 : pb_ok 2 5 = true := by decide
theorem pb_ok_3_1508 : pb_ok 3 1508 = true := by decide
theorem pb_ok_3_5 : pb_ok 3 5 = true := by decide
theorem pb_ok_4_1508 : pb_ok 4 1508 = true := by decide
theorem pb_ok_4_5 : pb_ok 4 5 = true := by decide
theorem kdS_J6_bitCount_0f7a4 : yJ6_bitCount_0f7a4.cls ≠ "java/lang/invoke/MethodHandle" ∧ yJ6_bitCount_0f7a4.cls ≠ "java/lang/invoke/VarHandle" ∧ (parseMethodDescriptor yJ6_bitCount_0f7a4.desc).map (fun d => d.parameters.length) = some 1 := by decide +kernel
theorem kdS_J6_compare_7cf53 : yJ6_compare_7cf53.cls ≠ "java/lang/invoke/MethodHandle" ∧ yJ6_compare_7cf53.cls ≠ "java/lang/invoke/VarHandle" ∧ (parseMethodDescriptor yJ6_compare_7cf53.desc).map (fun d => d.parameters.length) = some 2 := by decide +kernel
theorem kdS_X0_commonDivisor : yX0_commonDivisor.cls ≠ "java/lang/invoke/MethodHandle" ∧ yX0_commonDivisor.cls ≠ "java/lang/invoke/VarHandle" ∧ (parseMethodDescriptor yX0_commonDivisor.desc).map (fun d => d.parameters.length) = some 2 := by decide +kernel
theorem kdS_X1_bestDig : yX1_bestDig.cls ≠ "java/lang/invoke/MethodHandle" ∧ yX1_bestDig.cls ≠ "java/lang/invoke/VarHandle" ∧ (parseMethodDescriptor yX1_bestDig.desc).map (fun d => d.parameters.length) = some 3 := by decide +kernel
theorem kdS_X1_heldSet : yX1_heldSet.cls ≠ "java/lang/invoke/MethodHandle" ∧ yX1_heldSet.cls ≠ "java/lang/invoke/VarHandle" ∧ (parseMethodDescriptor yX1_heldSet.desc).map (fun d => d.parameters.length) = some 2 := by decide +kernel
theorem kdS_X1_weighedBook : yX1_weighedBook.cls ≠ "java/lang/invoke/MethodHandle" ∧ yX1_weighedBook.cls ≠ "java/lang/invoke/VarHandle" ∧ (parseMethodDescriptor yX1_weighedBook.desc).map (fun d => d.parameters.length) = some 2 := by decide +kernel
theorem kdS_X1_weighedWorth : yX1_weighedWorth.cls ≠ "java/lang/invoke/MethodHandle" ∧ yX1_weighedWorth.cls ≠ "java/lang/invoke/VarHandle" ∧ (parseMethodDescriptor yX1_weighedWorth.desc).map (fun d => d.parameters.length) = some 4 := by decide +kernel
theorem kdS_X2_inTheWay : yX2_inTheWay.cls ≠ "java/lang/invoke/MethodHandle" ∧ yX2_inTheWay.cls ≠ "java/lang/invoke/VarHandle" ∧ (parseMethodDescriptor yX2_inTheWay.desc).map (fun d => d.parameters.length) = some 2 := by decide +kernel
theorem kdS_X2_isFewer : yX2_isFewer.cls ≠ "java/lang/invoke/MethodHandle" ∧ yX2_isFewer.cls ≠ "java/lang/invoke/VarHandle" ∧ (parseMethodDescriptor yX2_isFewer.desc).map (fun d => d.parameters.length) = some 2 := by decide +kernel
theorem kdS_X2_keepsAll : yX2_keepsAll.cls ≠ "java/lang/invoke/MethodHandle" ∧ yX2_keepsAll.cls ≠ "java/lang/invoke/VarHandle" ∧ (parseMethodDescriptor yX2_keepsAll.desc).map (fun d => d.parameters.length) = some 2 := by decide +kernel
theorem kdS_X2_productFor : yX2_productFor.cls ≠ "java/lang/invoke/MethodHandle" ∧ yX2_productFor.cls ≠ "java/lang/invoke/VarHandle" ∧ (parseMethodDescriptor yX2_productFor.desc).map (fun d => d.parameters.length) = some 3 := by decide +kernel
theorem kdS_X3_isFigure : yX3_isFigure.cls ≠ "java/lang/invoke/MethodHandle" ∧ yX3_isFigure.cls ≠ "java/lang/invoke/VarHandle" ∧ (parseMethodDescriptor yX3_isFigure.desc).map (fun d => d.parameters.length) = some 1 := by decide +kernel
theorem kdS_X3_isLetter : yX3_isLetter.cls ≠ "java/lang/invoke/MethodHandle" ∧ yX3_isLetter.cls ≠ "java/lang/invoke/VarHandle" ∧ (parseMethodDescriptor yX3_isLetter.desc).map (fun d => d.parameters.length) = some 1 := by decide +kernel
theorem kdS_X7_betHolds : yX7_betHolds.cls ≠ "java/lang/invoke/MethodHandle" ∧ yX7_betHolds.cls ≠ "java/lang/invoke/VarHandle" ∧ (parseMethodDescriptor yX7_betHolds.desc).map (fun d => d.parameters.length) = some 3 := by decide +kernel
theorem kdS_X7_bookIn : yX7_bookIn.cls ≠ "java/lang/invoke/MethodHandle" ∧ yX7_bookIn.cls ≠ "java/lang/invoke/VarHandle" ∧ (parseMethodDescriptor yX7_bookIn.desc).map (fun d => d.parameters.length) = some 2 := by decide +kernel
theorem kdS_X7_claimHolds : yX7_claimHolds.cls ≠ "java/lang/invoke/MethodHandle" ∧ yX7_claimHolds.cls ≠ "java/lang/invoke/VarHandle" ∧ (parseMethodDescriptor yX7_claimHolds.desc).map (fun d => d.parameters.length) = some 4 := by decide +kernel
theorem kdS_X7_gainIn : yX7_gainIn.cls ≠ "java/lang/invoke/MethodHandle" ∧ yX7_gainIn.cls ≠ "java/lang/invoke/VarHandle" ∧ (parseMethodDescriptor yX7_gainIn.desc).map (fun d => d.parameters.length) = some 3 := by decide +kernel
theorem kdS_X7_isClaim : yX7_isClaim.cls ≠ "java/lang/invoke/MethodHandle" ∧ yX7_isClaim.cls ≠ "java/lang/invoke/VarHandle" ∧ (parseMethodDescriptor yX7_isClaim.desc).map (fun d => d.parameters.length) = some 3 := by decide +kernel
theorem kdS_X7_isFact : yX7_isFact.cls ≠ "java/lang/invoke/MethodHandle" ∧ yX7_isFact.cls ≠ "java/lang/invoke/VarHandle" ∧ (parseMethodDescriptor yX7_isFact.desc).map (fun d => d.parameters.length) = some 1 := by decide +kernel
theorem kdS_X7_isFind : yX7_isFind.cls ≠ "java/lang/invoke/MethodHandle" ∧ yX7_isFind.cls ≠ "java/lang/invoke/VarHandle" ∧ (parseMethodDescriptor yX7_isFind.desc).map (fun d => d.parameters.length) = some 3 := by decide +kernel
theorem kdS_X7_isPast : yX7_isPast.cls ≠ "java/lang/invoke/MethodHandle" ∧ yX7_isPast.cls ≠ "java/lang/invoke/VarHandle" ∧ (parseMethodDescriptor yX7_isPast.desc).map (fun d => d.parameters.length) = some 1 := by decide +kernel
theorem kdS_X7_isWithin : yX7_isWithin.cls ≠ "java/lang/invoke/MethodHandle" ∧ yX7_isWithin.cls ≠ "java/lang/invoke/VarHandle" ∧ (parseMethodDescriptor yX7_isWithin.desc).map (fun d => d.parameters.length) = some 3 := by decide +kernel
theorem kdS_X7_lawKept : yX7_lawKept.cls ≠ "java/lang/invoke/MethodHandle" ∧ yX7_lawKept.cls ≠ "java/lang/invoke/VarHandle" ∧ (parseMethodDescriptor yX7_lawKept.desc).map (fun d => d.parameters.length) = some 3 := by decide +kernel
theorem kdS_X7_shareOfTen : yX7_shareOfTen.cls ≠ "java/lang/invoke/MethodHandle" ∧ yX7_shareOfTen.cls ≠ "java/lang/invoke/VarHandle" ∧ (parseMethodDescriptor yX7_shareOfTen.desc).map (fun d => d.parameters.length) = some 4 := by decide +kernel
theorem kdS_X7_wasSo : yX7_wasSo.cls ≠ "java/lang/invoke/MethodHandle" ∧ yX7_wasSo.cls ≠ "java/lang/invoke/VarHandle" ∧ (parseMethodDescriptor yX7_wasSo.desc).map (fun d => d.parameters.length) = some 2 := by decide +kernel
theorem kdS_X8_has : yX8_has.cls ≠ "java/lang/invoke/MethodHandle" ∧ yX8_has.cls ≠ "java/lang/invoke/VarHandle" ∧ (parseMethodDescriptor yX8_has.desc).map (fun d => d.parameters.length) = some 2 := by decide +kernel
theorem kdS_X8_in : yX8_in.cls ≠ "java/lang/invoke/MethodHandle" ∧ yX8_in.cls ≠ "java/lang/invoke/VarHandle" ∧ (parseMethodDescriptor yX8_in.desc).map (fun d => d.parameters.length) = some 3 := by decide +kernel
theorem kdS_X8_isClaim : yX8_isClaim.cls ≠ "java/lang/invoke/MethodHandle" ∧ yX8_isClaim.cls ≠ "java/lang/invoke/VarHandle" ∧ (parseMethodDescriptor yX8_isClaim.desc).map (fun d => d.parameters.length) = some 3 := by decide +kernel
theorem kdS_X8_isFact : yX8_isFact.cls ≠ "java/lang/invoke/MethodHandle" ∧ yX8_isFact.cls ≠ "java/lang/invoke/VarHandle" ∧ (parseMethodDescriptor yX8_isFact.desc).map (fun d => d.parameters.length) = some 1 := by decide +kernel
theorem kdS_X8_isFind : yX8_isFind.cls ≠ "java/lang/invoke/MethodHandle" ∧ yX8_isFind.cls ≠ "java/lang/invoke/VarHandle" ∧ (parseMethodDescriptor yX8_isFind.desc).map (fun d => d.parameters.length) = some 3 := by decide +kernel
theorem kdS_X8_isPast : yX8_isPast.cls ≠ "java/lang/invoke/MethodHandle" ∧ yX8_isPast.cls ≠ "java/lang/invoke/VarHandle" ∧ (parseMethodDescriptor yX8_isPast.desc).map (fun d => d.parameters.length) = some 1 := by decide +kernel
theorem kdS_X8_isSo : yX8_isSo.cls ≠ "java/lang/invoke/MethodHandle" ∧ yX8_isSo.cls ≠ "java/lang/invoke/VarHandle" ∧ (parseMethodDescriptor yX8_isSo.desc).map (fun d => d.parameters.length) = some 4 := by decide +kernel
theorem kdS_X8_isStake : yX8_isStake.cls ≠ "java/lang/invoke/MethodHandle" ∧ yX8_isStake.cls ≠ "java/lang/invoke/VarHandle" ∧ (parseMethodDescriptor yX8_isStake.desc).map (fun d => d.parameters.length) = some 5 := by decide +kernel
theorem kdS_X8_ones : yX8_ones.cls ≠ "java/lang/invoke/MethodHandle" ∧ yX8_ones.cls ≠ "java/lang/invoke/VarHandle" ∧ (parseMethodDescriptor yX8_ones.desc).map (fun d => d.parameters.length) = some 1 := by decide +kernel
theorem kdV_X0_put : yX0_put.cls = RX0 ∧ yX0_put.cls ≠ "java/lang/invoke/MethodHandle" ∧ yX0_put.cls ≠ "java/lang/invoke/VarHandle" ∧ (parseMethodDescriptor yX0_put.desc).map (fun d => d.parameters.length) = some 2 := by decide +kernel
theorem kdV_X1_leastWin : yX1_leastWin.cls = RX1 ∧ yX1_leastWin.cls ≠ "java/lang/invoke/MethodHandle" ∧ yX1_leastWin.cls ≠ "java/lang/invoke/VarHandle" ∧ (parseMethodDescriptor yX1_leastWin.desc).map (fun d => d.parameters.length) = some 2 := by decide +kernel
theorem kdV_X1_listHeldSets : yX1_listHeldSets.cls = RX1 ∧ yX1_listHeldSets.cls ≠ "java/lang/invoke/MethodHandle" ∧ yX1_listHeldSets.cls ≠ "java/lang/invoke/VarHandle" ∧ (parseMethodDescriptor yX1_listHeldSets.desc).map (fun d => d.parameters.length) = some 2 := by decide +kernel
theorem kdV_X1_seekSure : yX1_seekSure.cls = RX1 ∧ yX1_seekSure.cls ≠ "java/lang/invoke/MethodHandle" ∧ yX1_seekSure.cls ≠ "java/lang/invoke/VarHandle" ∧ (parseMethodDescriptor yX1_seekSure.desc).map (fun d => d.parameters.length) = some 2 := by decide +kernel
theorem kdV_X1_seekWorst : yX1_seekWorst.cls = RX1 ∧ yX1_seekWorst.cls ≠ "java/lang/invoke/MethodHandle" ∧ yX1_seekWorst.cls ≠ "java/lang/invoke/VarHandle" ∧ (parseMethodDescriptor yX1_seekWorst.desc).map (fun d => d.parameters.length) = some 2 := by decide +kernel
theorem kdV_X1_sumSets : yX1_sumSets.cls = RX1 ∧ yX1_sumSets.cls ≠ "java/lang/invoke/MethodHandle" ∧ yX1_sumSets.cls ≠ "java/lang/invoke/VarHandle" ∧ (parseMethodDescriptor yX1_sumSets.desc).map (fun d => d.parameters.length) = some 1 := by decide +kernel
theorem kdV_X2_fewestInTheWay : yX2_fewestInTheWay.cls = RX2 ∧ yX2_fewestInTheWay.cls ≠ "java/lang/invoke/MethodHandle" ∧ yX2_fewestInTheWay.cls ≠ "java/lang/invoke/VarHandle" ∧ (parseMethodDescriptor yX2_fewestInTheWay.desc).map (fun d => d.parameters.length) = some 1 := by decide +kernel
theorem kdV_X2_fits : yX2_fits.cls = RX2 ∧ yX2_fits.cls ≠ "java/lang/invoke/MethodHandle" ∧ yX2_fits.cls ≠ "java/lang/invoke/VarHandle" ∧ (parseMethodDescriptor yX2_fits.desc).map (fun d => d.parameters.length) = some 0 := by decide +kernel
theorem kdV_X2_held : yX2_held.cls = RX2 ∧ yX2_held.cls ≠ "java/lang/invoke/MethodHandle" ∧ yX2_held.cls ≠ "java/lang/invoke/VarHandle" ∧ (parseMethodDescriptor yX2_held.desc).map (fun d => d.parameters.length) = some 3 := by decide +kernel
theorem kdV_X2_heldIf : yX2_heldIf.cls = RX2 ∧ yX2_heldIf.cls ≠ "java/lang/invoke/MethodHandle" ∧ yX2_heldIf.cls ≠ "java/lang/invoke/VarHandle" ∧ (parseMethodDescriptor yX2_heldIf.desc).map (fun d => d.parameters.length) = some 6 := by decide +kernel
theorem kdV_X2_howManyPossible : yX2_howManyPossible.cls = RX2 ∧ yX2_howManyPossible.cls ≠ "java/lang/invoke/MethodHandle" ∧ yX2_howManyPossible.cls ≠ "java/lang/invoke/VarHandle" ∧ (parseMethodDescriptor yX2_howManyPossible.desc).map (fun d => d.parameters.length) = some 0 := by decide +kernel
theorem kdV_X2_listFitting : yX2_listFitting.cls = RX2 ∧ yX2_listFitting.cls ≠ "java/lang/invoke/MethodHandle" ∧ yX2_listFitting.cls ≠ "java/lang/invoke/VarHandle" ∧ (parseMethodDescriptor yX2_listFitting.desc).map (fun d => d.parameters.length) = some 1 := by decide +kernel
theorem kdV_X2_mostWeight : yX2_mostWeight.cls = RX2 ∧ yX2_mostWeight.cls ≠ "java/lang/invoke/MethodHandle" ∧ yX2_mostWeight.cls ≠ "java/lang/invoke/VarHandle" ∧ (parseMethodDescriptor yX2_mostWeight.desc).map (fun d => d.parameters.length) = some 0 := by decide +kernel
theorem kdV_X2_possibleAt : yX2_possibleAt.cls = RX2 ∧ yX2_possibleAt.cls ≠ "java/lang/invoke/MethodHandle" ∧ yX2_possibleAt.cls ≠ "java/lang/invoke/VarHandle" ∧ (parseMethodDescriptor yX2_possibleAt.desc).map (fun d => d.parameters.length) = some 1 := by decide +kernel
theorem kdV_X2_totalIf : yX2_totalIf.cls = RX2 ∧ yX2_totalIf.cls ≠ "java/lang/invoke/MethodHandle" ∧ yX2_totalIf.cls ≠ "java/lang/invoke/VarHandle" ∧ (parseMethodDescriptor yX2_totalIf.desc).map (fun d => d.parameters.length) = some 3 := by decide +kernel
theorem kdV_X2_verdict : yX2_verdict.cls = RX2 ∧ yX2_verdict.cls ≠ "java/lang/invoke/MethodHandle" ∧ yX2_verdict.cls ≠ "java/lang/invoke/VarHandle" ∧ (parseMethodDescriptor yX2_verdict.desc).map (fun d => d.parameters.length) = some 3 := by decide +kernel
theorem kdV_X2_weigh : yX2_weigh.cls = RX2 ∧ yX2_weigh.cls ≠ "java/lang/invoke/MethodHandle" ∧ yX2_weigh.cls ≠ "java/lang/invoke/VarHandle" ∧ (parseMethodDescriptor yX2_weigh.desc).map (fun d => d.parameters.length) = some 2 := by decide +kernel
theorem kdV_X2_weighByFinds : yX2_weighByFinds.cls = RX2 ∧ yX2_weighByFinds.cls ≠ "java/lang/invoke/MethodHandle" ∧ yX2_weighByFinds.cls ≠ "java/lang/invoke/VarHandle" ∧ (parseMethodDescriptor yX2_weighByFinds.desc).map (fun d => d.parameters.length) = some 1 := by decide +kernel
theorem kdV_X3_append : yX3_append.cls = RX3 ∧ yX3_append.cls ≠ "java/lang/invoke/MethodHandle" ∧ yX3_append.cls ≠ "java/lang/invoke/VarHandle" ∧ (parseMethodDescriptor yX3_append.desc).map (fun d => d.parameters.length) = some 1 := by decide +kernel
theorem kdV_X3_endOfRun : yX3_endOfRun.cls = RX3 ∧ yX3_endOfRun.cls ≠ "java/lang/invoke/MethodHandle" ∧ yX3_endOfRun.cls ≠ "java/lang/invoke/VarHandle" ∧ (parseMethodDescriptor yX3_endOfRun.desc).map (fun d => d.parameters.length) = some 1 := by decide +kernel
theorem kdV_X3_isWord : yX3_isWord.cls = RX3 ∧ yX3_isWord.cls ≠ "java/lang/invoke/MethodHandle" ∧ yX3_isWord.cls ≠ "java/lang/invoke/VarHandle" ∧ (parseMethodDescriptor yX3_isWord.desc).map (fun d => d.parameters.length) = some 1 := by decide +kernel
theorem kdV_X3_numberHere : yX3_numberHere.cls = RX3 ∧ yX3_numberHere.cls ≠ "java/lang/invoke/MethodHandle" ∧ yX3_numberHere.cls ≠ "java/lang/invoke/VarHandle" ∧ (parseMethodDescriptor yX3_numberHere.desc).map (fun d => d.parameters.length) = some 0 := by decide +kernel
theorem kdV_X3_readInto : yX3_readInto.cls = RX3 ∧ yX3_readInto.cls ≠ "java/lang/invoke/MethodHandle" ∧ yX3_readInto.cls ≠ "java/lang/invoke/VarHandle" ∧ (parseMethodDescriptor yX3_readInto.desc).map (fun d => d.parameters.length) = some 1 := by decide +kernel
theorem kdV_X3_readItem : yX3_readItem.cls = RX3 ∧ yX3_readItem.cls ≠ "java/lang/invoke/MethodHandle" ∧ yX3_readItem.cls ≠ "java/lang/invoke/VarHandle" ∧ (parseMethodDescriptor yX3_readItem.desc).map (fun d => d.parameters.length) = some 2 := by decide +kernel
theorem kdV_X3_readRow : yX3_readRow.cls = RX3 ∧ yX3_readRow.cls ≠ "java/lang/invoke/MethodHandle" ∧ yX3_readRow.cls ≠ "java/lang/invoke/VarHandle" ∧ (parseMethodDescriptor yX3_readRow.desc).map (fun d => d.parameters.length) = some 2 := by decide +kernel
theorem kdV_X3_takeToken : yX3_takeToken.cls = RX3 ∧ yX3_takeToken.cls ≠ "java/lang/invoke/MethodHandle" ∧ yX3_takeToken.cls ≠ "java/lang/invoke/VarHandle" ∧ (parseMethodDescriptor yX3_takeToken.desc).map (fun d => d.parameters.length) = some 0 := by decide +kernel
theorem kdV_X4_begin : yX4_begin.cls = RX4 ∧ yX4_begin.cls ≠ "java/lang/invoke/MethodHandle" ∧ yX4_begin.cls ≠ "java/lang/invoke/VarHandle" ∧ (parseMethodDescriptor yX4_begin.desc).map (fun d => d.parameters.length) = some 1 := by decide +kernel
theorem kdV_X4_daysOnce : yX4_daysOnce.cls = RX4 ∧ yX4_daysOnce.cls ≠ "java/lang/invoke/MethodHandle" ∧ yX4_daysOnce.cls ≠ "java/lang/invoke/VarHandle" ∧ (parseMethodDescriptor yX4_daysOnce.desc).map (fun d => d.parameters.length) = some 4 := by decide +kernel
theorem kdV_X4_draw : yX4_draw.cls = RX4 ∧ yX4_draw.cls ≠ "java/lang/invoke/MethodHandle" ∧ yX4_draw.cls ≠ "java/lang/invoke/VarHandle" ∧ (parseMethodDescriptor yX4_draw.desc).map (fun d => d.parameters.length) = some 1 := by decide +kernel
theorem kdV_X4_isOpen : yX4_isOpen.cls = RX4 ∧ yX4_isOpen.cls ≠ "java/lang/invoke/MethodHandle" ∧ yX4_isOpen.cls ≠ "java/lang/invoke/VarHandle" ∧ (parseMethodDescriptor yX4_isOpen.desc).map (fun d => d.parameters.length) = some 3 := by decide +kernel
theorem kdV_X4_narrow : yX4_narrow.cls = RX4 ∧ yX4_narrow.cls ≠ "java/lang/invoke/MethodHandle" ∧ yX4_narrow.cls ≠ "java/lang/invoke/VarHandle" ∧ (parseMethodDescriptor yX4_narrow.desc).map (fun d => d.parameters.length) = some 2 := by decide +kernel
theorem kdV_X5_empty : yX5_empty.cls = RX5 ∧ yX5_empty.cls ≠ "java/lang/invoke/MethodHandle" ∧ yX5_empty.cls ≠ "java/lang/invoke/VarHandle" ∧ (parseMethodDescriptor yX5_empty.desc).map (fun d => d.parameters.length) = some 0 := by decide +kernel
theorem kdV_X5_keepStep : yX5_keepStep.cls = RX5 ∧ yX5_keepStep.cls ≠ "java/lang/invoke/MethodHandle" ∧ yX5_keepStep.cls ≠ "java/lang/invoke/VarHandle" ∧ (parseMethodDescriptor yX5_keepStep.desc).map (fun d => d.parameters.length) = some 0 := by decide +kernel
theorem kdV_X5_loseSteps : yX5_loseSteps.cls = RX5 ∧ yX5_loseSteps.cls ≠ "java/lang/invoke/MethodHandle" ∧ yX5_loseSteps.cls ≠ "java/lang/invoke/VarHandle" ∧ (parseMethodDescriptor yX5_loseSteps.desc).map (fun d => d.parameters.length) = some 0 := by decide +kernel
theorem kdV_X5_stepBack : yX5_stepBack.cls = RX5 ∧ yX5_stepBack.cls ≠ "java/lang/invoke/MethodHandle" ∧ yX5_stepBack.cls ≠ "java/lang/invoke/VarHandle" ∧ (parseMethodDescriptor yX5_stepBack.desc).map (fun d => d.parameters.length) = some 0 := by decide +kernel
theorem kdV_X5_takeOver : yX5_takeOver.cls = RX5 ∧ yX5_takeOver.cls ≠ "java/lang/invoke/MethodHandle" ∧ yX5_takeOver.cls ≠ "java/lang/invoke/VarHandle" ∧ (parseMethodDescriptor yX5_takeOver.desc).map (fun d => d.parameters.length) = some 1 := by decide +kernel
theorem kdV_X6_addFive : yX6_addFive.cls = RX6 ∧ yX6_addFive.cls ≠ "java/lang/invoke/MethodHandle" ∧ yX6_addFive.cls ≠ "java/lang/invoke/VarHandle" ∧ (parseMethodDescriptor yX6_addFive.desc).map (fun d => d.parameters.length) = some 5 := by decide +kernel
theorem kdV_X6_addThree : yX6_addThree.cls = RX6 ∧ yX6_addThree.cls ≠ "java/lang/invoke/MethodHandle" ∧ yX6_addThree.cls ≠ "java/lang/invoke/VarHandle" ∧ (parseMethodDescriptor yX6_addThree.desc).map (fun d => d.parameters.length) = some 3 := by decide +kernel
theorem kdV_X6_cell : yX6_cell.cls = RX6 ∧ yX6_cell.cls ≠ "java/lang/invoke/MethodHandle" ∧ yX6_cell.cls ≠ "java/lang/invoke/VarHandle" ∧ (parseMethodDescriptor yX6_cell.desc).map (fun d => d.parameters.length) = some 2 := by decide +kernel
theorem kdV_X6_empty : yX6_empty.cls = RX6 ∧ yX6_empty.cls ≠ "java/lang/invoke/MethodHandle" ∧ yX6_empty.cls ≠ "java/lang/invoke/VarHandle" ∧ (parseMethodDescriptor yX6_empty.desc).map (fun d => d.parameters.length) = some 0 := by decide +kernel
theorem kdV_X6_has : yX6_has.cls = RX6 ∧ yX6_has.cls ≠ "java/lang/invoke/MethodHandle" ∧ yX6_has.cls ≠ "java/lang/invoke/VarHandle" ∧ (parseMethodDescriptor yX6_has.desc).map (fun d => d.parameters.length) = some 1 := by decide +kernel
theorem kdV_X6_isFull : yX6_isFull.cls = RX6 ∧ yX6_isFull.cls ≠ "java/lang/invoke/MethodHandle" ∧ yX6_isFull.cls ≠ "java/lang/invoke/VarHandle" ∧ (parseMethodDescriptor yX6_isFull.desc).map (fun d => d.parameters.length) = some 0 := by decide +kernel
theorem kdV_X6_mixInto : yX6_mixInto.cls = RX6 ∧ yX6_mixInto.cls ≠ "java/lang/invoke/MethodHandle" ∧ yX6_mixInto.cls ≠ "java/lang/invoke/VarHandle" ∧ (parseMethodDescriptor yX6_mixInto.desc).map (fun d => d.parameters.length) = some 1 := by decide +kernel
theorem kdV_X6_takeOut : yX6_takeOut.cls = RX6 ∧ yX6_takeOut.cls ≠ "java/lang/invoke/MethodHandle" ∧ yX6_takeOut.cls ≠ "java/lang/invoke/VarHandle" ∧ (parseMethodDescriptor yX6_takeOut.desc).map (fun d => d.parameters.length) = some 1 := by decide +kernel
theorem kdV_X6_takeOver : yX6_takeOver.cls = RX6 ∧ yX6_takeOver.cls ≠ "java/lang/invoke/MethodHandle" ∧ yX6_takeOver.cls ≠ "java/lang/invoke/VarHandle" ∧ (parseMethodDescriptor yX6_takeOver.desc).map (fun d => d.parameters.length) = some 1 := by decide +kernel
theorem kdV_X7_asBad : yX7_asBad.cls = RX7 ∧ yX7_asBad.cls ≠ "java/lang/invoke/MethodHandle" ∧ yX7_asBad.cls ≠ "java/lang/invoke/VarHandle" ∧ (parseMethodDescriptor yX7_asBad.desc).map (fun d => d.parameters.length) = some 1 := by decide +kernel
theorem kdV_X7_asFull : yX7_asFull.cls = RX7 ∧ yX7_asFull.cls ≠ "java/lang/invoke/MethodHandle" ∧ yX7_asFull.cls ≠ "java/lang/invoke/VarHandle" ∧ (parseMethodDescriptor yX7_asFull.desc).map (fun d => d.parameters.length) = some 0 := by decide +kernel
theorem kdV_X7_asNo : yX7_asNo.cls = RX7 ∧ yX7_asNo.cls ≠ "java/lang/invoke/MethodHandle" ∧ yX7_asNo.cls ≠ "java/lang/invoke/VarHandle" ∧ (parseMethodDescriptor yX7_asNo.desc).map (fun d => d.parameters.length) = some 1 := by decide +kernel
theorem kdV_X7_howMany : yX7_howMany.cls = RX7 ∧ yX7_howMany.cls ≠ "java/lang/invoke/MethodHandle" ∧ yX7_howMany.cls ≠ "java/lang/invoke/VarHandle" ∧ (parseMethodDescriptor yX7_howMany.desc).map (fun d => d.parameters.length) = some 1 := by decide +kernel
theorem kdV_X7_makesAllSo : yX7_makesAllSo.cls = RX7 ∧ yX7_makesAllSo.cls ≠ "java/lang/invoke/MethodHandle" ∧ yX7_makesAllSo.cls ≠ "java/lang/invoke/VarHandle" ∧ (parseMethodDescriptor yX7_makesAllSo.desc).map (fun d => d.parameters.length) = some 2 := by decide +kernel
theorem kdV_X7_weighed : yX7_weighed.cls = RX7 ∧ yX7_weighed.cls ≠ "java/lang/invoke/MethodHandle" ∧ yX7_weighed.cls ≠ "java/lang/invoke/VarHandle" ∧ (parseMethodDescriptor yX7_weighed.desc).map (fun d => d.parameters.length) = some 0 := by decide +kernel
theorem kdV_X8_adds : yX8_adds.cls = RX8 ∧ yX8_adds.cls ≠ "java/lang/invoke/MethodHandle" ∧ yX8_adds.cls ≠ "java/lang/invoke/VarHandle" ∧ (parseMethodDescriptor yX8_adds.desc).map (fun d => d.parameters.length) = some 6 := by decide +kernel
theorem kdV_X8_adds5 : yX8_adds5.cls = RX8 ∧ yX8_adds5.cls ≠ "java/lang/invoke/MethodHandle" ∧ yX8_adds5.cls ≠ "java/lang/invoke/VarHandle" ∧ (parseMethodDescriptor yX8_adds5.desc).map (fun d => d.parameters.length) = some 8 := by decide +kernel
theorem kdV_X8_bad : yX8_bad.cls = RX8 ∧ yX8_bad.cls ≠ "java/lang/invoke/MethodHandle" ∧ yX8_bad.cls ≠ "java/lang/invoke/VarHandle" ∧ (parseMethodDescriptor yX8_bad.desc).map (fun d => d.parameters.length) = some 0 := by decide +kernel
theorem kdV_X8_badAs : yX8_badAs.cls = RX8 ∧ yX8_badAs.cls ≠ "java/lang/invoke/MethodHandle" ∧ yX8_badAs.cls ≠ "java/lang/invoke/VarHandle" ∧ (parseMethodDescriptor yX8_badAs.desc).map (fun d => d.parameters.length) = some 1 := by decide +kernel
theorem kdV_X8_begins : yX8_begins.cls = RX8 ∧ yX8_begins.cls ≠ "java/lang/invoke/MethodHandle" ∧ yX8_begins.cls ≠ "java/lang/invoke/VarHandle" ∧ (parseMethodDescriptor yX8_begins.desc).map (fun d => d.parameters.length) = some 1 := by decide +kernel
theorem kdV_X8_bookOf : yX8_bookOf.cls = RX8 ∧ yX8_bookOf.cls ≠ "java/lang/invoke/MethodHandle" ∧ yX8_bookOf.cls ≠ "java/lang/invoke/VarHandle" ∧ (parseMethodDescriptor yX8_bookOf.desc).map (fun d => d.parameters.length) = some 1 := by decide +kernel
theorem kdV_X8_byteAt : yX8_byteAt.cls = RX8 ∧ yX8_byteAt.cls ≠ "java/lang/invoke/MethodHandle" ∧ yX8_byteAt.cls ≠ "java/lang/invoke/VarHandle" ∧ (parseMethodDescriptor yX8_byteAt.desc).map (fun d => d.parameters.length) = some 1 := by decide +kernel
theorem kdV_X8_copy : yX8_copy.cls = RX8 ∧ yX8_copy.cls ≠ "java/lang/invoke/MethodHandle" ∧ yX8_copy.cls ≠ "java/lang/invoke/VarHandle" ∧ (parseMethodDescriptor yX8_copy.desc).map (fun d => d.parameters.length) = some 2 := by decide +kernel
theorem kdV_X8_countOf : yX8_countOf.cls = RX8 ∧ yX8_countOf.cls ≠ "java/lang/invoke/MethodHandle" ∧ yX8_countOf.cls ≠ "java/lang/invoke/VarHandle" ∧ (parseMethodDescriptor yX8_countOf.desc).map (fun d => d.parameters.length) = some 1 := by decide +kernel
theorem kdV_X8_draw : yX8_draw.cls = RX8 ∧ yX8_draw.cls ≠ "java/lang/invoke/MethodHandle" ∧ yX8_draw.cls ≠ "java/lang/invoke/VarHandle" ∧ (parseMethodDescriptor yX8_draw.desc).map (fun d => d.parameters.length) = some 1 := by decide +kernel
theorem kdV_X8_fits : yX8_fits.cls = RX8 ∧ yX8_fits.cls ≠ "java/lang/invoke/MethodHandle" ∧ yX8_fits.cls ≠ "java/lang/invoke/VarHandle" ∧ (parseMethodDescriptor yX8_fits.desc).map (fun d => d.parameters.length) = some 0 := by decide +kernel
theorem kdV_X8_full : yX8_full.cls = RX8 ∧ yX8_full.cls ≠ "java/lang/invoke/MethodHandle" ∧ yX8_full.cls ≠ "java/lang/invoke/VarHandle" ∧ (parseMethodDescriptor yX8_full.desc).map (fun d => d.parameters.length) = some 0 := by decide +kernel
theorem kdV_X8_gain : yX8_gain.cls = RX8 ∧ yX8_gain.cls ≠ "java/lang/invoke/MethodHandle" ∧ yX8_gain.cls ≠ "java/lang/invoke/VarHandle" ∧ (parseMethodDescriptor yX8_gain.desc).map (fun d => d.parameters.length) = some 2 := by decide +kernel
theorem kdV_X8_isBet : yX8_isBet.cls = RX8 ∧ yX8_isBet.cls ≠ "java/lang/invoke/MethodHandle" ∧ yX8_isBet.cls ≠ "java/lang/invoke/VarHandle" ∧ (parseMethodDescriptor yX8_isBet.desc).map (fun d => d.parameters.length) = some 1 := by decide +kernel
theorem kdV_X8_isLeft : yX8_isLeft.cls = RX8 ∧ yX8_isLeft.cls ≠ "java/lang/invoke/MethodHandle" ∧ yX8_isLeft.cls ≠ "java/lang/invoke/VarHandle" ∧ (parseMethodDescriptor yX8_isLeft.desc).map (fun d => d.parameters.length) = some 1 := by decide +kernel
theorem kdV_X8_isNamed : yX8_isNamed.cls = RX8 ∧ yX8_isNamed.cls ≠ "java/lang/invoke/MethodHandle" ∧ yX8_isNamed.cls ≠ "java/lang/invoke/VarHandle" ∧ (parseMethodDescriptor yX8_isNamed.desc).map (fun d => d.parameters.length) = some 4 := by decide +kernel
theorem kdV_X8_isPossible : yX8_isPossible.cls = RX8 ∧ yX8_isPossible.cls ≠ "java/lang/invoke/MethodHandle" ∧ yX8_isPossible.cls ≠ "java/lang/invoke/VarHandle" ∧ (parseMethodDescriptor yX8_isPossible.desc).map (fun d => d.parameters.length) = some 1 := by decide +kernel
theorem kdV_X8_isTold : yX8_isTold.cls = RX8 ∧ yX8_isTold.cls ≠ "java/lang/invoke/MethodHandle" ∧ yX8_isTold.cls ≠ "java/lang/invoke/VarHandle" ∧ (parseMethodDescriptor yX8_isTold.desc).map (fun d => d.parameters.length) = some 0 := by decide +kernel
theorem kdV_X8_minds : yX8_minds.cls = RX8 ∧ yX8_minds.cls ≠ "java/lang/invoke/MethodHandle" ∧ yX8_minds.cls ≠ "java/lang/invoke/VarHandle" ∧ (parseMethodDescriptor yX8_minds.desc).map (fun d => d.parameters.length) = some 0 := by decide +kernel
theorem kdV_X8_mix : yX8_mix.cls = RX8 ∧ yX8_mix.cls ≠ "java/lang/invoke/MethodHandle" ∧ yX8_mix.cls ≠ "java/lang/invoke/VarHandle" ∧ (parseMethodDescriptor yX8_mix.desc).map (fun d => d.parameters.length) = some 2 := by decide +kernel
theorem kdV_X8_no : yX8_no.cls = RX8 ∧ yX8_no.cls ≠ "java/lang/invoke/MethodHandle" ∧ yX8_no.cls ≠ "java/lang/invoke/VarHandle" ∧ (parseMethodDescriptor yX8_no.desc).map (fun d => d.parameters.length) = some 0 := by decide +kernel
theorem kdV_X8_noAs : yX8_noAs.cls = RX8 ∧ yX8_noAs.cls ≠ "java/lang/invoke/MethodHandle" ∧ yX8_noAs.cls ≠ "java/lang/invoke/VarHandle" ∧ (parseMethodDescriptor yX8_noAs.desc).map (fun d => d.parameters.length) = some 1 := by decide +kernel
theorem kdV_X8_pastAt : yX8_pastAt.cls = RX8 ∧ yX8_pastAt.cls ≠ "java/lang/invoke/MethodHandle" ∧ yX8_pastAt.cls ≠ "java/lang/invoke/VarHandle" ∧ (parseMethodDescriptor yX8_pastAt.desc).map (fun d => d.parameters.length) = some 1 := by decide +kernel
theorem kdV_X8_settledNow : yX8_settledNow.cls = RX8 ∧ yX8_settledNow.cls ≠ "java/lang/invoke/MethodHandle" ∧ yX8_settledNow.cls ≠ "java/lang/invoke/VarHandle" ∧ (parseMethodDescriptor yX8_settledNow.desc).map (fun d => d.parameters.length) = some 3 := by decide +kernel
theorem kdV_X8_takes : yX8_takes.cls = RX8 ∧ yX8_takes.cls ≠ "java/lang/invoke/MethodHandle" ∧ yX8_takes.cls ≠ "java/lang/invoke/VarHandle" ∧ (parseMethodDescriptor yX8_takes.desc).map (fun d => d.parameters.length) = some 3 := by decide +kernel
theorem kdV_X8_takesBet : yX8_takesBet.cls = RX8 ∧ yX8_takesBet.cls ≠ "java/lang/invoke/MethodHandle" ∧ yX8_takesBet.cls ≠ "java/lang/invoke/VarHandle" ∧ (parseMethodDescriptor yX8_takesBet.desc).map (fun d => d.parameters.length) = some 0 := by decide +kernel
theorem kdV_X8_takesFind : yX8_takesFind.cls = RX8 ∧ yX8_takesFind.cls ≠ "java/lang/invoke/MethodHandle" ∧ yX8_takesFind.cls ≠ "java/lang/invoke/VarHandle" ∧ (parseMethodDescriptor yX8_takesFind.desc).map (fun d => d.parameters.length) = some 0 := by decide +kernel
theorem kdV_X8_takesItem : yX8_takesItem.cls = RX8 ∧ yX8_takesItem.cls ≠ "java/lang/invoke/MethodHandle" ∧ yX8_takesItem.cls ≠ "java/lang/invoke/VarHandle" ∧ (parseMethodDescriptor yX8_takesItem.desc).map (fun d => d.parameters.length) = some 1 := by decide +kernel
theorem kdV_X8_takesRule : yX8_takesRule.cls = RX8 ∧ yX8_takesRule.cls ≠ "java/lang/invoke/MethodHandle" ∧ yX8_takesRule.cls ≠ "java/lang/invoke/VarHandle" ∧ (parseMethodDescriptor yX8_takesRule.desc).map (fun d => d.parameters.length) = some 0 := by decide +kernel
theorem kdV_X8_tells : yX8_tells.cls = RX8 ∧ yX8_tells.cls ≠ "java/lang/invoke/MethodHandle" ∧ yX8_tells.cls ≠ "java/lang/invoke/VarHandle" ∧ (parseMethodDescriptor yX8_tells.desc).map (fun d => d.parameters.length) = some 2 := by decide +kernel
theorem kdV_X8_token : yX8_token.cls = RX8 ∧ yX8_token.cls ≠ "java/lang/invoke/MethodHandle" ∧ yX8_token.cls ≠ "java/lang/invoke/VarHandle" ∧ (parseMethodDescriptor yX8_token.desc).map (fun d => d.parameters.length) = some 0 := by decide +kernel
theorem kdV_X8_weighAll : yX8_weighAll.cls = RX8 ∧ yX8_weighAll.cls ≠ "java/lang/invoke/MethodHandle" ∧ yX8_weighAll.cls ≠ "java/lang/invoke/VarHandle" ∧ (parseMethodDescriptor yX8_weighAll.desc).map (fun d => d.parameters.length) = some 1 := by decide +kernel
theorem kdV_X8_weighed : yX8_weighed.cls = RX8 ∧ yX8_weighed.cls ≠ "java/lang/invoke/MethodHandle" ∧ yX8_weighed.cls ≠ "java/lang/invoke/VarHandle" ∧ (parseMethodDescriptor yX8_weighed.desc).map (fun d => d.parameters.length) = some 2 := by decide +kernel
theorem kdV_X8_weightOf : yX8_weightOf.cls = RX8 ∧ yX8_weightOf.cls ≠ "java/lang/invoke/MethodHandle" ∧ yX8_weightOf.cls ≠ "java/lang/invoke/VarHandle" ∧ (parseMethodDescriptor yX8_weightOf.desc).map (fun d => d.parameters.length) = some 3 := by decide +kernel
theorem kdV_X8_wins : yX8_wins.cls = RX8 ∧ yX8_wins.cls ≠ "java/lang/invoke/MethodHandle" ∧ yX8_wins.cls ≠ "java/lang/invoke/VarHandle" ∧ (parseMethodDescriptor yX8_wins.desc).map (fun d => d.parameters.length) = some 2 := by decide +kernel
theorem kdV_X8_wordNow : yX8_wordNow.cls = RX8 ∧ yX8_wordNow.cls ≠ "java/lang/invoke/MethodHandle" ∧ yX8_wordNow.cls ≠ "java/lang/invoke/VarHandle" ∧ (parseMethodDescriptor yX8_wordNow.desc).map (fun d => d.parameters.length) = some 0 := by decide +kernel
theorem kdV_X8_worthOf : yX8_worthOf.cls = RX8 ∧ yX8_worthOf.cls ≠ "java/lang/invoke/MethodHandle" ∧ yX8_worthOf.cls ≠ "java/lang/invoke/VarHandle" ∧ (parseMethodDescriptor yX8_worthOf.desc).map (fun d => d.parameters.length) = some 2 := by decide +kernel
