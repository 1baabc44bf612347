/-! ===== what a find would be worth ===== -/
def pb_wg (V : Nat → Int64) (bc : Nat → Int32) (d f : Nat) (so : Bool) (q : Nat) : Int64 := if q.testBit f = so then V q * (pb_gain bc q d).toInt64 else 0
def pb_max0 (x : Int64) : Int64 := if x ≤ 0 then 0 else x
theorem pb_max0_lt (x : Int64) : (if x < 0 then 0 else x) = pb_max0 x := by
  unfold pb_max0
  by_cases h : x < 0
  · rw [if_pos h, if_pos (Int64.le_of_lt h)]
  · rw [if_neg h]
    by_cases h2 : x ≤ 0
    · rw [if_pos h2]; exact Int64.le_antisymm h2 (Int64.not_lt.mp h)
    · rw [if_neg h2]
def pb_worth (V : Nat → Int64) (bc : Nat → Int32) (d f : Nat) : Int64 := pb_max0 (pb_sum (pb_wg V bc d f true) 128) + pb_max0 (pb_sum (pb_wg V bc d f false) 128) - pb_max0 (pb_sum (pb_wg V bc d f true) 128 + pb_sum (pb_wg V bc d f false) 128)
theorem fX1_weighedWorth_eq {W V : Nat → Int64} {bc : Nat → Int32} {nb d f : Nat} (h8 : nb ≤ 8) (ho : pb_betsOK bc nb) (hd : d < nb) (hf : f < 7) (hV : ∀ q, q < 128 → W q = V q) (hN : ∀ q, pb_nn (V q) (10 ^ 10)) : fX1_weighedWorth 5 8 40 (nI nb) bc W (nI d) (nI f) = some (pb_worth V bc d f) := by
  unfold fX1_weighedWorth
  rw [show ((0 : Int64), (0 : Int64), (0 : Int32)) = ((fun q => (pb_sum (pb_wg V bc d f true) q, pb_sum (pb_wg V bc d f false) q, nI q)) 0 : Int64 × Int64 × Int32) from rfl]
  rw [pb_lp_iter (fun q => (pb_sum (pb_wg V bc d f true) q, pb_sum (pb_wg V bc d f false) q, nI q)) 128 (pb_sum (pb_wg V bc d f true) 128, pb_sum (pb_wg V bc d f false) 128, nI 128) ?_ ?_ pb_FU (pb_FU_gt (by omega))]
  · rw [Option.bind_some]
    unfold fX1_weighedWorth_E9
    simp only [Option.bind_some, pb_max0_lt]
    rfl
  · intro q hq
    have h0 : ¬ (128 : Int32) ≤ nI q := nI_ge (b := 128) hq (by decide)
    have hok : pb_ok (nI q) 128 = true := pb_okT (by omega) (by omega)
    have eg : fX7_gainIn 5 8 40 (nI nb) bc (nI d) (nI q) = some (pb_gain bc q d) := fX7_gainIn_eq (by omega) (by omega) ho hd hq
    simp only [fX1_weighedWorth_L9, pb_sum]
    rw [if_neg h0, if_pos hok, if_pos hok, nI_clamp (by omega), hV q hq, nI_1, eg, Option.bind_some, Option.bind_some, fX7_wasSo_eq (by omega) (by omega), Option.bind_some]
    unfold pb_wg
    by_cases hw : V q ≤ 0
    · rw [if_pos hw, pb_nn_le0 (hN q) (by omega) hw, Int64.zero_mul]
      cases q.testBit f <;> simp [Int64.add_zero]
    · rw [if_neg hw]
      cases q.testBit f <;> simp [pb_bI, Int64.add_zero]
  · simp only [fX1_weighedWorth_L9]
    rw [if_pos (show (128 : Int32) ≤ nI 128 from nI_le (Nat.le_refl 128) (by omega))]
theorem fX8_worthOf_eq {W V : Nat → Int64} {w bc : Nat → Int32} {nb d f : Nat} (h8 : nb ≤ 8) (ho : pb_betsOK bc nb) (he : pb_eqv w (0 + 59) bc (5 * nb)) (hd : d < nb) (hf : f < 7) (hV : ∀ q, q < 128 → W q = V q) : fX8_worthOf w W (nI d) (nI f) = some (pb_worth V bc d f) := by
  unfold fX8_worthOf
  rw [show ((0 : Int64), (0 : Int64), (0 : Int32)) = ((fun q => (pb_sum (pb_wg V bc d f true) q, pb_sum (pb_wg V bc d f false) q, nI q)) 0 : Int64 × Int64 × Int32) from rfl]
  rw [pb_lp_iter (fun q => (pb_sum (pb_wg V bc d f true) q, pb_sum (pb_wg V bc d f false) q, nI q)) 128 (pb_sum (pb_wg V bc d f true) 128, pb_sum (pb_wg V bc d f false) 128, nI 128) ?_ ?_ pb_FU (pb_FU_gt (by omega))]
  · rw [Option.bind_some]
    unfold fX8_worthOf_E8 fX8_worthOf_J89 fX8_worthOf_J102 pb_worth pb_max0
    split <;> split <;> split <;> simp_all
  · intro q hq
    have h0 : ¬ (128 : Int32) ≤ nI q := nI_ge (b := 128) hq (by decide)
    have hok : pb_ok (nI q) 128 = true := pb_okT (by omega) (by omega)
    simp only [fX8_worthOf_L8, pb_sum, fX8_worthOf_J50]
    rw [if_neg h0, if_pos hok, nI_clamp (by omega), hV q hq, nI_1, fX8_gain_eq h8 ho he hd hq, Option.bind_some, Option.bind_some, fX8_has_eq (by omega) (by omega), Option.bind_some]
    unfold pb_wg
    cases q.testBit f <;> simp [pb_bI, Int64.add_zero]
  · simp only [fX8_worthOf_L8]
    rw [if_pos (show (128 : Int32) ≤ nI 128 from nI_le (Nat.le_refl 128) (by omega))]
theorem fX1_bestDig_eq {W V : Nat → Int64} {bc : Nat → Int32} {nb d : Nat} (h8 : nb ≤ 8) (ho : pb_betsOK bc nb) (hd : d < nb) (hV : ∀ q, q < 128 → W q = V q) (hN : ∀ q, pb_nn (V q) (10 ^ 10)) : fX1_bestDig 5 8 40 (nI nb) bc W (nI d) = some (nI (pb_am (pb_worth V bc d) 7)) := by
  have hw : ∀ f, f < 7 → fX1_weighedWorth 5 8 40 (nI nb) bc W (nI d) (nI f) = some (pb_worth V bc d f) := fun f hf => fX1_weighedWorth_eq h8 ho hd hf hV hN
  unfold fX1_bestDig
  generalize pb_worth V bc d = U at hw ⊢
  have e0 : fX1_weighedWorth 5 8 40 (nI nb) bc W (nI d) 0 = some (U 0) := hw 0 (by omega)
  have a1 : pb_am U 1 = 0 := if_pos (Int64.le_refl _)
  rw [e0, Option.bind_some, show ((0 : Int32), U 0, (1 : Int32)) = ((fun k => (nI (pb_am U (k + 1)), U (pb_am U (k + 1)), nI (k + 1))) 0 : Int32 × Int64 × Int32) from by simp only [Nat.zero_add, a1]; rfl]
  rw [pb_lp_iter (fun k => (nI (pb_am U (k + 1)), U (pb_am U (k + 1)), nI (k + 1))) 6 (nI (pb_am U 7), U (pb_am U 7), nI 7) ?_ ?_ pb_FU (pb_FU_gt (by omega))]
  · rfl
  · intro k hk
    have h0 : ¬ (7 : Int32) ≤ nI (k + 1) := nI_ge (b := 7) (show k + 1 < 7 by omega) (by decide)
    simp only [fX1_bestDig_L14]
    rw [if_neg h0, hw (k + 1) (by omega), Option.bind_some, nI_1]
    by_cases h1 : U (k + 1) ≤ U (pb_am U (k + 1))
    · rw [if_pos h1, show pb_am U (k + 1 + 1) = pb_am U (k + 1) from if_pos h1]
    · rw [if_neg h1, show pb_am U (k + 1 + 1) = k + 1 from if_neg h1]
  · simp only [fX1_bestDig_L14]
    rw [if_pos (show (7 : Int32) ≤ nI (6 + 1) by decide)]
theorem fX8_dig_loop {W V : Nat → Int64} {w bc : Nat → Int32} {nb d : Nat} {t : Int64} {x : Int32} (h8 : nb ≤ 8) (ho : pb_betsOK bc nb) (he : pb_eqv w (0 + 59) bc (5 * nb)) (hd : d < nb) (hV : ∀ q, q < 128 → W q = V q) : pb_lp (fun y => fX8_dig_L29 w (nI d) (x, t, W) y.1 y.2) pb_FU (0, 1) = some (nI (pb_am (pb_worth V bc d) 7), nI 7) := by
  have hw : ∀ f, f < 7 → fX8_worthOf w W (nI d) (nI f) = some (pb_worth V bc d f) := fun f hf => fX8_worthOf_eq h8 ho he hd hf hV
  generalize pb_worth V bc d = U at hw ⊢
  have a1 : pb_am U 1 = 0 := if_pos (Int64.le_refl _)
  rw [show ((0 : Int32), (1 : Int32)) = ((fun k => (nI (pb_am U (k + 1)), nI (k + 1))) 0 : Int32 × Int32) from by simp only [Nat.zero_add, a1]; rfl]
  rw [pb_lp_iter (fun k => (nI (pb_am U (k + 1)), nI (k + 1))) 6 (nI (pb_am U 7), nI 7) ?_ ?_ pb_FU (pb_FU_gt (by omega))]
  · intro k hk
    have h0 : ¬ (7 : Int32) ≤ nI (k + 1) := nI_ge (b := 7) (show k + 1 < 7 by omega) (by decide)
    have hl := pb_am_lt U (k + 1) (by omega)
    simp only [fX8_dig_L29]
    rw [if_neg h0, hw (k + 1) (by omega), Option.bind_some, hw (pb_am U (k + 1)) (by omega), Option.bind_some, nI_1]
    by_cases h1 : U (k + 1) ≤ U (pb_am U (k + 1))
    · rw [if_pos h1, show pb_am U (k + 1 + 1) = pb_am U (k + 1) from if_pos h1]
    · rw [if_neg h1, show pb_am U (k + 1 + 1) = k + 1 from if_neg h1]
  · simp only [fX8_dig_L29]
    rw [if_pos (show (7 : Int32) ≤ nI (6 + 1) by decide)]
theorem pb_wg_zz {V : Nat → Int64} {bc : Nat → Int32} {nb d f q : Nat} {so : Bool} (ho : pb_betsOK bc nb) (hd : d < nb) (hN : pb_nn (V q) (10 ^ 10)) : pb_zz (pb_wg V bc d f so q) 98010000000000 := by
  obtain ⟨n, hn, e⟩ := hN
  obtain ⟨c1, c2⟩ := pb_gain_z3 (q := q) ho hd
  have hn' : (n : Int) ≤ 10 ^ 10 := by omega
  have d1 : (n : Int) * (pb_gain bc q d).toInt ≤ n * 9801 := Int.mul_le_mul_of_nonneg_left c2 (by omega)
  have d2 : (n : Int) * (-9801) ≤ n * (pb_gain bc q d).toInt := Int.mul_le_mul_of_nonneg_left c1 (by omega)
  unfold pb_wg
  split
  · have e1 : (V q * (pb_gain bc q d).toInt64).toInt = (n : Int) * (pb_gain bc q d).toInt := by
      rw [e, Int64.toInt_mul, pb_oN_toInt (by omega), Int32.toInt_toInt64]
      clear c1 c2 e
      generalize (n : Int) * (pb_gain bc q d).toInt = x at d1 d2 ⊢
      exact pb_bm (B := 98010000000000) (by omega) (by omega) (by decide)
    unfold pb_zz
    rw [e1]
    clear e1 c1 c2 e
    generalize (n : Int) * (pb_gain bc q d).toInt = x at d1 d2 ⊢
    omega
  · exact ⟨by decide, by decide⟩
theorem pb_max0_zz {x : Int64} {B : Nat} (h : pb_zz x B) : 0 ≤ (pb_max0 x).toInt ∧ (pb_max0 x).toInt ≤ B := by
  obtain ⟨h1, h2⟩ := h
  unfold pb_max0
  by_cases h0 : x ≤ 0
  · rw [if_pos h0, show Int64.toInt 0 = 0 from rfl]; omega
  · have h3 : 0 < x.toInt := Int64.lt_iff_toInt_lt.mp (Int64.not_le.mp h0)
    rw [if_neg h0]; omega
theorem pb_worth_zz {V : Nat → Int64} {bc : Nat → Int32} {nb d f : Nat} (ho : pb_betsOK bc nb) (hd : d < nb) (hN : ∀ q, pb_nn (V q) (10 ^ 10)) : pb_zz (pb_worth V bc d f) 100000000000000000 := by
  have z1 : pb_zz (pb_sum (pb_wg V bc d f true) 128) 12545280000000000 := pb_zz_sum (n := 128) (B := 98010000000000) (fun q _ => pb_wg_zz ho hd (hN q)) (by decide)
  have z2 : pb_zz (pb_sum (pb_wg V bc d f false) 128) 12545280000000000 := pb_zz_sum (n := 128) (B := 98010000000000) (fun q _ => pb_wg_zz ho hd (hN q)) (by decide)
  have z3 : pb_zz _ 25090560000000000 := pb_zz_add z1 z2 (by decide)
  obtain ⟨m1, m2⟩ := pb_max0_zz z1
  obtain ⟨n1, n2⟩ := pb_max0_zz z2
  obtain ⟨o1, o2⟩ := pb_max0_zz z3
  unfold pb_worth pb_zz
  rw [Int64.toInt_sub, Int64.toInt_add]
  generalize (pb_max0 (pb_sum (pb_wg V bc d f true) 128)).toInt = x at m1 m2 ⊢
  generalize (pb_max0 (pb_sum (pb_wg V bc d f false) 128)).toInt = y at n1 n2 ⊢
  generalize (pb_max0 (pb_sum (pb_wg V bc d f true) 128 + pb_sum (pb_wg V bc d f false) 128)).toInt = z at o1 o2 ⊢
  clear z1 z2 z3
  have e1 : (x + y).bmod (2 ^ 64) = x + y := pb_bm (B := 100000000000000000) (by omega) (by omega) (by decide)
  rw [e1]
  have e2 : (x + y - z).bmod (2 ^ 64) = x + y - z := pb_bm (B := 100000000000000000) (by omega) (by omega) (by decide)
  rw [e2]
  omega
