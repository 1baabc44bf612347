/-! ===== if found ===== -/
def pb_V2 (V : Nat → Int64) (a : Nat) (v r : Int32) (q : Nat) : Int64 := V q * (pb_shr q a v r).toInt64
theorem pb_V2_nn {V : Nat → Int64} {a r : Nat} {v : Int32} {B : Nat} (hr : r < 11) (hN : ∀ q, pb_nn (V q) B) (q : Nat) : pb_nn (pb_V2 V a v (nI r) q) (B * 10) := by
  obtain ⟨n, hn, e⟩ := hN q
  have := pb_shr_nn ⟨r, hr⟩
  unfold pb_V2 pb_shr
  rw [e]
  by_cases h : q.testBit a = decide (v = 1)
  · rw [if_pos h, this.1, pb_oN_mul]; exact ⟨_, Nat.mul_le_mul hn (by omega), rfl⟩
  · rw [if_neg h, this.2, pb_oN_mul]; exact ⟨_, Nat.mul_le_mul hn (by omega), rfl⟩
theorem fX7_shareOfTen_eq {q a : Nat} {v r : Int32} (hq : q < 128) (ha : a < 7) : fX7_shareOfTen (nI q) (nI a) v r = some (pb_shr q a v r) := by
  unfold fX7_shareOfTen pb_shr
  rw [fX7_wasSo_eq (by omega) (by omega), Option.bind_some]
  by_cases hv : v = 1
  · rw [if_pos hv, Option.bind_some, decide_eq_true hv]
    cases q.testBit a <;> rfl
  · rw [if_neg hv, Option.bind_some, decide_eq_false hv]
    cases q.testBit a <;> rfl
theorem fX2_totalIf_eq {W V : Nat → Int64} {a : Nat} {v r : Int32} (ha : a < 7) (hV : ∀ q, q < 128 → W q = V q) : fX2_totalIf W (nI a) v r = some (pb_sum (pb_V2 V a v r) 128) := by
  unfold fX2_totalIf
  rw [show ((0 : Int64), (0 : Int32)) = ((fun q => (pb_sum (pb_V2 V a v r) q, nI q)) 0 : Int64 × Int32) from rfl]
  rw [pb_lp_iter (fun q => (pb_sum (pb_V2 V a v r) q, nI q)) 128 (pb_sum (pb_V2 V a v r) 128, nI 128) ?_ ?_ pb_FU (pb_FU_gt (by omega))]
  · rfl
  · intro q hq
    have h0 : ¬ (128 : Int32) ≤ nI q := nI_ge (b := 128) hq (by decide)
    simp only [fX2_totalIf_L6, pb_sum]
    rw [if_neg h0, if_pos (pb_okT (by omega) (by omega)), nI_clamp (by omega), hV q hq, fX7_shareOfTen_eq hq ha, Option.bind_some, Option.bind_some, nI_1]
    rfl
  · simp only [fX2_totalIf_L6]
    rw [if_pos (show (128 : Int32) ≤ nI 128 from nI_le (Nat.le_refl 128) (by omega))]
theorem fX2_heldIf_eq {W V : Nat → Int64} {k a b f : Nat} {v r : Int32} (hk : k < 6) (ha : a < 7) (hb : b < 7) (hf : f < 7) (hV : ∀ q, q < 128 → W q = V q) (hN : ∀ q, pb_nn (V q) (10 ^ 10)) : fX2_heldIf W (nI k) (nI a) (nI b) (nI f) v r = some (pb_sum (pb_held (pb_V2 V f v r) k a b) 128) := by
  unfold fX2_heldIf
  rw [show ((0 : Int64), (0 : Int32)) = ((fun q => (pb_sum (pb_held (pb_V2 V f v r) k a b) q, nI q)) 0 : Int64 × Int32) from rfl]
  rw [pb_lp_iter (fun q => (pb_sum (pb_held (pb_V2 V f v r) k a b) q, nI q)) 128 (pb_sum (pb_held (pb_V2 V f v r) k a b) 128, nI 128) ?_ ?_ pb_FU (pb_FU_gt (by omega))]
  · rfl
  · intro q hq
    have h0 : ¬ (128 : Int32) ≤ nI q := nI_ge (b := 128) hq (by decide)
    have hok : pb_ok (nI q) 128 = true := pb_okT (by omega) (by omega)
    simp only [fX2_heldIf_L6, pb_sum]
    rw [if_neg h0, if_pos hok, if_pos hok, nI_clamp (by omega), hV q hq, nI_1, fX7_shareOfTen_eq hq hf, Option.bind_some]
    unfold pb_held pb_V2
    by_cases hw : V q ≤ 0
    · rw [if_pos hw, pb_nn_le0 (hN q) (by omega) hw, Int64.zero_mul, show (if pb_claim k a b q = true then (0 : Int64) else 0) = 0 by split <;> rfl, Int64.add_zero]
    · rw [if_neg hw, fX7_claimHolds_eq hk ha hb hq, Option.bind_some]
      cases pb_claim k a b q
      · rw [pb_bI_f, if_pos rfl, if_neg (show ¬ false = true by decide), Int64.add_zero]
      · rfl
  · simp only [fX2_heldIf_L6]
    rw [if_pos (show (128 : Int32) ≤ nI 128 from nI_le (Nat.le_refl 128) (by omega))]
theorem fX8_ifFound_loop {W V : Nat → Int64} {a : Nat} {v r : Int32} (ha : a < 7) (hV : ∀ q, q < 128 → W q = V q) : pb_lp (fun y => fX8_ifFound_L46 (nI a) v r y.1 y.2.1 y.2.2) pb_FU (0, 0, W) = some (nI 128, pb_sum (pb_V2 V a v r) 128, pb_fill (pb_V2 V a v r) W 128) := by
  generalize hU : pb_V2 V a v r = U
  rw [show ((0 : Int32), (0 : Int64), W) = ((fun q => (nI q, pb_sum U q, pb_fill U W q)) 0 : Int32 × Int64 × (Nat → Int64)) from Prod.ext rfl (Prod.ext rfl (by funext j; simp [pb_fill]))]
  rw [pb_lp_iter (fun q => (nI q, pb_sum U q, pb_fill U W q)) 128 (nI 128, pb_sum U 128, pb_fill U W 128) ?_ ?_ pb_FU (pb_FU_gt (by omega))]
  · intro q hq
    have h0 : ¬ (128 : Int32) ≤ nI q := nI_ge (b := 128) hq (by decide)
    have hok : pb_ok (nI q) 128 = true := pb_okT (by omega) (by omega)
    have e0 : pb_fill U W q q = V q := (if_neg (by omega)).trans (hV q hq)
    have e4 : pb_fill U W (q + 1) q = U q := if_pos (by omega)
    have hJ : ∀ s : Int64, V q * s = U q → fX8_ifFound_J95 (nI q) (pb_sum U q) (pb_fill U W q) s = some (Sum.inl (nI (q + 1), pb_sum U (q + 1), pb_fill U W (q + 1))) := by
      intro s hs
      unfold fX8_ifFound_J95
      rw [if_pos hok, nI_clamp (by omega), e0, hs, pb_fill_step, Option.bind_some, if_pos hok, e4, Option.bind_some, nI_1]
      rfl
    have eU : U q = V q * (pb_shr q a v r).toInt64 := by rw [← hU]; rfl
    simp only [fX8_ifFound_L46]
    rw [if_neg h0, if_pos hok, fX8_has_eq (by omega) (by omega), Option.bind_some]
    unfold fX8_ifFound_J80
    unfold pb_shr at eU
    by_cases hv : v = 1
    · rw [if_pos hv, Option.bind_some]
      rw [decide_eq_true hv] at eU
      cases ht : q.testBit a
      · rw [ht] at eU
        rw [if_neg (show ¬ pb_bI false = 1 by decide), Option.bind_some]
        exact hJ _ eU.symm
      · rw [ht] at eU
        rw [if_pos (show pb_bI true = 1 from rfl), Option.bind_some]
        exact hJ _ eU.symm
    · rw [if_neg hv, Option.bind_some]
      rw [decide_eq_false hv] at eU
      cases ht : q.testBit a
      · rw [ht] at eU
        rw [if_pos (show pb_bI false = 0 from rfl), Option.bind_some]
        exact hJ _ eU.symm
      · rw [ht] at eU
        rw [if_neg (show ¬ pb_bI true = 0 by decide), Option.bind_some]
        exact hJ _ eU.symm
  · simp only [fX8_ifFound_L46]
    rw [if_pos (show (128 : Int32) ≤ nI 128 from nI_le (Nat.le_refl 128) (by omega))]
