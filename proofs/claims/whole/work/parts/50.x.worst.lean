/-! ===== the worst of the book ===== -/
theorem pb_fill_in {V A : Nat → Int64} (q : Nat) (hq : q < 128) : pb_fill V A 128 q = V q := if_pos hq
theorem fX_worst_sim {w bc : Nat → Int32} {nb : Nat} {W W2 V : Nat → Int64} {t : Int64} {x0 wb : Int32} (w2 : w 2 = nI nb) (h8 : nb ≤ 8) (ho : pb_betsOK bc nb) (he : pb_eqv w (0 + 59) bc (5 * nb)) (hV : ∀ q, q < 128 → W q = V q) (hV2 : ∀ q, q < 128 → W2 q = V q) (hs : ¬ ∀ q, q < 128 → V q ≤ 0) : ∃ m c d, m < 128 ∧ pb_lp (fun y => fX1_seekWorst_L7 5 8 40 (nI nb) bc W y.1 y.2.1 y.2.2) pb_FU (0, wb, -1) = some (c, pb_book bc m nb, nI m) ∧ pb_lp (fun y => fX8_worst_L35 w (x0, t, W2) y.1 y.2) pb_FU (-1, 0) = some (nI m, d) := by
  obtain ⟨r, s, e1, e2, hQ⟩ := pb_lp_sim (b1 := fun y => fX1_seekWorst_L7 5 8 40 (nI nb) bc W y.1 y.2.1 y.2.2) (b2 := fun y => fX8_worst_L35 w (x0, t, W2) y.1 y.2) (fun n x y => ∃ k b p, k + n = 128 ∧ x = (nI k, b, p) ∧ y = (p, nI k) ∧ ((p = -1 ∧ ∀ j, j < k → V j ≤ 0) ∨ ∃ m, m < k ∧ p = nI m ∧ b = pb_book bc m nb)) (fun r s => ∃ b p c d, r = (c, b, p) ∧ s = (p, d) ∧ ((p = -1 ∧ ∀ j, j < 128 → V j ≤ 0) ∨ ∃ m, m < 128 ∧ p = nI m ∧ b = pb_book bc m nb)) (by
    rintro n x y ⟨k, b, p, hk, rfl, rfl, hp⟩
    simp only [fX1_seekWorst_L7, fX8_worst_L35]
    by_cases hn : n = 0
    · have : k = 128 := by omega
      subst this
      rw [if_pos (show (128 : Int32) ≤ nI 128 from nI_le (Nat.le_refl 128) (by omega)), if_pos (show (128 : Int32) ≤ nI 128 from nI_le (Nat.le_refl 128) (by omega))]
      exact Or.inr ⟨_, _, rfl, rfl, _, _, _, _, rfl, rfl, hp⟩
    · have h0 : ¬ (128 : Int32) ≤ nI k := nI_ge (b := 128) (show k < 128 by omega) (by decide)
      have hok : pb_ok (nI k) 128 = true := pb_okT (by omega) (by omega)
      have eb : fX7_bookIn 5 8 40 (nI nb) bc (nI k) = some (pb_book bc k nb) := fX7_bookIn_eq (by omega) (by omega) ho (by omega)
      rw [if_neg h0, if_neg h0, if_pos hok, if_pos hok, nI_clamp (by omega), hV k (by omega), hV2 k (by omega), eb, Option.bind_some, nI_1]
      left
      by_cases hw : V k ≤ 0
      · rw [if_pos hw, if_pos hw]
        refine ⟨_, _, n - 1, by omega, rfl, rfl, k + 1, b, p, by omega, rfl, rfl, ?_⟩
        rcases hp with ⟨h1, h2⟩ | ⟨m, hm, h1, h2⟩
        · exact Or.inl ⟨h1, fun j hj => by
            by_cases hjk : j = k
            · subst hjk; exact hw
            · exact h2 j (by omega)⟩
        · exact Or.inr ⟨m, by omega, h1, h2⟩
      · rw [if_neg hw, if_neg hw]
        rcases hp with ⟨h1, h2⟩ | ⟨m, hm, h1, h2⟩
        · rw [if_pos h1, if_pos h1]
          exact ⟨_, _, n - 1, by omega, rfl, rfl, k + 1, _, _, by omega, rfl, rfl, Or.inr ⟨k, by omega, rfl, rfl⟩⟩
        · subst h1 h2
          have hne : ¬ nI m = -1 := pb_nI_m1 (by omega)
          rw [if_neg hne, if_neg hne, fX8_bookOf_eq w2 h8 ho he (show k < 128 by omega), Option.bind_some, fX8_bookOf_eq w2 h8 ho he (show m < 128 by omega), Option.bind_some]
          by_cases hc : pb_book bc m nb ≤ pb_book bc k nb
          · rw [if_pos hc, if_pos hc]
            exact ⟨_, _, n - 1, by omega, rfl, rfl, k + 1, _, _, by omega, rfl, rfl, Or.inr ⟨m, by omega, rfl, rfl⟩⟩
          · rw [if_neg hc, if_neg hc]
            exact ⟨_, _, n - 1, by omega, rfl, rfl, k + 1, _, _, by omega, rfl, rfl, Or.inr ⟨k, by omega, rfl, rfl⟩⟩) pb_FU 128 (0, wb, -1) (-1, 0) ⟨0, wb, -1, by omega, rfl, rfl, Or.inl ⟨rfl, fun j hj => absurd hj (by omega)⟩⟩ (pb_FU_gt (by omega))
  obtain ⟨b, p, c, d, rfl, rfl, hp⟩ := hQ
  rcases hp with ⟨_, h2⟩ | ⟨m, hm, rfl, rfl⟩
  · exact absurd h2 hs
  · exact ⟨m, c, d, hm, e1, e2⟩
theorem fX2_fits_eq (t : Int64) : fX2_fits t = some (pb_bI (!decide (t ≤ 0))) := by
  unfold fX2_fits
  by_cases h : t ≤ 0
  · rw [if_pos h, decide_eq_true h]; rfl
  · rw [if_neg h, decide_eq_false h]; rfl
