/-! ===== the book ===== -/
def pb_gain (bc : Nat → Int32) (q k : Nat) : Int32 := if pb_claim (bc (5 * k)).toNatClampNeg (bc (5 * k + 1)).toNatClampNeg (bc (5 * k + 2)).toNatClampNeg q = true then bc (5 * k + 3) * bc (5 * k + 4) else -(bc (5 * k + 3))
def pb_book (bc : Nat → Int32) (q : Nat) : Nat → Int32
  | 0 => 0
  | n + 1 => pb_book bc q n - pb_gain bc q n
theorem fX7_betHolds_eq {M : Int32} {bc : Nat → Int32} {nb n k q : Nat} (hn : 5 * nb ≤ n) (hb : n < 1000) (ho : pb_betsOK bc nb) (hk : k < nb) (hq : q < 128) : fX7_betHolds 5 M n (nI nb) bc (nI k) (nI q) = some (pb_bI (pb_claim (bc (5 * k)).toNatClampNeg (bc (5 * k + 1)).toNatClampNeg (bc (5 * k + 2)).toNatClampNeg q)) := by
  have c0 : fX6_cell 5 M n (nI nb) bc (nI k) 0 = some (bc (5 * k)) := fX6_cell5 (c := 0) hk (by omega) hn hb
  have c1 : fX6_cell 5 M n (nI nb) bc (nI k) 1 = some (bc (5 * k + 1)) := fX6_cell5 (c := 1) hk (by omega) hn hb
  have c2 : fX6_cell 5 M n (nI nb) bc (nI k) 2 = some (bc (5 * k + 2)) := fX6_cell5 (c := 2) hk (by omega) hn hb
  obtain ⟨⟨d, hd, ed⟩, ⟨a, ha, ea⟩, ⟨b, hb2, eb⟩, _⟩ := ho k hk
  unfold fX7_betHolds
  rw [c0, Option.bind_some, c1, Option.bind_some, c2, Option.bind_some, ed, ea, eb, fX7_claimHolds_eq hd ha hb2 hq, Option.bind_some, pb_isB_ite, nI_clamp (by omega), nI_clamp (by omega), nI_clamp (by omega)]
theorem fX7_gainIn_eq {M : Int32} {bc : Nat → Int32} {nb n k q : Nat} (hn : 5 * nb ≤ n) (hb : n < 1000) (ho : pb_betsOK bc nb) (hk : k < nb) (hq : q < 128) : fX7_gainIn 5 M n (nI nb) bc (nI k) (nI q) = some (pb_gain bc q k) := by
  have c3 : fX6_cell 5 M n (nI nb) bc (nI k) 3 = some (bc (5 * k + 3)) := fX6_cell5 (c := 3) hk (by omega) hn hb
  have c4 : fX6_cell 5 M n (nI nb) bc (nI k) 4 = some (bc (5 * k + 4)) := fX6_cell5 (c := 4) hk (by omega) hn hb
  unfold fX7_gainIn pb_gain
  rw [c3, Option.bind_some, fX7_betHolds_eq hn hb ho hk hq, Option.bind_some, c4]
  cases pb_claim (bc (5 * k)).toNatClampNeg (bc (5 * k + 1)).toNatClampNeg (bc (5 * k + 2)).toNatClampNeg q <;> rfl
theorem fX7_bookIn_eq {M : Int32} {bc : Nat → Int32} {nb n q : Nat} (hn : 5 * nb ≤ n) (hb : n < 1000) (ho : pb_betsOK bc nb) (hq : q < 128) : fX7_bookIn 5 M n (nI nb) bc (nI q) = some (pb_book bc q nb) := by
  unfold fX7_bookIn
  rw [show ((0 : Int32), (0 : Int32)) = ((fun k => (pb_book bc q k, nI k)) 0 : Int32 × Int32) from rfl]
  rw [pb_lp_iter (fun k => (pb_book bc q k, nI k)) nb (pb_book bc q nb, nI nb) ?_ ?_ pb_FU (pb_FU_gt (by omega))]
  · rfl
  · intro k hk
    simp only [fX7_bookIn_L4]
    rw [if_neg (nI_ge hk (by omega)), fX7_gainIn_eq hn hb ho hk hq, Option.bind_some, nI_1]
    rfl
  · simp only [fX7_bookIn_L4]
    rw [if_pos (nI_le (Nat.le_refl _) (by omega))]
theorem pb_59 (k c : Nat) : ((59 : Int32) + 5 * nI k) + nI c = nI (59 + 5 * k + c) := by
  rw [show (5 : Int32) * nI k = nI (5 * k) from pk_mul 5 k, show (59 : Int32) + nI (5 * k) = nI (59 + 5 * k) from nI_add 59 _]
  exact nI_add _ _
theorem fX8_wins_eq {w bc : Nat → Int32} {nb k q : Nat} (h8 : nb ≤ 8) (ho : pb_betsOK bc nb) (he : pb_eqv w (0 + 59) bc (5 * nb)) (hk : k < nb) (hq : q < 128) : fX8_wins w (nI k) (nI q) = some (pb_bI (pb_claim (bc (5 * k)).toNatClampNeg (bc (5 * k + 1)).toNatClampNeg (bc (5 * k + 2)).toNatClampNeg q)) := by
  obtain ⟨⟨d, hd, ed⟩, ⟨a, ha, ea⟩, ⟨b, hb2, eb⟩, _⟩ := ho k hk
  have i0 : (59 : Int32) + 5 * nI k = nI (59 + 5 * k) := by
    rw [show (5 : Int32) * nI k = nI (5 * k) from pk_mul 5 k]
    exact nI_add 59 _
  have g0 : w (59 + 5 * k) = nI d := by rw [← ed]; have := he (5 * k) (by omega); rw [Nat.zero_add] at this; exact this
  have g1 : w (59 + 5 * k + 1) = nI a := by rw [← ea]; have := he (5 * k + 1) (by omega); rw [Nat.zero_add, ← Nat.add_assoc] at this; exact this
  have g2 : w (59 + 5 * k + 2) = nI b := by rw [← eb]; have := he (5 * k + 2) (by omega); rw [Nat.zero_add, ← Nat.add_assoc] at this; exact this
  unfold fX8_wins
  rw [i0, show nI (59 + 5 * k) + 1 = nI (59 + 5 * k + 1) from nI_1 _, show nI (59 + 5 * k) + 2 = nI (59 + 5 * k + 2) from nI_add _ 2, if_pos (pb_okT (by omega) (by omega)), if_pos (pb_okT (by omega) (by omega)), if_pos (pb_okT (by omega) (by omega)), nI_clamp (show 59 + 5 * k < 2 ^ 31 by omega), nI_clamp (show 59 + 5 * k + 1 < 2 ^ 31 by omega), nI_clamp (show 59 + 5 * k + 2 < 2 ^ 31 by omega), g0, g1, g2, fX8_isSo_eq hd ha hb2 hq, Option.bind_some, pb_isB_ite, ed, ea, eb, nI_clamp (by omega), nI_clamp (by omega), nI_clamp (by omega)]
theorem fX8_gain_eq {w bc : Nat → Int32} {nb k q : Nat} (h8 : nb ≤ 8) (ho : pb_betsOK bc nb) (he : pb_eqv w (0 + 59) bc (5 * nb)) (hk : k < nb) (hq : q < 128) : fX8_gain w (nI k) (nI q) = some (pb_gain bc q k) := by
  have i0 : (59 : Int32) + 5 * nI k = nI (59 + 5 * k) := by
    rw [show (5 : Int32) * nI k = nI (5 * k) from pk_mul 5 k]
    exact nI_add 59 _
  have g3 : w (59 + 5 * k + 3) = bc (5 * k + 3) := by have := he (5 * k + 3) (by omega); rw [Nat.zero_add, ← Nat.add_assoc] at this; exact this
  have g4 : w (59 + 5 * k + 4) = bc (5 * k + 4) := by have := he (5 * k + 4) (by omega); rw [Nat.zero_add, ← Nat.add_assoc] at this; exact this
  unfold fX8_gain pb_gain
  rw [i0, show nI (59 + 5 * k) + 3 = nI (59 + 5 * k + 3) from nI_add _ 3, show nI (59 + 5 * k) + 4 = nI (59 + 5 * k + 4) from nI_add _ 4, if_pos (pb_okT (by omega) (by omega)), nI_clamp (show 59 + 5 * k + 3 < 2 ^ 31 by omega), nI_clamp (show 59 + 5 * k + 4 < 2 ^ 31 by omega), g3, g4, Option.bind_some, fX8_wins_eq h8 ho he hk hq, Option.bind_some]
  have hok : pb_ok (nI (59 + 5 * k + 4)) 1508 = true := pb_okT (by omega) (by omega)
  rw [if_pos hok]
  cases pb_claim (bc (5 * k)).toNatClampNeg (bc (5 * k + 1)).toNatClampNeg (bc (5 * k + 2)).toNatClampNeg q <;> rfl
theorem fX8_bookOf_eq {w bc : Nat → Int32} {nb q : Nat} (w2 : w 2 = nI nb) (h8 : nb ≤ 8) (ho : pb_betsOK bc nb) (he : pb_eqv w (0 + 59) bc (5 * nb)) (hq : q < 128) : fX8_bookOf w (nI q) = some (pb_book bc q nb) := by
  unfold fX8_bookOf
  rw [show ((0 : Int32), (0 : Int32)) = ((fun k => (pb_book bc q k, nI k)) 0 : Int32 × Int32) from rfl]
  rw [pb_lp_iter (fun k => (pb_book bc q k, nI k)) nb (pb_book bc q nb, nI nb) ?_ ?_ pb_FU (pb_FU_gt (by omega))]
  · rfl
  · intro k hk
    simp only [fX8_bookOf_L4]
    rw [w2, if_neg (nI_ge hk (by omega)), fX8_gain_eq h8 ho he hk hq, Option.bind_some, nI_1]
    rfl
  · simp only [fX8_bookOf_L4]
    rw [w2, if_pos (nI_le (Nat.le_refl _) (by omega))]
