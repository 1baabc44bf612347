/-! ===== sure: the two searches side by side ===== -/
theorem pb_fl_ok (u : Int32) : 1 ≤ (if 1 < u then u else 1 : Int32).toInt ∧ u.toInt ≤ (if 1 < u then u else 1 : Int32).toInt ∧ ((if 1 < u then u else 1 : Int32).toInt = u.toInt ∨ (if 1 < u then u else 1 : Int32).toInt = 1) := by
  by_cases h : (1 : Int32) < u
  · rw [if_pos h]
    have := Int32.lt_iff_toInt_lt.mp h
    rw [show Int32.toInt 1 = 1 by decide] at this
    omega
  · rw [if_neg h]
    have := Int32.le_iff_toInt_le.mp (Int32.not_lt.mp h)
    rw [show Int32.toInt 1 = 1 by decide] at this ⊢
    omega
theorem pb_sets : ∀ nb : Fin 9, (if (1 <<< (nI nb.val &&& 31)) < 256 then (1 <<< (nI nb.val &&& 31)) else 256 : Int32) = nI (2 ^ nb.val) := by decide
theorem fX_sure_one {w bc P Q H : Nat → Int32} {W2 V : Nat → Int64} {t : Int64} {x0 : Int32} {nb c S : Nat} (fl : Int32) (w2 : w 2 = nI nb) (h8 : nb ≤ 8) (ho : pb_betsOK bc nb) (he : pb_eqv w (0 + 59) bc (5 * nb)) (hV2 : ∀ q, q < 128 → W2 q = V q) (hc : c ≤ 128) (hc0 : 0 < c) (hH : pb_HS V bc nb c H 128) (hPQ : ∀ T, T < 2 ^ nb → P T = pb_bs (pb_pay bc) T nb ∧ Q T = pb_bs (pb_stk bc) T nb) (hS : S < 2 ^ nb) : ∃ r m d, fX1_leastWin (nI c) H P Q (nI S) fl = some r ∧ pb_lp (fun y => fX8_sure_L53 w (nI S) (x0, t, W2) y.1 y.2) pb_FU (100000000, 0) = some (m, d) ∧ ((r = 0 ∧ m.toInt < fl.toInt) ∨ (r = m ∧ fl.toInt ≤ m.toInt)) := by
  have hN : 2 ^ nb ≤ 256 := Nat.pow_le_pow_right (n := 2) (by omega) h8
  obtain ⟨q0, hq0, hv0, _⟩ := hH.1 0 hc0
  have hcl : ∀ q, (nI (pb_mk (pb_hb bc q) nb)).toNatClampNeg = pb_mk (pb_hb bc q) nb := fun q => nI_clamp (Nat.lt_trans (pb_hs_lt bc q h8) (by decide))
  have hHn : ∀ j, j < c → H j = nI ((H j).toNatClampNeg) := by
    intro j hj
    obtain ⟨q, _, _, e⟩ := hH.1 j hj
    rw [e, hcl q]
  have hwin : ∀ q, pb_win P Q S (pb_mk (pb_hb bc q) nb) = pb_bs (pb_gain bc q) S nb := by
    intro q
    have h1 : pb_mk (pb_hb bc q) nb &&& S ≤ S := Nat.and_le_right
    unfold pb_win
    rw [(hPQ _ (Nat.lt_of_le_of_lt h1 hS)).1, (hPQ _ (Nat.lt_of_le_of_lt (Nat.sub_le _ _) hS)).2]
    exact (pb_bs_gain nb (Nat.le_refl _)).symm
  have hB : ∀ j, j < c → (pb_win P Q S ((H j).toNatClampNeg)).toInt ≤ 78409 := by
    intro j hj
    obtain ⟨q, _, _, e⟩ := hH.1 j hj
    rw [e, hcl q, hwin q]
    obtain ⟨_, z2⟩ := pb_bs_z3 (q := q) (S := S) nb (Nat.le_refl _) h8 ho
    generalize (pb_bs (pb_gain bc q) S nb).toInt = z at z2 ⊢
    omega
  obtain ⟨r, e1, h1⟩ := fX1_leastWin_eq (P := P) (Q := Q) (S := S) (fl := fl) (fun j => (H j).toNatClampNeg) hHn hc0 hc (by omega) hB
  obtain ⟨m, d, e2, ⟨q1, hq1, hv1, em⟩, h2⟩ := fX8_sure_least (x0 := x0) (t := t) w2 h8 ho he (show S < 256 by omega) hV2 ⟨q0, hq0, hv0⟩
  refine ⟨r, m, d, e1, e2, ?_⟩
  rcases h1 with ⟨hr, j, hj, hw⟩ | ⟨hall, ⟨j, hj, hr⟩, hle⟩
  · left
    refine ⟨hr, ?_⟩
    obtain ⟨q, hq, hv, e⟩ := hH.1 j hj
    have hw : pb_win P Q S ((H j).toNatClampNeg) < fl := hw
    rw [e, hcl q, hwin q] at hw
    have h3 := Int32.le_iff_toInt_le.mp (h2 q hq hv)
    have h4 := Int32.lt_iff_toInt_lt.mp hw
    exact Int.lt_of_le_of_lt h3 h4
  · right
    obtain ⟨q, hq, hv, e⟩ := hH.1 j hj
    have hr : r = pb_win P Q S ((H j).toNatClampNeg) := hr
    rw [e, hcl q, hwin q] at hr
    obtain ⟨j1, hj1, ej1⟩ := hH.2 q1 hq1 hv1
    have h3 : r ≤ pb_win P Q S ((H j1).toNatClampNeg) := hle j1 hj1
    have h5 : fl ≤ pb_win P Q S ((H j1).toNatClampNeg) := hall j1 hj1
    rw [ej1, hcl q1, hwin q1, ← em] at h3 h5
    have h4 : m ≤ r := by rw [hr]; exact h2 q hq hv
    exact ⟨Int32.le_antisymm h3 h4, Int32.le_iff_toInt_le.mp h5⟩
theorem fX_sure_sim {w bc P Q H S' : Nat → Int32} {W2 V : Nat → Int64} {t : Int64} {x0 : Int32} {nb c : Nat} (hx0 : ¬ x0 = 0) (w2 : w 2 = nI nb) (h8 : nb ≤ 8) (ho : pb_betsOK bc nb) (he : pb_eqv w (0 + 59) bc (5 * nb)) (hV2 : ∀ q, q < 128 → W2 q = V q) (hc : c ≤ 128) (hc0 : 0 < c) (hH : pb_HS V bc nb c H 128) (hPQ : ∀ T, T < 2 ^ nb → P T = pb_bs (pb_pay bc) T nb ∧ Q T = pb_bs (pb_stk bc) T nb) : ∃ b u d e, pb_lp (fun y => fX1_seekSure_L45 (nI c, S', H) (P, Q) (nI (2 ^ nb)) y.1 y.2.1 y.2.2) pb_FU (1, 0, 0) = some (d, b, u) ∧ pb_lp (fun y => fX8_sure_L28 w (x0, t, W2) y.1 y.2.1 y.2.2) pb_FU (0, 0, 1) = some (b, u, e) := by
  have hN : 2 ^ nb ≤ 256 := Nat.pow_le_pow_right (n := 2) (by omega) h8
  have hN0 : 0 < 2 ^ nb := Nat.two_pow_pos nb
  obtain ⟨r, s, e1, e2, hQ⟩ := pb_lp_sim (b1 := fun y => fX1_seekSure_L45 (nI c, S', H) (P, Q) (nI (2 ^ nb)) y.1 y.2.1 y.2.2) (b2 := fun y => fX8_sure_L28 w (x0, t, W2) y.1 y.2.1 y.2.2) (fun n x y => ∃ k b u, k + n = 2 ^ nb ∧ x = (nI k, nI b, u) ∧ y = (nI b, u, nI k) ∧ b < 256 ∧ ((b = 0 ∧ u = 0) ∨ 0 < u)) (fun r s => ∃ b u d e, r = (d, b, u) ∧ s = (b, u, e)) (by
    rintro n x y ⟨k, b, u, hk, rfl, rfl, hb, hbu⟩
    simp only [fX1_seekSure_L45, fX8_sure_L28]
    rw [w2, pb_shlB ⟨nb, by omega⟩]
    by_cases hn : n = 0
    · have hkk : k = 2 ^ nb := by omega
      have hle : nI (2 ^ nb) ≤ nI k := by rw [hkk]; exact Int32.le_refl _
      rw [if_pos hle, if_pos hle]
      exact Or.inr ⟨_, _, rfl, rfl, _, _, _, _, rfl, rfl⟩
    · have hlt : k < 2 ^ nb := by omega
      have hng : ¬ nI (2 ^ nb) ≤ nI k := nI_ge hlt (by omega)
      obtain ⟨r, m, d, f1, f2, f3⟩ := fX_sure_one (x0 := x0) (t := t) (if 1 < u then u else 1) w2 h8 ho he hV2 hc hc0 hH hPQ hlt
      have c1 := pb_bcn_le k 10
      have c2 := pb_bcn_le b 10
      obtain ⟨g1, g2, g3⟩ := pb_fl_ok u
      rw [if_neg hng, if_neg hng, if_neg hx0, Option.bind_some, f1, Option.bind_some, f2, Option.bind_some, pb_bitC k (by omega), Option.bind_some, pb_bitC b (by omega), Option.bind_some]
      generalize (if 1 < u then u else 1 : Int32).toInt = fl at f3 g1 g2 g3
      have hu0 : 0 ≤ u.toInt := by
        rcases hbu with ⟨_, h⟩ | h
        · rw [h]; decide
        · have := Int32.lt_iff_toInt_lt.mp h
          rw [show Int32.toInt 0 = 0 by decide] at this
          omega
      have hu : ¬ u < 0 := by
        rw [Int32.lt_iff_toInt_lt, show Int32.toInt 0 = 0 by decide]
        omega
      left
      unfold fX8_sure_E53
      rw [fX8_ones_eq (show k < 1024 by omega), fX8_ones_eq (show b < 1024 by omega), Option.bind_some, Option.bind_some]
      have hkeep : ∃ x' y' m', m' < n ∧ (some (Sum.inl (nI (k + 1), nI b, u)) : Option ((Int32 × Int32 × Int32) ⊕ (Int32 × Int32 × Int32))) = some (Sum.inl x') ∧ (some (Sum.inl (nI b, u, nI (k + 1))) : Option ((Int32 × Int32 × Int32) ⊕ (Int32 × Int32 × Int32))) = some (Sum.inl y') ∧ ∃ k b u, k + m' = 2 ^ nb ∧ x' = (nI k, nI b, u) ∧ y' = (nI b, u, nI k) ∧ b < 256 ∧ ((b = 0 ∧ u = 0) ∨ 0 < u) := ⟨_, _, n - 1, by omega, rfl, rfl, k + 1, b, u, by omega, rfl, rfl, hb, hbu⟩
      rcases f3 with ⟨hr, hm⟩ | ⟨hr, hm⟩
      · have hum : ¬ u < m := by
          rw [Int32.lt_iff_toInt_lt]
          omega
        have k1 : Option.bind (if nI (pb_bcn b 10) ≤ nI (pb_bcn k 10) then some 0 else some 1 : Option Int32) (fun y => fX1_seekSure_J87 (nI k) (nI b) u r y) = some (Sum.inl (nI (k + 1), nI b, u)) := by
          subst hr
          by_cases h0 : (0 : Int32) = u
          · have hb0 : b = 0 := by
              rcases hbu with ⟨h, _⟩ | h
              · exact h
              · rw [← h0] at h; exact absurd h (by decide)
            subst hb0
            rw [if_pos (show nI (pb_bcn 0 10) ≤ nI (pb_bcn k 10) from nI_le (show 0 ≤ pb_bcn k 10 from Nat.zero_le _) (by omega)), Option.bind_some]
            unfold fX1_seekSure_J87
            rw [if_neg hu, if_pos h0, if_pos rfl, nI_1]
          · have : ∀ y, fX1_seekSure_J87 (nI k) (nI b) u 0 y = some (Sum.inl (nI (k + 1), nI b, u)) := by
              intro y
              unfold fX1_seekSure_J87
              rw [if_neg hu, if_neg h0, nI_1]
            split
            · exact this 0
            · exact this 1
        have k2 : (if u < m then some 1 else if m = u then if u ≤ 0 then some 0 else if nI (pb_bcn b 10) ≤ nI (pb_bcn k 10) then some 0 else some 1 else some 0 : Option Int32) = some 0 := by
          rw [if_neg hum]
          by_cases hmu : m = u
          · have : u ≤ 0 := by
              subst hmu
              rw [Int32.le_iff_toInt_le, show Int32.toInt 0 = 0 by decide]
              omega
            rw [if_pos hmu, if_pos this]
          · rw [if_neg hmu]
        rw [k1, k2, Option.bind_some]
        unfold fX8_sure_J178
        rw [if_pos rfl, Option.bind_some]
        unfold fX8_sure_J191
        rw [if_pos rfl, nI_1]
        exact hkeep
      · subst hr
        have hr0 : (0 : Int32) < r := by
          rw [Int32.lt_iff_toInt_lt, show Int32.toInt 0 = 0 by decide]
          omega
        have htake : ∃ x' y' m', m' < n ∧ (some (Sum.inl (nI (k + 1), nI k, r)) : Option ((Int32 × Int32 × Int32) ⊕ (Int32 × Int32 × Int32))) = some (Sum.inl x') ∧ (some (Sum.inl (nI k, r, nI (k + 1))) : Option ((Int32 × Int32 × Int32) ⊕ (Int32 × Int32 × Int32))) = some (Sum.inl y') ∧ ∃ k b u, k + m' = 2 ^ nb ∧ x' = (nI k, nI b, u) ∧ y' = (nI b, u, nI k) ∧ b < 256 ∧ ((b = 0 ∧ u = 0) ∨ 0 < u) := ⟨_, _, n - 1, by omega, rfl, rfl, k + 1, k, r, by omega, rfl, rfl, by omega, Or.inr hr0⟩
        have j1 : ∀ y : Int32, ¬ y = 0 → fX8_sure_J178 r (nI b) u (nI k) y = some (Sum.inl (nI k, r, nI (k + 1))) := by
          intro y hy
          unfold fX8_sure_J178
          rw [if_neg hy, Option.bind_some]
          unfold fX8_sure_J191
          rw [if_neg hy, nI_1]
        have j0 : fX8_sure_J178 r (nI b) u (nI k) 0 = some (Sum.inl (nI b, u, nI (k + 1))) := by
          unfold fX8_sure_J178
          rw [if_pos rfl, Option.bind_some]
          unfold fX8_sure_J191
          rw [if_pos rfl, nI_1]
        by_cases hum : u < r
        · have k1 : Option.bind (if nI (pb_bcn b 10) ≤ nI (pb_bcn k 10) then some 0 else some 1 : Option Int32) (fun y => fX1_seekSure_J87 (nI k) (nI b) u r y) = some (Sum.inl (nI (k + 1), nI k, r)) := by
            have : ∀ y, fX1_seekSure_J87 (nI k) (nI b) u r y = some (Sum.inl (nI (k + 1), nI k, r)) := by
              intro y
              unfold fX1_seekSure_J87
              rw [if_pos hum, nI_1]
            split
            · exact this 0
            · exact this 1
          rw [k1, if_pos hum, Option.bind_some, j1 1 pb_ne10]
          exact htake
        · have hru : r = u := by
            apply Int32.toInt_inj.mp
            rw [Int32.lt_iff_toInt_lt] at hum
            omega
          have hun : ¬ u ≤ 0 := by
            rw [← hru]
            exact Int32.not_le.mpr hr0
          rw [if_neg hum, if_pos hru, if_neg hun]
          by_cases hcmp : nI (pb_bcn b 10) ≤ nI (pb_bcn k 10)
          · rw [if_pos hcmp, Option.bind_some, Option.bind_some, j0]
            unfold fX1_seekSure_J87
            rw [if_neg hum, if_pos hru, if_pos rfl, nI_1]
            exact hkeep
          · rw [if_neg hcmp, Option.bind_some, Option.bind_some, j1 1 pb_ne10]
            unfold fX1_seekSure_J87
            rw [if_neg hum, if_pos hru, if_neg pb_ne10, nI_1]
            exact htake) pb_FU (2 ^ nb - 1) (1, 0, 0) (0, 0, 1) ⟨1, 0, 0, by omega, rfl, rfl, by omega, Or.inl ⟨rfl, rfl⟩⟩ (pb_FU_gt (by omega))
  obtain ⟨b, u, d, e, rfl, rfl⟩ := hQ
  exact ⟨b, u, d, e, e1, e2⟩
theorem fX8_sure_none {w : Nat → Int32} {W2 : Nat → Int64} {t : Int64} {x0 : Int32} (hx0 : x0 = 0) : pb_lp (fun y => fX8_sure_L28 w (x0, t, W2) y.1 y.2.1 y.2.2) pb_FU (0, 0, 1) = some (0, 0, 1) := by
  exact pb_lp_iter (body := fun y => fX8_sure_L28 w (x0, t, W2) y.1 y.2.1 y.2.2) (fun _ => ((0 : Int32), (0 : Int32), (1 : Int32))) 0 (0, 0, 1) (fun k hk => absurd hk (by omega)) (by
    simp only [fX8_sure_L28]
    rw [if_pos hx0]
    split <;> rfl) pb_FU (pb_FU_gt (by omega))
