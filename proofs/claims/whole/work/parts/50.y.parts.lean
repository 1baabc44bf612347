/-! ===== fractions in least terms: put, tells ===== -/
theorem pb_oN_div {m n : Nat} (hm : m < 2 ^ 63) (hn : n < 2 ^ 63) : Int64.ofNat m / Int64.ofNat n = Int64.ofNat (m / n) := by
  have h1 : m / n ≤ m := Nat.div_le_self m n
  apply Int64.toInt_inj.mp
  rw [Int64.toInt_div, pb_oN_toInt hm, pb_oN_toInt hn, pb_oN_toInt (by omega)]
  rw [← Int.ofNat_tdiv]
  generalize m / n = q at h1 ⊢
  apply Int.bmod_eq_of_le
  · omega
  · omega
theorem pb_oN_mod {m n : Nat} (hm : m < 2 ^ 63) (hn : n < 2 ^ 63) : Int64.ofNat m - Int64.ofNat m / Int64.ofNat n * Int64.ofNat n = Int64.ofNat (m % n) := by
  rw [pb_oN_div hm hn, pb_oN_mul]
  have e : m = m % n + m / n * n := by rw [Nat.mul_comm]; exact (Nat.mod_add_div m n).symm
  have e2 : Int64.ofNat m = Int64.ofNat (m % n) + Int64.ofNat (m / n * n) := by rw [pb_oN_add, ← e]
  rw [e2, Int64.add_sub_cancel]
theorem pb_oN_eq0 {n : Nat} (h : n < 2 ^ 63) : Int64.ofNat n = 0 ↔ n = 0 := by
  constructor
  · intro e
    have := congrArg Int64.toInt e
    rw [pb_oN_toInt h, show Int64.toInt 0 = 0 from rfl] at this
    omega
  · intro e; rw [e]; rfl
theorem fX_gcd_sim {m n : Nat} (hm : m < 2 ^ 63) (hn : n < 2 ^ 63) (h0 : 0 < n) : ∃ g c d f, 0 < g ∧ g < 2 ^ 63 ∧ pb_lp (fun y => fX0_commonDivisor_L9 y.1 y.2.1 y.2.2) pb_FU (Int64.ofNat m, Int64.ofNat n, 0) = some (Int64.ofNat g, c, d) ∧ pb_lp (fun y => fX8_tells_L17 y.1 y.2) pb_FU (Int64.ofNat m, Int64.ofNat n) = some (Int64.ofNat g, f) := by
  obtain ⟨r, s, e1, e2, g, hg0, hg, hr, hs⟩ := pb_lp_sim (b1 := fun y => fX0_commonDivisor_L9 y.1 y.2.1 y.2.2) (b2 := fun y => fX8_tells_L17 y.1 y.2) (fun N x y => ∃ m n k, x = (Int64.ofNat m, Int64.ofNat n, nI k) ∧ y = (Int64.ofNat m, Int64.ofNat n) ∧ m < 2 ^ 63 ∧ n < 2 ^ 63 ∧ (0 < m ∨ 0 < n) ∧ ((k = 0 ∧ N = 200) ∨ (n ≤ m ∧ m * n < 2 ^ N ∧ k + N ≤ 130))) (fun r s => ∃ g, 0 < g ∧ g < 2 ^ 63 ∧ r.1 = Int64.ofNat g ∧ s.1 = Int64.ofNat g) (by
    rintro N x y ⟨m, n, k, rfl, rfl, hm, hn, hmn, hh⟩
    have hk : k ≤ 130 := by rcases hh with ⟨h, _⟩ | ⟨_, _, h⟩ <;> omega
    have hk1 : ¬ (1000 : Int32) ≤ nI k := nI_ge (b := 1000) (show k < 1000 by omega) (by decide)
    simp only [fX0_commonDivisor_L9, fX8_tells_L17]
    rw [if_neg hk1]
    by_cases hz : n = 0
    · subst hz
      rw [if_pos ((pb_oN_eq0 (by omega)).mpr rfl), if_pos ((pb_oN_eq0 (by omega)).mpr rfl)]
      exact Or.inr ⟨_, _, rfl, rfl, m, by omega, hm, rfl, rfl⟩
    · have hz' : ¬ Int64.ofNat n = 0 := fun e => hz ((pb_oN_eq0 hn).mp e)
      have hlt : m % n < n := Nat.mod_lt m (by omega)
      rw [if_neg hz', if_pos hz', if_neg hz', if_pos hz', pb_oN_mod hm hn, Option.bind_some, Option.bind_some, nI_1]
      left
      rcases hh with ⟨h1, h2⟩ | ⟨h1, h2, h3⟩
      · refine ⟨_, _, 126, by omega, rfl, rfl, n, m % n, k + 1, rfl, rfl, hn, by omega, Or.inl (by omega), Or.inr ⟨by omega, ?_, by omega⟩⟩
        exact Nat.lt_of_le_of_lt (Nat.mul_le_mul (Nat.le_of_lt_succ (show n < 2 ^ 63 - 1 + 1 by omega)) (Nat.le_of_lt_succ (show m % n < 2 ^ 63 - 1 + 1 by omega))) (by decide)
      · have hN : N ≠ 0 := by
          intro e
          subst e
          have : 1 * 1 ≤ m * n := Nat.mul_le_mul (by omega) (by omega)
          omega
        obtain ⟨M, rfl⟩ : ∃ M, N = M + 1 := ⟨N - 1, by omega⟩
        refine ⟨_, _, M, by omega, rfl, rfl, n, m % n, k + 1, rfl, rfl, hn, by omega, Or.inl (by omega), Or.inr ⟨by omega, ?_, by omega⟩⟩
        have hq : n * 1 ≤ n * (m / n) := Nat.mul_le_mul_left n (Nat.div_pos h1 (by omega))
        have hd := Nat.mod_add_div m n
        have h5 : n * (2 * (m % n)) ≤ n * m := Nat.mul_le_mul_left n (by omega)
        rw [Nat.mul_left_comm] at h5
        rw [Nat.pow_succ, Nat.mul_comm m n] at h2
        omega) pb_FU 200 (Int64.ofNat m, Int64.ofNat n, 0) (Int64.ofNat m, Int64.ofNat n) ⟨m, n, 0, rfl, rfl, hm, hn, Or.inr h0, Or.inl ⟨rfl, rfl⟩⟩ (pb_FU_gt (by omega))
  refine ⟨g, r.2.1, r.2.2, s.2, hg0, hg, ?_, ?_⟩
  · rw [e1, ← hr]
  · rw [e2, ← hs]
theorem fX_put_tells {m n : Nat} {p a b c d : Int64} (hm : m < 2 ^ 63) (hn : n < 2 ^ 63) (h0 : 0 < n) (hx : (if 0 < p then p else -p) = Int64.ofNat m) (hy : (if 0 ≤ p then p else -p) = Int64.ofNat m) : ∃ u v, fX0_put a b p (Int64.ofNat n) = some (u, v) ∧ fX8_tells c d p (Int64.ofNat n) = some (1, u, v) := by
  obtain ⟨g, c1, d1, f1, hg0, hg, e1, e2⟩ := fX_gcd_sim hm hn h0
  have hgz : ¬ Int64.ofNat g = 0 := fun e => absurd ((pb_oN_eq0 hg).mp e) (by omega)
  have h1 : ¬ Int64.ofNat n < 1 := by
    rw [Int64.not_lt, show (1 : Int64) = Int64.ofNat 1 from rfl, pb_oN_le (by omega) hn]; omega
  have h2 : (1 : Int64) ≤ Int64.ofNat g := by
    rw [show (1 : Int64) = Int64.ofNat 1 from rfl, pb_oN_le (by omega) hg]; omega
  refine ⟨p / Int64.ofNat g, Int64.ofNat n / Int64.ofNat g, ?_, ?_⟩
  · unfold fX0_put fX0_commonDivisor
    rw [hx, Option.bind_some, e1, Option.bind_some]
    unfold fX0_commonDivisor_E9
    rw [Option.bind_some, if_neg h1, if_pos h2, if_pos hgz, Option.bind_some, if_pos hgz, Option.bind_some]
  · unfold fX8_tells
    have e3 : (if 0 ≤ p then some p else some (-p) : Option Int64) = some (Int64.ofNat m) := by rw [← hy]; split <;> rfl
    rw [e3, Option.bind_some]
    unfold fX8_tells_J12
    rw [e2, Option.bind_some]
    unfold fX8_tells_E17
    rw [if_pos hgz, Option.bind_some, if_pos hgz, Option.bind_some]
theorem pb_oN_abs {m : Nat} (hm : m < 2 ^ 63) : (if 0 < Int64.ofNat m then Int64.ofNat m else -Int64.ofNat m) = Int64.ofNat m ∧ (if 0 ≤ Int64.ofNat m then Int64.ofNat m else -Int64.ofNat m) = Int64.ofNat m := by
  have h1 : (0 : Int64) ≤ Int64.ofNat m := by rw [show (0 : Int64) = Int64.ofNat 0 from rfl, pb_oN_le (by omega) hm]; omega
  refine ⟨?_, if_pos h1⟩
  by_cases h0 : m = 0
  · subst h0; decide
  · rw [if_pos]
    rw [← Int64.not_le, pb_nn_0 rfl hm]
    exact h0
/-- what the pasts weigh where a claim is so -/
def pb_held (V : Nat → Int64) (k a b q : Nat) : Int64 := if pb_claim k a b q = true then V q else 0
theorem fX8_weightOf_eq {W V : Nat → Int64} {k a b : Nat} (hk : k < 6) (ha : a < 7) (hb : b < 7) (hV : ∀ q, q < 128 → W q = V q) : fX8_weightOf W (nI k) (nI a) (nI b) = some (pb_sum (pb_held V k a b) 128) := by
  unfold fX8_weightOf
  rw [show ((0 : Int64), (0 : Int32)) = ((fun q => (pb_sum (pb_held V k a b) q, nI q)) 0 : Int64 × Int32) from rfl]
  rw [pb_lp_iter (fun q => (pb_sum (pb_held V k a b) q, nI q)) 128 (pb_sum (pb_held V k a b) 128, nI 128) ?_ ?_ pb_FU (pb_FU_gt (by omega))]
  · rfl
  · intro q hq
    have h0 : ¬ (128 : Int32) ≤ nI q := nI_ge (b := 128) hq (by decide)
    simp only [fX8_weightOf_L6, pb_sum]
    rw [if_neg h0, fX8_isSo_eq hk ha hb hq, Option.bind_some, if_pos (pb_okT (by omega) (by omega)), nI_clamp (by omega), hV q hq, nI_1]
    unfold pb_held
    cases pb_claim k a b q <;> rfl
  · simp only [fX8_weightOf_L6]
    rw [if_pos (show (128 : Int32) ≤ nI 128 from nI_le (Nat.le_refl 128) (by omega))]
theorem pb_nn_le0 {x : Int64} {B : Nat} (h : pb_nn x B) (hB : B < 2 ^ 63) (h0 : x ≤ 0) : x = 0 := by
  obtain ⟨n, hn, e⟩ := h
  have := (pb_nn_0 e (by omega)).mp h0
  rw [e, this]
  rfl
theorem fX2_held_eq {W V : Nat → Int64} {k a b : Nat} (hk : k < 6) (ha : a < 7) (hb : b < 7) (hV : ∀ q, q < 128 → W q = V q) (hN : ∀ q, pb_nn (V q) (10 ^ 10)) : fX2_held W (nI k) (nI a) (nI b) = some (pb_sum (pb_held V k a b) 128) := by
  unfold fX2_held
  rw [show ((0 : Int64), (0 : Int32)) = ((fun q => (pb_sum (pb_held V k a b) q, nI q)) 0 : Int64 × Int32) from rfl]
  rw [pb_lp_iter (fun q => (pb_sum (pb_held V k a b) q, nI q)) 128 (pb_sum (pb_held V k a b) 128, nI 128) ?_ ?_ pb_FU (pb_FU_gt (by omega))]
  · rfl
  · intro q hq
    have h0 : ¬ (128 : Int32) ≤ nI q := nI_ge (b := 128) hq (by decide)
    have hok : pb_ok (nI q) 128 = true := pb_okT (by omega) (by omega)
    simp only [fX2_held_L6, pb_sum]
    rw [if_neg h0, if_pos hok, if_pos hok, nI_clamp (by omega), hV q hq, nI_1]
    unfold pb_held
    by_cases hw : V q ≤ 0
    · rw [if_pos hw, pb_nn_le0 (hN q) (by omega) hw, show (if pb_claim k a b q = true then (0 : Int64) else 0) = 0 by split <;> rfl, Int64.add_zero]
    · rw [if_neg hw, fX7_claimHolds_eq hk ha hb hq, Option.bind_some]
      cases pb_claim k a b q
      · rw [pb_bI_f, if_pos rfl, if_neg (show ¬ false = true by decide), Int64.add_zero]
      · rfl
  · simp only [fX2_held_L6]
    rw [if_pos (show (128 : Int32) ≤ nI 128 from nI_le (Nat.le_refl 128) (by omega))]
theorem pb_held_nn {V : Nat → Int64} {k a b B : Nat} (hN : ∀ q, pb_nn (V q) B) (q : Nat) : pb_nn (pb_held V k a b q) B := by
  unfold pb_held
  split
  · exact hN q
  · exact ⟨0, by omega, rfl⟩
