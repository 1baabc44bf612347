/-! ===== the mean of the book ===== -/
/-- from -B to B -/
def pb_zz (x : Int64) (B : Nat) : Prop := -(B : Int) ≤ x.toInt ∧ x.toInt ≤ B
theorem pb_bm {z : Int} {B : Nat} (h1 : -(B : Int) ≤ z) (h2 : z ≤ B) (hB : B < 2 ^ 63) : z.bmod (2 ^ 64) = z := by
  apply Int.bmod_eq_of_le
  · omega
  · omega
theorem pb_zz_add {x y : Int64} {A B : Nat} (hx : pb_zz x A) (hy : pb_zz y B) (h : A + B < 2 ^ 63) : pb_zz (x + y) (A + B) := by
  obtain ⟨a1, a2⟩ := hx
  obtain ⟨b1, b2⟩ := hy
  have e : (x + y).toInt = x.toInt + y.toInt := by
    rw [Int64.toInt_add]
    exact pb_bm (B := A + B) (by omega) (by omega) h
  unfold pb_zz
  rw [e]
  omega
theorem pb_zz_sum {g : Nat → Int64} {n B : Nat} (h : ∀ k, k < n → pb_zz (g k) B) (hB : n * B < 2 ^ 63) : pb_zz (pb_sum g n) (n * B) := by
  induction n with
  | zero => exact ⟨by simp [pb_sum], by simp [pb_sum]⟩
  | succ n ih =>
    rw [Nat.succ_mul] at hB ⊢
    exact pb_zz_add (ih (fun k hk => h k (by omega)) (by omega)) (h n (by omega)) hB
theorem pb_zz_abs {x : Int64} {B : Nat} (h : pb_zz x B) (hB : B < 2 ^ 63) : ∃ m, m ≤ B ∧ (if 0 < x then x else -x) = Int64.ofNat m ∧ (if 0 ≤ x then x else -x) = Int64.ofNat m := by
  obtain ⟨h1, h2⟩ := h
  refine ⟨x.toInt.natAbs, by omega, ?_, ?_⟩
  · by_cases h0 : 0 < x
    · have h3 := Int64.lt_iff_toInt_lt.mp h0
      rw [show Int64.toInt 0 = 0 from rfl] at h3
      rw [if_pos h0]
      apply Int64.toInt_inj.mp
      rw [pb_oN_toInt (by omega)]
      omega
    · have h3 : x.toInt ≤ 0 := by
        have := Int64.le_iff_toInt_le.mp (Int64.not_lt.mp h0)
        exact this
      rw [if_neg h0]
      apply Int64.toInt_inj.mp
      rw [pb_oN_toInt (by omega), Int64.toInt_neg, pb_bm (B := B) (by omega) (by omega) hB]
      omega
  · by_cases h0 : 0 ≤ x
    · have h3 := Int64.le_iff_toInt_le.mp h0
      rw [show Int64.toInt 0 = 0 from rfl] at h3
      rw [if_pos h0]
      apply Int64.toInt_inj.mp
      rw [pb_oN_toInt (by omega)]
      omega
    · have h3 : x.toInt < 0 := by
        have := Int64.lt_iff_toInt_lt.mp (Int64.not_le.mp h0)
        exact this
      rw [if_neg h0]
      apply Int64.toInt_inj.mp
      rw [pb_oN_toInt (by omega), Int64.toInt_neg, pb_bm (B := B) (by omega) (by omega) hB]
      omega
def pb_wb (V : Nat → Int64) (bc : Nat → Int32) (nb q : Nat) : Int64 := V q * (pb_book bc q nb).toInt64
theorem fX1_weighedBook_eq {W V : Nat → Int64} {bc : Nat → Int32} {nb : Nat} (h8 : nb ≤ 8) (ho : pb_betsOK bc nb) (hV : ∀ q, q < 128 → W q = V q) (hN : ∀ q, pb_nn (V q) (10 ^ 10)) : fX1_weighedBook 5 8 40 (nI nb) bc W = some (pb_sum (pb_wb V bc nb) 128) := by
  unfold fX1_weighedBook
  rw [show ((0 : Int64), (0 : Int32)) = ((fun q => (pb_sum (pb_wb V bc nb) q, nI q)) 0 : Int64 × Int32) from rfl]
  rw [pb_lp_iter (fun q => (pb_sum (pb_wb V bc nb) q, nI q)) 128 (pb_sum (pb_wb V bc nb) 128, nI 128) ?_ ?_ pb_FU (pb_FU_gt (by omega))]
  · rfl
  · intro q hq
    have h0 : ¬ (128 : Int32) ≤ nI q := nI_ge (b := 128) hq (by decide)
    have hok : pb_ok (nI q) 128 = true := pb_okT (by omega) (by omega)
    have eb : fX7_bookIn 5 8 40 (nI nb) bc (nI q) = some (pb_book bc q nb) := fX7_bookIn_eq (by omega) (by omega) ho (by omega)
    simp only [fX1_weighedBook_L5, pb_sum]
    rw [if_neg h0, if_pos hok, if_pos hok, nI_clamp (by omega), hV q hq, nI_1, eb, Option.bind_some, Option.bind_some]
    unfold pb_wb
    by_cases hw : V q ≤ 0
    · rw [if_pos hw, pb_nn_le0 (hN q) (by omega) hw, Int64.zero_mul, Int64.add_zero]
    · rw [if_neg hw]
  · simp only [fX1_weighedBook_L5]
    rw [if_pos (show (128 : Int32) ≤ nI 128 from nI_le (Nat.le_refl 128) (by omega))]
theorem fX8_mean_loop {W V : Nat → Int64} {t : Int64} {x : Int32} {w bc : Nat → Int32} {nb : Nat} (w2 : w 2 = nI nb) (h8 : nb ≤ 8) (ho : pb_betsOK bc nb) (he : pb_eqv w (0 + 59) bc (5 * nb)) (hV : ∀ q, q < 128 → W q = V q) : pb_lp (fun y => fX8_mean_L16 w (x, t, W) y.1 y.2) pb_FU (0, 0) = some (pb_sum (pb_wb V bc nb) 128, nI 128) := by
  rw [show ((0 : Int64), (0 : Int32)) = ((fun q => (pb_sum (pb_wb V bc nb) q, nI q)) 0 : Int64 × Int32) from rfl]
  rw [pb_lp_iter (fun q => (pb_sum (pb_wb V bc nb) q, nI q)) 128 (pb_sum (pb_wb V bc nb) 128, nI 128) ?_ ?_ pb_FU (pb_FU_gt (by omega))]
  · intro q hq
    have h0 : ¬ (128 : Int32) ≤ nI q := nI_ge (b := 128) hq (by decide)
    simp only [fX8_mean_L16, pb_sum]
    rw [if_neg h0, if_pos (pb_okT (by omega) (by omega)), nI_clamp (by omega), hV q hq, fX8_bookOf_eq w2 h8 ho he hq, Option.bind_some, Option.bind_some, nI_1]
    rfl
  · simp only [fX8_mean_L16]
    rw [if_pos (show (128 : Int32) ≤ nI 128 from nI_le (Nat.le_refl 128) (by omega))]
def pb_z3 (x : Int32) (B : Nat) : Prop := -(B : Int) ≤ x.toInt ∧ x.toInt ≤ B
theorem pb_bm3 {z : Int} {B : Nat} (h1 : -(B : Int) ≤ z) (h2 : z ≤ B) (hB : B < 2 ^ 31) : z.bmod (2 ^ 32) = z := by
  apply Int.bmod_eq_of_le
  · omega
  · omega
theorem pb_nI_toInt {n : Nat} (h : n < 2 ^ 31) : (nI n).toInt = (n : Int) := Int32.toInt_ofNat_of_lt h
theorem pb_gain_z3 {bc : Nat → Int32} {nb q k : Nat} (ho : pb_betsOK bc nb) (hk : k < nb) : pb_z3 (pb_gain bc q k) 9801 := by
  obtain ⟨_, _, _, ⟨s, hs1, hs2, es⟩, ⟨o, ho2, eo⟩⟩ := ho k hk
  unfold pb_gain
  rw [es, eo]
  by_cases h : pb_claim (bc (5 * k)).toNatClampNeg (bc (5 * k + 1)).toNatClampNeg (bc (5 * k + 2)).toNatClampNeg q = true
  · have hm : s * o ≤ 99 * 99 := Nat.mul_le_mul hs2 (by omega)
    rw [if_pos h, pk_mul s o]
    unfold pb_z3
    rw [pb_nI_toInt (by omega)]
    generalize s * o = z at hm ⊢
    omega
  · rw [if_neg h]
    unfold pb_z3
    rw [Int32.toInt_neg, pb_nI_toInt (by omega), pb_bm3 (B := 99) (by omega) (by omega) (by omega)]
    omega
theorem pb_book_z3 {bc : Nat → Int32} {nb q : Nat} (n : Nat) (hn : n ≤ nb) (h8 : nb ≤ 8) (ho : pb_betsOK bc nb) : pb_z3 (pb_book bc q n) (n * 9801) := by
  induction n with
  | zero => exact ⟨by simp [pb_book], by simp [pb_book]⟩
  | succ n ih =>
    obtain ⟨a1, a2⟩ := ih (by omega)
    obtain ⟨b1, b2⟩ := pb_gain_z3 (q := q) ho (show n < nb by omega)
    have e : (pb_book bc q (n + 1)).toInt = (pb_book bc q n).toInt - (pb_gain bc q n).toInt := by
      rw [pb_book, Int32.toInt_sub]
      clear ih
      generalize (pb_book bc q n).toInt = x at a1 a2 ⊢
      generalize (pb_gain bc q n).toInt = y at b1 b2 ⊢
      exact pb_bm3 (B := 100000) (by omega) (by omega) (by decide)
    unfold pb_z3
    rw [e]
    clear e ih
    generalize (pb_book bc q n).toInt = x at a1 a2 ⊢
    generalize (pb_gain bc q n).toInt = y at b1 b2 ⊢
    omega
theorem pb_wb_zz {V : Nat → Int64} {bc : Nat → Int32} {nb q : Nat} (h8 : nb ≤ 8) (ho : pb_betsOK bc nb) (hN : pb_nn (V q) (10 ^ 10)) : pb_zz (pb_wb V bc nb q) 784080000000000 := by
  obtain ⟨n, hn, e⟩ := hN
  obtain ⟨b1, b2⟩ := pb_book_z3 (q := q) nb (Nat.le_refl _) h8 ho
  have c1 : -(78408 : Int) ≤ (pb_book bc q nb).toInt := by omega
  have c2 : (pb_book bc q nb).toInt ≤ 78408 := by omega
  have hn' : (n : Int) ≤ 10 ^ 10 := by omega
  have d1 : (n : Int) * (pb_book bc q nb).toInt ≤ n * 78408 := Int.mul_le_mul_of_nonneg_left c2 (by omega)
  have d2 : (n : Int) * (-78408) ≤ n * (pb_book bc q nb).toInt := Int.mul_le_mul_of_nonneg_left c1 (by omega)
  have e1 : (pb_wb V bc nb q).toInt = (n : Int) * (pb_book bc q nb).toInt := by
    unfold pb_wb
    rw [e, Int64.toInt_mul, pb_oN_toInt (by omega), Int32.toInt_toInt64]
    clear b1 b2 c1 c2 e
    generalize (n : Int) * (pb_book bc q nb).toInt = x at d1 d2 ⊢
    exact pb_bm (B := 784080000000000) (by omega) (by omega) (by decide)
  unfold pb_zz
  rw [e1]
  clear e1 b1 b2 c1 c2 e
  generalize (n : Int) * (pb_book bc q nb).toInt = x at d1 d2 ⊢
  omega
