/-! ===== what punters must have been told ===== -/
def pb_lf (n q : Nat) : Bool := if n = 14 then true else q.testBit (n / 2) == decide (n % 2 = 1)
def pb_U (V : Nat → Int64) (n q : Nat) : Int64 := if pb_lf n q = true then V q else 0
def pb_ng (pc : Nat → Int32) (T : Int64) (H : Nat → Int64) (k : Nat) : Bool := decide (H k * (pc (5 * k + 3)).toInt64 ≤ T - H k) == decide (pc (5 * k + 4) = 1)
def pb_kn (n : Nat) : Int32 := if n = 14 then 0 else nI (2 ^ (n / 2))
def pb_tr (n : Nat) : Int32 := if n % 2 = 1 then pb_kn n else 0
def pb_Hd (U : Nat → Int64) (pc : Nat → Int32) (k : Nat) : Int64 := pb_sum (pb_held U (pc (5 * k)).toNatClampNeg (pc (5 * k + 1)).toNatClampNeg (pc (5 * k + 2)).toNatClampNeg) 128
theorem pb_lf_bits : ∀ n : Fin 15, ∀ q : Fin 128, decide (((nI q.val ^^^ pb_tr n.val) &&& pb_kn n.val) = 0) = pb_lf n.val q.val := by decide +kernel
theorem pb_told15 : ∀ k : Fin 15, ¬ (14 : Int32) < nI k.val ∧ ¬ (15 : Int32) ≤ nI k.val ∧ (if nI k.val = 14 then some 0 else some (1 <<< ((nI k.val / 2) &&& 31)) : Option Int32) = some (pb_kn k.val) ∧ (if (nI k.val - nI k.val / 2 * 2) = 1 then some (pb_kn k.val) else some 0 : Option Int32) = some (pb_tr k.val) ∧ (if 14 ≤ nI k.val then some 0 else some 1 : Option Int32) = some (if k.val = 14 then 0 else 1) ∧ nI k.val / 2 = nI (k.val / 2) ∧ nI k.val - nI k.val / 2 * 2 = nI (k.val % 2) := by decide +kernel
theorem fX8_isLeft_n {W : Nat → Int64} {n q : Nat} (hn : n < 15) (hq : q < 128) : fX8_isLeft (pb_kn n) (pb_tr n) W (nI q) = some (pb_bI (!decide (W q ≤ 0) && pb_lf n q)) := by
  have h : decide (((nI q ^^^ pb_tr n) &&& pb_kn n) = 0) = pb_lf n q := pb_lf_bits ⟨n, hn⟩ ⟨q, hq⟩
  unfold fX8_isLeft
  rw [if_pos (pb_okT (by omega) (by omega)), nI_clamp (by omega), ← h]
  by_cases h1 : W q ≤ 0
  · rw [if_pos h1, decide_eq_true h1]; rfl
  · rw [if_neg h1, decide_eq_false h1]
    by_cases h2 : (nI q ^^^ pb_tr n) &&& pb_kn n = 0
    · rw [if_pos h2, decide_eq_true h2]; rfl
    · rw [if_neg h2, decide_eq_false h2]; rfl
theorem pb_U_if {V : Nat → Int64} (hN : ∀ q, pb_nn (V q) (10 ^ 10)) (n q : Nat) : (if (!decide (V q ≤ 0) && pb_lf n q) = true then V q else 0) = pb_U V n q := by
  unfold pb_U
  by_cases h : V q ≤ 0
  · rw [decide_eq_true h, pb_nn_le0 (hN q) (by omega) h]
    cases pb_lf n q <;> rfl
  · rw [decide_eq_false h]
    cases pb_lf n q <;> rfl
theorem fX8_isTold_sum {W V : Nat → Int64} {n : Nat} (hn : n < 15) (hV : ∀ q, q < 128 → W q = V q) (hN : ∀ q, pb_nn (V q) (10 ^ 10)) : pb_lp (fun y => fX8_isTold_L4 (pb_kn n) (pb_tr n) W y.1 y.2) pb_FU (0, 0) = some (pb_sum (pb_U V n) 128, nI 128) := by
  rw [show ((0 : Int64), (0 : Int32)) = ((fun q => (pb_sum (pb_U V n) q, nI q)) 0 : Int64 × Int32) from rfl]
  rw [pb_lp_iter (fun q => (pb_sum (pb_U V n) q, nI q)) 128 (pb_sum (pb_U V n) 128, nI 128) ?_ ?_ pb_FU (pb_FU_gt (by omega))]
  · intro q hq
    have h0 : ¬ (128 : Int32) ≤ nI q := nI_ge (b := 128) hq (by decide)
    have hok : pb_ok (nI q) 128 = true := pb_okT (by omega) (by omega)
    simp only [fX8_isTold_L4, pb_sum]
    rw [if_neg h0, fX8_isLeft_n hn hq, Option.bind_some, if_pos hok, nI_clamp (by omega), hV q hq, nI_1, ← pb_U_if hN n q]
    cases (!decide (V q ≤ 0) && pb_lf n q) <;> rfl
  · simp only [fX8_isTold_L4]
    rw [if_pos (show (128 : Int32) ≤ nI 128 from nI_le (Nat.le_refl 128) (by omega))]
theorem fX8_isTold_held {W V : Nat → Int64} {w pc : Nat → Int32} {n np k : Nat} (hn : n < 15) (h6 : np ≤ 6) (po : pb_pricesOK pc np) (pe : pb_eqv w (0 + 99) pc (5 * np)) (hk : k < np) (hV : ∀ q, q < 128 → W q = V q) (hN : ∀ q, pb_nn (V q) (10 ^ 10)) : pb_lp (fun y => fX8_isTold_L83 (pb_kn n) (pb_tr n) w W (nI (99 + 5 * k)) y.1 y.2) pb_FU (0, 0) = some (pb_Hd (pb_U V n) pc k, nI 128) := by
  obtain ⟨⟨d, hd, ed⟩, ⟨a, ha, ea⟩, ⟨b, hb, eb⟩, _⟩ := po k hk
  have g0 : w (99 + 5 * k) = nI d := by rw [← ed]; have := pe (5 * k) (by omega); rw [Nat.zero_add] at this; exact this
  have g1 : w (99 + 5 * k + 1) = nI a := by rw [← ea]; have := pe (5 * k + 1) (by omega); rw [Nat.zero_add, ← Nat.add_assoc] at this; exact this
  have g2 : w (99 + 5 * k + 2) = nI b := by rw [← eb]; have := pe (5 * k + 2) (by omega); rw [Nat.zero_add, ← Nat.add_assoc] at this; exact this
  have eH : pb_Hd (pb_U V n) pc k = pb_sum (pb_held (pb_U V n) d a b) 128 := by
    unfold pb_Hd
    rw [ed, ea, eb, nI_clamp (by omega), nI_clamp (by omega), nI_clamp (by omega)]
  rw [eH]
  generalize hG : pb_held (pb_U V n) d a b = G
  rw [show ((0 : Int64), (0 : Int32)) = ((fun q => (pb_sum G q, nI q)) 0 : Int64 × Int32) from rfl]
  rw [pb_lp_iter (fun q => (pb_sum G q, nI q)) 128 (pb_sum G 128, nI 128) ?_ ?_ pb_FU (pb_FU_gt (by omega))]
  · intro q hq
    have h0 : ¬ (128 : Int32) ≤ nI q := nI_ge (b := 128) hq (by decide)
    have hok : pb_ok (nI q) 128 = true := pb_okT (by omega) (by omega)
    have eG : G q = if pb_claim d a b q = true then (if (!decide (V q ≤ 0) && pb_lf n q) = true then V q else 0) else 0 := by
      rw [← hG, pb_U_if hN n q]; rfl
    simp only [fX8_isTold_L83, pb_sum]
    rw [eG, if_neg h0, fX8_isLeft_n hn hq, Option.bind_some, show nI (99 + 5 * k) + 1 = nI (99 + 5 * k + 1) from nI_1 _, show nI (99 + 5 * k) + 2 = nI (99 + 5 * k + 2) from nI_add _ 2, if_pos (pb_okT (by omega) (by omega)), if_pos (pb_okT (by omega) (by omega)), if_pos (pb_okT (by omega) (by omega)), nI_clamp (show 99 + 5 * k < 2 ^ 31 by omega), nI_clamp (show 99 + 5 * k + 1 < 2 ^ 31 by omega), nI_clamp (show 99 + 5 * k + 2 < 2 ^ 31 by omega), g0, g1, g2, fX8_isSo_eq hd ha hb hq, Option.bind_some, if_pos hok, nI_clamp (show q < 2 ^ 31 by omega), hV q hq, nI_1]
    cases (!decide (V q ≤ 0) && pb_lf n q) <;> cases pb_claim d a b q <;> rfl
  · simp only [fX8_isTold_L83]
    rw [if_pos (show (128 : Int32) ≤ nI 128 from nI_le (Nat.le_refl 128) (by omega))]
theorem fX8_isTold_judge {w pc : Nat → Int32} {k np : Nat} {T H : Int64} {c : Int32} (h6 : np ≤ 6) (pe : pb_eqv w (0 + 99) pc (5 * np)) (hk : k < np) : fX8_isTold_E83 w T (nI k) (nI (99 + 5 * k)) H c = some (Sum.inl (pb_bI (!(decide (H * (pc (5 * k + 3)).toInt64 ≤ T - H) == decide (pc (5 * k + 4) = 1))), nI (k + 1))) := by
  have g3 : w (99 + 5 * k + 3) = pc (5 * k + 3) := by have := pe (5 * k + 3) (by omega); rw [Nat.zero_add, ← Nat.add_assoc] at this; exact this
  have g4 : w (99 + 5 * k + 4) = pc (5 * k + 4) := by have := pe (5 * k + 4) (by omega); rw [Nat.zero_add, ← Nat.add_assoc] at this; exact this
  have hJ : ∀ z : Int32, fX8_isTold_J181 w (nI k) (nI (99 + 5 * k)) z = if pc (5 * k + 4) = 1 then (if z = 1 then some (Sum.inl (1, nI (k + 1))) else some (Sum.inl (0, nI (k + 1)))) else if z = 0 then some (Sum.inl (1, nI (k + 1))) else some (Sum.inl (0, nI (k + 1))) := by
    intro z
    unfold fX8_isTold_J181
    rw [show nI (99 + 5 * k) + 4 = nI (99 + 5 * k + 4) from nI_add _ 4, if_pos (pb_okT (by omega) (by omega)), nI_clamp (by omega), g4]
    unfold fX8_isTold_J199
    rw [nI_1]
    by_cases h : pc (5 * k + 4) = 1
    · rw [if_pos h, if_pos h]; rfl
    · rw [if_neg h, if_neg h]; rfl
  unfold fX8_isTold_E83
  rw [show nI (99 + 5 * k) + 3 = nI (99 + 5 * k + 3) from nI_add _ 3, if_pos (pb_okT (by omega) (by omega)), nI_clamp (by omega), g3]
  by_cases h1 : H * (pc (5 * k + 3)).toInt64 ≤ T - H
  · rw [if_pos h1, decide_eq_true h1, Option.bind_some, hJ]
    by_cases h2 : pc (5 * k + 4) = 1
    · rw [if_pos h2, decide_eq_true h2]; rfl
    · rw [if_neg h2, decide_eq_false h2]; rfl
  · rw [if_neg h1, decide_eq_false h1, Option.bind_some, hJ]
    by_cases h2 : pc (5 * k + 4) = 1
    · rw [if_pos h2, decide_eq_true h2]; rfl
    · rw [if_neg h2, decide_eq_false h2]; rfl
theorem pb_any_mono {P : Nat → Bool} {k n : Nat} (h : k ≤ n) (hk : pb_any P k = true) : pb_any P n = true := by
  obtain ⟨j, h1, h2⟩ := (pb_any_iff P k).mp hk
  exact (pb_any_iff P n).mpr ⟨j, by omega, h2⟩
theorem fX8_isTold_eq {W V : Nat → Int64} {w pc : Nat → Int32} {n np : Nat} (hn : n < 15) (w3 : w 3 = nI np) (h6 : np ≤ 6) (po : pb_pricesOK pc np) (pe : pb_eqv w (0 + 99) pc (5 * np)) (hV : ∀ q, q < 128 → W q = V q) (hN : ∀ q, pb_nn (V q) (10 ^ 10)) : fX8_isTold (pb_kn n) (pb_tr n) w W = some (pb_bI (!decide (pb_sum (pb_U V n) 128 ≤ 0) && !pb_any (pb_ng pc (pb_sum (pb_U V n) 128) (pb_Hd (pb_U V n) pc)) np)) := by
  unfold fX8_isTold
  rw [fX8_isTold_sum hn hV hN, Option.bind_some]
  unfold fX8_isTold_E4
  generalize pb_sum (pb_U V n) 128 = T
  have e0 : (if T ≤ 0 then some 0 else some 1 : Option Int32) = some (pb_bI (!decide (T ≤ 0))) := by
    by_cases h : T ≤ 0
    · rw [if_pos h, decide_eq_true h]; rfl
    · rw [if_neg h, decide_eq_false h]; rfl
  rw [e0, Option.bind_some]
  unfold fX8_isTold_J49
  generalize (!decide (T ≤ 0)) = b0
  generalize hG : pb_ng pc T (pb_Hd (pb_U V n) pc) = G
  obtain ⟨r, e1, e2⟩ := pb_lp_inv (body := fun y => fX8_isTold_L53 (pb_kn n) (pb_tr n) w W T y.1 y.2) (fun y => ∃ k, k ≤ np ∧ y = (pb_bI (b0 && !pb_any G k), nI k)) (fun y => np - y.2.toNatClampNeg) (fun r => r.1 = pb_bI (b0 && !pb_any G np)) (by
    rintro y ⟨k, hk, rfl⟩
    simp only [fX8_isTold_L53]
    rw [w3]
    by_cases e : k = np
    · subst e
      rw [if_pos (nI_le (Nat.le_refl _) (by omega))]
      exact Or.inr ⟨_, rfl, rfl⟩
    · have hlt : k < np := by omega
      rw [if_neg (nI_ge hlt (by omega))]
      cases hb : (b0 && !pb_any G k) with
      | false =>
        rw [pb_bI_f, if_pos rfl]
        refine Or.inr ⟨_, rfl, ?_⟩
        have : (b0 && !pb_any G np) = false := by
          cases b0 with
          | false => rfl
          | true =>
            have h1 : pb_any G k = true := by
              cases hx : pb_any G k with
              | true => rfl
              | false => rw [hx] at hb; exact absurd hb (by decide)
            rw [pb_any_mono hk h1]; rfl
        rw [this]; rfl
      | true =>
        have i0 : (99 : Int32) + 5 * nI k = nI (99 + 5 * k) := by
          rw [show (5 : Int32) * nI k = nI (5 * k) from pk_mul 5 k]
          exact nI_add 99 _
        have eb0 : b0 = true := by
          cases b0 with
          | true => rfl
          | false => exact absurd hb (by simp)
        have ean : pb_any G k = false := by
          cases hx : pb_any G k with
          | false => rfl
          | true => rw [hx, eb0] at hb; exact absurd hb (by decide)
        rw [pb_bI_t, if_neg pb_ne10, i0, Option.bind_some, fX8_isTold_held hn h6 po pe hlt hV hN, Option.bind_some]
        left
        refine ⟨(pb_bI (b0 && !pb_any G (k + 1)), nI (k + 1)), ?_, ⟨k + 1, by omega, rfl⟩, ?_⟩
        · simp only []
          rw [fX8_isTold_judge h6 pe hlt, pb_any, ean, eb0, ← hG]
          rfl
        · simp only []
          rw [nI_clamp (by omega), nI_clamp (by omega)]
          omega) pb_FU (pb_bI b0, 0) ⟨0, by omega, by rw [pb_any]; cases b0 <;> rfl⟩ (Nat.lt_of_le_of_lt (Nat.sub_le _ _) (pb_FU_gt (by omega)))
  rw [e1, Option.bind_some]
  unfold fX8_isTold_E53
  rw [e2]
  exact pb_isB_ite _ _
theorem fX7_makesAllSo_J43_eq {W H : Nat → Int64} {T : Int64} {pc : Nat → Int32} {j x y : Int32} {np : Nat} (h6 : np ≤ 6) (hH : ∀ k, k < np → (if j = 0 then (fX2_held W (pc (5 * k)) (pc (5 * k + 1)) (pc (5 * k + 2))).bind fun r147 => some r147 else (fX2_heldIf W (pc (5 * k)) (pc (5 * k + 1)) (pc (5 * k + 2)) x y 10).bind fun r134 => some r134 : Option Int64) = some (H k)) : fX7_makesAllSo_J43 (nI np) pc W j x y T = some (pb_bI (!decide (T ≤ 0) && !pb_any (pb_ng pc T H) np)) := by
  unfold fX7_makesAllSo_J43
  by_cases h : T ≤ 0
  · rw [if_neg (Int64.not_lt.mpr h), decide_eq_true h]; rfl
  · rw [if_pos (Int64.not_le.mp h), decide_eq_false h]
    generalize hG : pb_ng pc T H = G
    obtain ⟨r, e1, e2⟩ := pb_lp_inv (body := fun y' => fX7_makesAllSo_L57 (nI np) pc W j T x y y') (fun y => ∃ k, k ≤ np ∧ y = nI k ∧ pb_any G k = false) (fun y => np - y.toNatClampNeg) (fun r => Sum.elim (fun q => fX7_makesAllSo_E57 q) (fun r => some r) r = some (pb_bI (!false && !pb_any G np))) (by
      rintro y ⟨k, hk, rfl, hy⟩
      simp only [fX7_makesAllSo_L57]
      by_cases e : k = np
      · subst e
        rw [if_pos (nI_le (Nat.le_refl _) (by omega))]
        exact Or.inr ⟨_, rfl, by rw [hy]; rfl⟩
      · have hlt : k < np := by omega
        have c0 : fX6_cell 5 6 30 (nI np) pc (nI k) 0 = some (pc (5 * k)) := fX6_cell5 (c := 0) hlt (by omega) (by omega) (by omega)
        have c1 : fX6_cell 5 6 30 (nI np) pc (nI k) 1 = some (pc (5 * k + 1)) := fX6_cell5 (c := 1) hlt (by omega) (by omega) (by omega)
        have c2 : fX6_cell 5 6 30 (nI np) pc (nI k) 2 = some (pc (5 * k + 2)) := fX6_cell5 (c := 2) hlt (by omega) (by omega) (by omega)
        have c3 : fX6_cell 5 6 30 (nI np) pc (nI k) 3 = some (pc (5 * k + 3)) := fX6_cell5 (c := 3) hlt (by omega) (by omega) (by omega)
        have c4 : fX6_cell 5 6 30 (nI np) pc (nI k) 4 = some (pc (5 * k + 4)) := fX6_cell5 (c := 4) hlt (by omega) (by omega) (by omega)
        have eG : pb_any G (k + 1) = (decide (H k * (pc (5 * k + 3)).toInt64 ≤ T - H k) == decide (pc (5 * k + 4) = 1)) := by
          rw [pb_any, hy, ← hG]; rfl
        have hm : np - (nI (k + 1)).toNatClampNeg < np - (nI k).toNatClampNeg := by
          rw [nI_clamp (by omega), nI_clamp (by omega)]; omega
        have hJ : ∀ z : Int32, fX7_makesAllSo_J183 (nI np) pc (nI k) z = if pc (5 * k + 4) = 1 then (if z = 1 then some (Sum.inl (nI (k + 1))) else some (Sum.inr (Sum.inr 0))) else if z = 0 then some (Sum.inl (nI (k + 1))) else some (Sum.inr (Sum.inr 0)) := by
          intro z
          unfold fX7_makesAllSo_J183
          rw [c4, Option.bind_some, nI_1]
        have hgo : pb_any G (k + 1) = false → ∃ k_1, k_1 ≤ np ∧ nI (k + 1) = nI k_1 ∧ pb_any G k_1 = false := fun hh => ⟨k + 1, by omega, rfl, hh⟩
        have hno : pb_any G (k + 1) = true → pb_any G np = true := fun hh => pb_any_mono (by omega) hh
        rw [if_neg (nI_ge hlt (by omega)), c0, Option.bind_some, c1, Option.bind_some, c2, Option.bind_some, hH k hlt, Option.bind_some]
        unfold fX7_makesAllSo_J150
        rw [c3, Option.bind_some]
        by_cases h1 : H k * (pc (5 * k + 3)).toInt64 ≤ T - H k
        · rw [decide_eq_true h1] at eG
          rw [if_pos h1, Option.bind_some, hJ]
          by_cases h2 : pc (5 * k + 4) = 1
          · rw [decide_eq_true h2] at eG
            rw [if_pos h2]
            exact Or.inr ⟨_, rfl, by rw [hno eG]; rfl⟩
          · rw [decide_eq_false h2] at eG
            rw [if_neg h2]
            exact Or.inl ⟨_, rfl, hgo eG, hm⟩
        · rw [decide_eq_false h1] at eG
          rw [if_neg h1, Option.bind_some, hJ]
          by_cases h2 : pc (5 * k + 4) = 1
          · rw [decide_eq_true h2] at eG
            rw [if_pos h2]
            exact Or.inl ⟨_, rfl, hgo eG, hm⟩
          · rw [decide_eq_false h2] at eG
            rw [if_neg h2]
            exact Or.inr ⟨_, rfl, by rw [hno eG]; rfl⟩) pb_FU 0 ⟨0, by omega, rfl, rfl⟩ (Nat.lt_of_le_of_lt (Nat.sub_le _ _) (pb_FU_gt (by omega)))
    rw [e1, Option.bind_some]
    exact e2
theorem pb_V2_ten {V : Nat → Int64} {n : Nat} (hn : n < 14) (q : Nat) : pb_V2 V (n / 2) (nI (n % 2)) 10 q = pb_U V n q * 10 := by
  have e : decide (nI (n % 2) = 1) = decide (n % 2 = 1) := by
    rcases (show n % 2 = 0 ∨ n % 2 = 1 by omega) with h | h <;> rw [h] <;> rfl
  unfold pb_V2 pb_U pb_shr pb_lf
  rw [e, if_neg (show ¬ n = 14 by omega)]
  by_cases h : q.testBit (n / 2) = decide (n % 2 = 1)
  · rw [if_pos h, if_pos (beq_iff_eq.mpr h), show (10 : Int32).toInt64 = 10 by decide]
  · rw [if_neg h, if_neg (fun hh => h (beq_iff_eq.mp hh)), show ((10 : Int32) - 10).toInt64 = 0 by decide, Int64.zero_mul, Int64.mul_zero]
theorem pb_sum_ten {g h : Nat → Int64} {n : Nat} (e : ∀ q, g q = h q * 10) : pb_sum g n = pb_sum h n * 10 := by
  induction n with
  | zero => show (0 : Int64) = 0 * 10; decide
  | succ n ih => rw [pb_sum, pb_sum, ih, e, Int64.add_mul]
theorem pb_held_ten {g h : Nat → Int64} {k a b : Nat} (e : ∀ q, g q = h q * 10) (q : Nat) : pb_held g k a b q = pb_held h k a b q * 10 := by
  unfold pb_held
  split
  · exact e q
  · rw [Int64.zero_mul]
theorem pb_cmp_oN {h t x : Nat} (hh : h ≤ 10 ^ 14) (ht : t ≤ 10 ^ 14) (hx : x < 100) : (Int64.ofNat h * Int64.ofNat x ≤ Int64.ofNat t - Int64.ofNat h) ↔ h * x + h ≤ t := by
  have hb : h * x ≤ 10 ^ 14 * 100 := Nat.mul_le_mul hh (by omega)
  rw [pb_oN_mul, Int64.le_iff_toInt_le, Int64.toInt_sub]
  generalize h * x = y at hb ⊢
  rw [pb_oN_toInt (by omega), pb_oN_toInt (by omega), pb_oN_toInt (by omega), pb_bm (B := 10 ^ 14) (by omega) (by omega) (by decide)]
  omega
theorem pb_ng_ten {pc : Nat → Int32} {np k t h : Nat} {T : Int64} {H H2 : Nat → Int64} (po : pb_pricesOK pc np) (hk : k < np) (eT : T = Int64.ofNat t) (ht : t ≤ 10 ^ 13) (eH : H k = Int64.ofNat h) (hh : h ≤ 10 ^ 13) (e2 : H2 k = H k * 10) : pb_ng pc (T * 10) H2 k = pb_ng pc T H k := by
  obtain ⟨_, _, _, ⟨x, hx, ex⟩, _⟩ := po k hk
  unfold pb_ng
  congr 1
  rw [e2, eT, eH, ex, nI_l (by omega)]
  show decide (Int64.ofNat h * Int64.ofNat 10 * Int64.ofNat x ≤ Int64.ofNat t * Int64.ofNat 10 - Int64.ofNat h * Int64.ofNat 10) = decide (Int64.ofNat h * Int64.ofNat x ≤ Int64.ofNat t - Int64.ofNat h)
  rw [pb_oN_mul h 10, pb_oN_mul t 10, decide_eq_decide, pb_cmp_oN (by omega) (by omega) hx, pb_cmp_oN (by omega) (by omega) hx, Nat.mul_right_comm]
  omega
theorem pb_any_same {P Q : Nat → Bool} {n : Nat} (h : ∀ k, k < n → P k = Q k) : pb_any P n = pb_any Q n := pb_any_congr h
theorem pb_U_nn {V : Nat → Int64} {n B : Nat} (hN : ∀ q, pb_nn (V q) B) (q : Nat) : pb_nn (pb_U V n q) B := by
  unfold pb_U
  split
  · exact hN q
  · exact ⟨0, by omega, rfl⟩
theorem fX7_makesAllSo_eq {W V : Nat → Int64} {pc : Nat → Int32} {n np : Nat} (hn : n < 15) (h6 : np ≤ 6) (po : pb_pricesOK pc np) (hV : ∀ q, q < 128 → W q = V q) (hN : ∀ q, pb_nn (V q) (10 ^ 10)) : fX7_makesAllSo (nI np) pc (pb_sum V 128) W (nI n) = some (pb_bI (!decide (pb_sum (pb_U V n) 128 ≤ 0) && !pb_any (pb_ng pc (pb_sum (pb_U V n) 128) (pb_Hd (pb_U V n) pc)) np)) := by
  obtain ⟨_, _, _, _, f1, f2, f3⟩ : _ ∧ _ ∧ _ ∧ _ ∧ (if 14 ≤ nI n then some 0 else some 1 : Option Int32) = some (if n = 14 then 0 else 1) ∧ nI n / 2 = nI (n / 2) ∧ nI n - nI n / 2 * 2 = nI (n % 2) := pb_told15 ⟨n, hn⟩
  unfold fX7_makesAllSo
  rw [f1, Option.bind_some]
  unfold fX7_makesAllSo_J11
  rw [Option.bind_some, Option.bind_some, f3, f2]
  by_cases e : n = 14
  · subst e
    have eU : pb_U V 14 = V := by
      funext q
      show (if pb_lf 14 q = true then V q else 0) = V q
      exact if_pos rfl
    rw [if_pos rfl, if_pos rfl, Option.bind_some, eU]
    exact fX7_makesAllSo_J43_eq h6 (fun k hk => by
      obtain ⟨⟨d, hd, ed⟩, ⟨a, ha, ea⟩, ⟨b, hb, eb⟩, _⟩ := po k hk
      unfold pb_Hd
      rw [if_pos rfl, ed, ea, eb, fX2_held_eq hd ha hb hV hN, Option.bind_some, nI_clamp (by omega), nI_clamp (by omega), nI_clamp (by omega)])
  · have hn14 : n < 14 := by omega
    have eT := fX2_totalIf_eq (v := nI (n % 2)) (r := 10) (show n / 2 < 7 by omega) hV
    rw [if_neg e, if_neg pb_ne10, eT, Option.bind_some, Option.bind_some]
    rw [fX7_makesAllSo_J43_eq (H := fun k => pb_Hd (pb_U V n) pc k * 10) h6 (fun k hk => by
      obtain ⟨⟨d, hd, ed⟩, ⟨a, ha, ea⟩, ⟨b, hb, eb⟩, _⟩ := po k hk
      show _ = some (pb_Hd (pb_U V n) pc k * 10)
      unfold pb_Hd
      rw [if_neg pb_ne10, ed, ea, eb, fX2_heldIf_eq hd ha hb (show n / 2 < 7 by omega) hV hN, Option.bind_some, nI_clamp (by omega), nI_clamp (by omega), nI_clamp (by omega), pb_sum_ten (pb_held_ten (pb_V2_ten hn14))])]
    rw [pb_sum_ten (pb_V2_ten hn14)]
    obtain ⟨t, ht, et, _⟩ := pb_sum_nn (n := 128) (fun q _ => pb_U_nn (n := n) hN q)
    have e10 : pb_sum (pb_U V n) 128 * 10 = Int64.ofNat (t * 10) := by rw [et]; exact pb_oN_mul t 10
    have ed : decide (pb_sum (pb_U V n) 128 * 10 ≤ 0) = decide (pb_sum (pb_U V n) 128 ≤ 0) := by
      rw [decide_eq_decide, pb_nn_0 e10 (by omega), pb_nn_0 et (by omega)]
      omega
    rw [ed, pb_any_same (fun k hk => ?_)]
    obtain ⟨h, hh, eh, _⟩ := pb_sum_nn (n := 128) (fun q _ => pb_held_nn (k := (pc (5 * k)).toNatClampNeg) (a := (pc (5 * k + 1)).toNatClampNeg) (b := (pc (5 * k + 2)).toNatClampNeg) (pb_U_nn (n := n) hN) q)
    exact pb_ng_ten po hk et (by omega) eh (by omega) rfl
theorem fX_told_sim {W W2 V : Nat → Int64} {w pc O : Nat → Int32} {np : Nat} {t2 : Int64} {s x0 : Int32} (k0 t0 : Int32) (w3 : w 3 = nI np) (h6 : np ≤ 6) (po : pb_pricesOK pc np) (pe : pb_eqv w (0 + 99) pc (5 * np)) (hV : ∀ q, q < 128 → W q = V q) (hV2 : ∀ q, q < 128 → W2 q = V q) (hN : ∀ q, pb_nn (V q) (10 ^ 10)) : ∃ m f c d e g, pb_lp (fun y => fX7_told_L43 (nI np) pc (pb_sum V 128, s, O, W) y.1 y.2.1 y.2.2) pb_FU (0, -1, 0) = some (m, f, c) ∧ pb_lp (fun y => fX8_told_L34 w (x0, t2, W2) y.1 y.2.1 y.2.2.1 y.2.2.2.1 y.2.2.2.2) pb_FU (0, -1, 0, k0, t0) = some (m, f, d, e, g) := by
  obtain ⟨r, s, e1, e2, hQ⟩ := pb_lp_sim (b1 := fun y => fX7_told_L43 (nI np) pc (pb_sum V 128, s, O, W) y.1 y.2.1 y.2.2) (b2 := fun y => fX8_told_L34 w (x0, t2, W2) y.1 y.2.1 y.2.2.1 y.2.2.2.1 y.2.2.2.2) (fun n x y => ∃ m f k kn tr, k + n = 15 ∧ x = (m, f, nI k) ∧ y = (m, f, nI k, kn, tr)) (fun r s => ∃ m f c d e g, r = (m, f, c) ∧ s = (m, f, d, e, g)) (by
    rintro n x y ⟨m, f, k, kn, tr, hk, rfl, rfl⟩
    simp only [fX7_told_L43, fX8_told_L34]
    by_cases hn : n = 0
    · have : k = 15 := by omega
      subst this
      rw [if_pos (show (14 : Int32) < nI 15 by decide), if_pos (show (15 : Int32) ≤ nI 15 by decide)]
      exact Or.inr ⟨_, _, rfl, rfl, _, _, _, _, _, _, rfl, rfl⟩
    · have hk15 : k < 15 := by omega
      obtain ⟨f1, f2, f3, f4, _⟩ : ¬ (14 : Int32) < nI k ∧ ¬ (15 : Int32) ≤ nI k ∧ (if nI k = 14 then some 0 else some (1 <<< ((nI k / 2) &&& 31)) : Option Int32) = some (pb_kn k) ∧ (if (nI k - nI k / 2 * 2) = 1 then some (pb_kn k) else some 0 : Option Int32) = some (pb_tr k) ∧ _ := pb_told15 ⟨k, hk15⟩
      rw [if_neg f1, if_neg f2, f3, Option.bind_some, fX7_makesAllSo_eq hk15 h6 po hV hN, Option.bind_some]
      unfold fX8_told_J59
      rw [f4, Option.bind_some]
      unfold fX8_told_J79
      rw [fX8_isTold_eq hk15 w3 h6 po pe hV2 hN, Option.bind_some]
      unfold fX8_told_J103
      rw [nI_1]
      left
      cases (!decide (pb_sum (pb_U V k) 128 ≤ 0) && !pb_any (pb_ng pc (pb_sum (pb_U V k) 128) (pb_Hd (pb_U V k) pc)) np) with
      | false =>
        rw [pb_bI_f, if_pos rfl, if_pos rfl, Option.bind_some, if_pos rfl, Option.bind_some, Int32.add_zero]
        exact ⟨_, _, n - 1, by omega, rfl, rfl, m, f, k + 1, _, _, by omega, rfl, rfl⟩
      | true =>
        rw [pb_bI_t, if_neg pb_ne10, if_neg pb_ne10]
        by_cases hm : m = 0
        · rw [if_pos hm, if_pos hm, Option.bind_some, if_neg pb_ne10, Option.bind_some]
          exact ⟨_, _, n - 1, by omega, rfl, rfl, _, _, k + 1, _, _, by omega, rfl, rfl⟩
        · rw [if_neg hm, if_neg hm, Option.bind_some, if_neg pb_ne10, Option.bind_some]
          exact ⟨_, _, n - 1, by omega, rfl, rfl, _, _, k + 1, _, _, by omega, rfl, rfl⟩) pb_FU 15 (0, -1, 0) (0, -1, 0, k0, t0) ⟨0, -1, 0, k0, t0, by omega, rfl, rfl⟩ (pb_FU_gt (by omega))
  obtain ⟨m, f, c, d, e, g, rfl, rfl⟩ := hQ
  exact ⟨m, f, c, d, e, g, e1, e2⟩
