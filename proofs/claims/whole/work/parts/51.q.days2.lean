/-! ===== days: the two walks side by side ===== -/
theorem pb_st2 (x y : Bool) : ((if x = true then (if y = true then (2 : Int32) else 1) else if y = true then 0 else -1) = 2) ↔ (x && y) = true := by cases x <;> cases y <;> decide
theorem fX_days_walk {W2 V : Nat → Int64} {t : Int64} {x0 : Int32} {k a b tr X c : Nat} {L : Nat → Int32} (hk : k < 6) (ha : a < 7) (hb : b < 7) (hX : X < 2147483648) (htr : tr < 128) (hV2 : ∀ q, q < 128 → W2 q = V q) (hL : pb_LS V 0 tr c L) : ∃ d X' kn' o' c' L' kn'', d ≤ 40 ∧ X' < 2147483648 ∧ pb_lp (fun y => fX4_daysOnce_L63 (nI k) (nI a) (nI b) (nI tr) y.1 y.2.1 y.2.2.1 y.2.2.2.1 y.2.2.2.2.1 y.2.2.2.2.2) pb_FU (0, 0, pb_bI (pb_opn V 0 tr k a b), nI c, Int64.ofNat X, L) = some (kn', nI d, o', c', Int64.ofNat X', L') ∧ pb_lp (fun y => fX8_days_L134 (nI k) (nI a) (nI b) (nI tr) (x0, t, W2) y.1 y.2.1 y.2.2) pb_FU (0, 0, Int64.ofNat X) = some (nI d, kn'', Int64.ofNat X') := by
  obtain ⟨r, s, e1, e2, d, X', kn', o', c', L', kn'', hd, hX', rfl, rfl⟩ := pb_lp_sim (b1 := fun y => fX4_daysOnce_L63 (nI k) (nI a) (nI b) (nI tr) y.1 y.2.1 y.2.2.1 y.2.2.2.1 y.2.2.2.2.1 y.2.2.2.2.2) (b2 := fun y => fX8_days_L134 (nI k) (nI a) (nI b) (nI tr) (x0, t, W2) y.1 y.2.1 y.2.2) (fun n x y => ∃ d kn X c L, d + n = 40 ∧ x = (nI kn, nI d, pb_bI (pb_opn V kn tr k a b), nI c, Int64.ofNat X, L) ∧ y = (nI d, nI kn, Int64.ofNat X) ∧ kn < 128 ∧ X < 2147483648 ∧ pb_LS V kn tr c L) (fun r s => ∃ d X' kn' o' c' L' kn'', d ≤ 40 ∧ X' < 2147483648 ∧ r = (kn', nI d, o', c', Int64.ofNat X', L') ∧ s = (nI d, kn'', Int64.ofNat X')) (by
    rintro n x y ⟨d, kn, X, c, L, hd, rfl, rfl, hkn, hX, hL⟩
    simp only [fX4_daysOnce_L63, fX8_days_L134]
    by_cases hn : n = 0
    · have : d = 40 := by omega
      subst this
      rw [if_pos (show (40 : Int32) ≤ nI 40 by decide), if_pos (show (40 : Int32) ≤ nI 40 by decide)]
      exact Or.inr ⟨_, _, rfl, rfl, 40, X, _, _, _, _, _, by omega, hX, rfl, rfl⟩
    · have h0 : ¬ (40 : Int32) ≤ nI d := nI_ge (b := 40) (show d < 40 by omega) (by decide)
      have e7 : fX4_draw (Int64.ofNat X) 7 = some (nI (pb_dr X 7), Int64.ofNat (pb_lcg X)) := fX4_draw_eq (s := 7) hX (by decide) (by decide)
      have e8 : fX8_draw (Int64.ofNat X) 7 = some (nI (pb_dr X 7), Int64.ofNat (pb_lcg X)) := fX8_draw_eq (s := 7) hX (by decide) (by decide)
      have hf : pb_dr X 7 < 7 := Nat.mod_lt _ (by decide)
      have hX2 := pb_lcg_lt X
      have h2 : _ ↔ pb_opn V kn tr k a b = true := pb_st2 (pb_any (pb_someL (pb_lft V kn tr) k a b true) 128) (pb_any (pb_someL (pb_lft V kn tr) k a b false) 128)
      rw [if_neg h0, if_neg h0, fX8_settledNow_k hkn hk ha hb hV2, Option.bind_some]
      generalize pb_dr X 7 = f at e7 e8 hf
      generalize pb_lcg X = X2 at e7 e8 hX2
      cases ho : pb_opn V kn tr k a b with
      | false =>
        rw [pb_bI_f, if_pos rfl, if_neg (fun h => absurd (h2.mp h) (by rw [ho]; decide))]
        exact Or.inr ⟨_, _, rfl, rfl, d, X, _, _, _, _, _, by omega, hX, rfl, rfl⟩
      | true =>
        rw [pb_bI_t, if_neg pb_ne10, if_pos (h2.mpr ho), e7, e8]
        simp only [Option.bind_some]
        rw [fX7_wasSo_eq (show kn < 2 ^ 31 by omega) (by omega), Option.bind_some, fX7_wasSo_eq (show tr < 2 ^ 31 by omega) (by omega), Option.bind_some, pb_shlB ⟨f, by omega⟩, pb_nI_or, nI_1]
        left
        cases hbf : kn.testBit f with
        | true =>
          rw [pb_bI_t, if_neg pb_ne10, pb_or_had hbf]
          exact ⟨_, _, n - 1, by omega, rfl, rfl, d + 1, kn, X2, c, L, by omega, by rw [ho]; rfl, rfl, hkn, hX2, hL⟩
        | false =>
          obtain ⟨c', L', e9, hL'⟩ := fX4_narrow_eq (show f < 7 from hf) hL
          have hor : kn ||| 2 ^ f < 128 := Nat.or_lt_two_pow (n := 7) hkn (Nat.pow_lt_pow_right (by omega) hf)
          rw [pb_bI_f, if_pos rfl, e9, Option.bind_some]
          dsimp only
          rw [fX4_isOpen_eq hk ha hb hL', Option.bind_some]
          exact ⟨_, _, n - 1, by omega, rfl, rfl, d + 1, kn ||| 2 ^ f, X2, c', L', by omega, rfl, rfl, hor, hX2, hL'⟩) pb_FU 40 (0, 0, pb_bI (pb_opn V 0 tr k a b), nI c, Int64.ofNat X, L) (0, 0, Int64.ofNat X) ⟨0, 0, X, c, L, by omega, rfl, rfl, by omega, hX, hL⟩ (pb_FU_gt (by omega))
  exact ⟨d, X', kn', o', c', L', kn'', hd, hX', e1, e2⟩
theorem fX_days_once {W W2 V : Nat → Int64} {t : Int64} {x0 : Int32} {k a b X : Nat} (hk : k < 6) (ha : a < 7) (hb : b < 7) (hX : X < 2147483648) (hV : ∀ q, q < 128 → W q = V q) (hV2 : ∀ q, q < 128 → W2 q = V q) (hN : ∀ q, pb_nn (V q) (10 ^ 10)) (hcnt : 0 < pb_num (pb_ft V) 128) (c0 : Int32) (L0 : Nat → Int32) : ∃ d X' c' L' X1 r tr kn'', d ≤ 40 ∧ X' < 2147483648 ∧ fX4_daysOnce c0 (Int64.ofNat X) L0 W (nI k) (nI a) (nI b) = some (nI d, c', Int64.ofNat X', L') ∧ fX8_draw (Int64.ofNat X) (nI (pb_num (pb_ft V) 128)) = some (r, X1) ∧ fX8_pastAt W2 r = some tr ∧ pb_lp (fun y => fX8_days_L134 (nI k) (nI a) (nI b) tr (x0, t, W2) y.1 y.2.1 y.2.2) pb_FU (0, 0, X1) = some (nI d, kn'', Int64.ofNat X') := by
  obtain ⟨L, eL, hLq⟩ := fX2_listFitting_eq L0 hV
  have hc := pb_num_le (pb_ft V) 128
  have hr : pb_dr X (pb_num (pb_ft V) 128) < pb_num (pb_ft V) 128 := Nat.mod_lt _ hcnt
  obtain ⟨q, hq, hF, hn, eP⟩ := fX8_pastAt_eq hV2 hN hr
  have eLr : L (pb_dr X (pb_num (pb_ft V) 128)) = nI q := by rw [← hn]; exact hLq q hq hF
  have hag : ∀ q', pb_lft V 0 q q' = pb_ft V q' := by
    intro q'
    unfold pb_lft pb_ft pb_ag
    rw [Nat.and_zero]
    cases decide (V q' ≤ 0) <;> rfl
  have hLS : pb_LS V 0 q (pb_num (pb_ft V) 128) L := by
    refine ⟨hc, fun j hj => ?_, fun q' hq' hl => ?_⟩
    · obtain ⟨q', h1, h2, h3⟩ := pb_num_surj hj
      exact ⟨q', h1, by rw [← h3]; exact hLq q' h1 h2, by rw [hag]; exact h2⟩
    · rw [hag] at hl
      exact ⟨_, pb_num_lt hq' hl, hLq q' hq' hl⟩
  obtain ⟨d, X', kn', o', c', L', kn'', hd, hX', e1, e2⟩ := fX_days_walk (x0 := x0) (t := t) hk ha hb (pb_lcg_lt X) hq hV2 hLS
  refine ⟨d, X', c', L', Int64.ofNat (pb_lcg X), _, nI q, kn'', hd, hX', ?_, fX8_draw_eq hX hcnt hc, eP, e2⟩
  unfold fX4_daysOnce
  rw [eL, Option.bind_some]
  dsimp only
  rw [fX4_draw_eq hX hcnt hc, Option.bind_some]
  dsimp only
  generalize hcc : pb_num (pb_ft V) 128 = cc at *
  rw [if_neg (nI_pos (by omega)), if_pos (nI_lt hr (by omega)), if_pos (pb_okT (by omega) (by omega)), nI_clamp (by omega), eLr, Option.bind_some, fX4_isOpen_eq hk ha hb hLS, Option.bind_some, e1, Option.bind_some]
  rfl
theorem fX_days_sim {W W2 V : Nat → Int64} {t t1 : Int64} {x0 st : Int32} {O : Nat → Int32} {k a b X N : Nat} (hk : k < 6) (ha : a < 7) (hb : b < 7) (hX : X < 2147483648) (hN30 : N ≤ 30) (hV : ∀ q, q < 128 → W q = V q) (hV2 : ∀ q, q < 128 → W2 q = V q) (hN : ∀ q, pb_nn (V q) (10 ^ 10)) (hcnt : 0 < pb_num (pb_ft V) 128) (c0 : Int32) (L0 : Nat → Int32) (kn0 tr0 : Int32) : ∃ S X' c' L' d1 d2 kn' tr', S ≤ 1200 ∧ pb_lp (fun y => fX7_days_L74 (nI N) (nI k) (nI a) (nI b) (t1, st, O, W) y.1 y.2.1 y.2.2.1 y.2.2.2.1 y.2.2.2.2) pb_FU (0, 0, c0, Int64.ofNat X, L0) = some (Int64.ofNat S, d1, c', Int64.ofNat X', L') ∧ pb_lp (fun y => fX8_days_L106 (nI N) (nI k) (nI a) (nI b) (nI (pb_num (pb_ft V) 128)) (x0, t, W2) y.1 y.2.1 y.2.2.1 y.2.2.2.1 y.2.2.2.2) pb_FU (0, 0, kn0, tr0, Int64.ofNat X) = some (nI S, d2, kn', tr', Int64.ofNat X') := by
  obtain ⟨r, s, e1, e2, S, X', c', L', d1, d2, kn', tr', hS, rfl, rfl⟩ := pb_lp_sim (b1 := fun y => fX7_days_L74 (nI N) (nI k) (nI a) (nI b) (t1, st, O, W) y.1 y.2.1 y.2.2.1 y.2.2.2.1 y.2.2.2.2) (b2 := fun y => fX8_days_L106 (nI N) (nI k) (nI a) (nI b) (nI (pb_num (pb_ft V) 128)) (x0, t, W2) y.1 y.2.1 y.2.2.1 y.2.2.2.1 y.2.2.2.2) (fun n x y => ∃ i S X c L kn tr, i + n = N ∧ S ≤ 40 * i ∧ X < 2147483648 ∧ x = (Int64.ofNat S, nI i, c, Int64.ofNat X, L) ∧ y = (nI S, nI i, kn, tr, Int64.ofNat X)) (fun r s => ∃ S X' c' L' d1 d2 kn' tr', S ≤ 1200 ∧ r = (Int64.ofNat S, d1, c', Int64.ofNat X', L') ∧ s = (nI S, d2, kn', tr', Int64.ofNat X')) (by
    rintro n x y ⟨i, S, X, c, L, kn, tr, hi, hS, hX, rfl, rfl⟩
    simp only [fX7_days_L74, fX8_days_L106]
    by_cases hn : n = 0
    · have hle : nI N ≤ nI i := nI_le (by omega) (by omega)
      rw [if_pos hle, if_pos hle]
      exact Or.inr ⟨_, _, rfl, rfl, S, X, _, _, _, _, _, _, by omega, rfl, rfl⟩
    · have hng : ¬ nI N ≤ nI i := nI_ge (show i < N by omega) (by omega)
      obtain ⟨d, X', c', L', X1, r, tr', kn'', hd, hX', f1, f2, f3, f4⟩ := fX_days_once (t := t) (x0 := x0) hk ha hb hX hV hV2 hN hcnt c L
      have ed : (nI d).toInt64 = Int64.ofNat d := nI_l (by omega)
      rw [if_neg hng, if_neg hng, f1, f2]
      simp only [Option.bind_some]
      rw [f3, Option.bind_some, f4, Option.bind_some, ed, pb_oN_add, nI_1]
      unfold fX8_days_E134
      rw [nI_add, Option.bind_some, nI_1]
      exact Or.inl ⟨_, _, n - 1, by omega, rfl, rfl, i + 1, S + d, X', c', L', _, _, by omega, by omega, hX', rfl, rfl⟩) pb_FU N (0, 0, c0, Int64.ofNat X, L0) (0, 0, kn0, tr0, Int64.ofNat X) ⟨0, 0, X, c0, L0, kn0, tr0, by omega, by omega, hX, rfl, rfl⟩ (pb_FU_gt (by omega))
  exact ⟨S, X', c', L', d1, d2, kn', tr', hS, e1, e2⟩
theorem pb_w1_nat {p : Int32} {n : Nat} (hn : n < 2 ^ 31) (h : pb_w p 1 (nI n) = true) : ∃ k : Nat, 1 ≤ k ∧ k ≤ n ∧ p = nI k := by
  have h1 : (1 : Int32) ≤ p ∧ p ≤ nI n := of_decide_eq_true h
  have h0 : ¬ p < 0 := by
    rw [Int32.lt_iff_toInt_lt, show Int32.toInt 0 = 0 by decide]
    have := Int32.le_iff_toInt_le.mp h1.1
    rw [show Int32.toInt 1 = 1 by decide] at this
    omega
  obtain ⟨j, hj, rfl⟩ := nI_of h0
  exact ⟨j, (nI_leI (a := 1) (by omega) hj).mp h1.1, (nI_leI hj hn).mp h1.2, rfl⟩
