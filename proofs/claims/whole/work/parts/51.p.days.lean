/-! ===== days until a claim is settled ===== -/
def pb_ag (kn tr q : Nat) : Bool := decide ((q ^^^ tr) &&& kn = 0)
theorem pb_and_two (x f : Nat) : x &&& 2 ^ f = 0 ↔ x.testBit f = false := by
  constructor
  · intro h
    have := congrArg (fun z => z.testBit f) h
    simp only [Nat.testBit_and, Nat.testBit_two_pow_self, Bool.and_true, Nat.zero_testBit] at this
    exact this
  · intro h
    apply Nat.eq_of_testBit_eq
    intro i
    rw [Nat.testBit_and, Nat.testBit_two_pow, Nat.zero_testBit]
    by_cases e : f = i
    · subst e; rw [h]; rfl
    · rw [decide_eq_false e, Bool.and_false]
theorem pb_ag_or (kn tr q f : Nat) : pb_ag (kn ||| 2 ^ f) tr q = (pb_ag kn tr q && (q.testBit f == tr.testBit f)) := by
  have h1 : ((q ^^^ tr) &&& (kn ||| 2 ^ f) = 0) ↔ ((q ^^^ tr) &&& kn = 0) ∧ (q.testBit f = tr.testBit f) := by
    rw [Nat.and_or_distrib_left, Nat.or_eq_zero_iff, pb_and_two, Nat.testBit_xor]
    cases q.testBit f <;> cases tr.testBit f <;> simp
  unfold pb_ag
  rw [Bool.eq_iff_iff, Bool.and_eq_true, decide_eq_true_eq, decide_eq_true_eq, beq_iff_eq]
  exact h1
theorem pb_or_had {kn f : Nat} (h : kn.testBit f = true) : kn ||| 2 ^ f = kn := by
  apply Nat.eq_of_testBit_eq
  intro i
  rw [Nat.testBit_or, Nat.testBit_two_pow]
  by_cases e : f = i
  · subst e; rw [h]; rfl
  · rw [decide_eq_false e, Bool.or_false]
theorem fX8_isLeft_k {W : Nat → Int64} {kn tr q : Nat} (hk : kn < 128) (hq : q < 128) : fX8_isLeft (nI kn) (nI tr) W (nI q) = some (pb_bI (!decide (W q ≤ 0) && pb_ag kn tr q)) := by
  have hb : (q ^^^ tr) &&& kn ≤ kn := Nat.and_le_right
  have h : (nI q ^^^ nI tr) &&& nI kn = 0 ↔ (q ^^^ tr) &&& kn = 0 := by
    rw [pb_nI_xor, pb_nI_and, show (0 : Int32) = nI 0 from rfl, nI_eq (by omega) (by omega)]
  unfold fX8_isLeft pb_ag
  rw [if_pos (pb_okT (by omega) (by omega)), nI_clamp (by omega)]
  by_cases h1 : W q ≤ 0
  · rw [if_pos h1, decide_eq_true h1]; rfl
  · rw [if_neg h1, decide_eq_false h1]
    by_cases h2 : (q ^^^ tr) &&& kn = 0
    · rw [if_pos (h.mpr h2), decide_eq_true h2]; rfl
    · rw [if_neg (fun e => h2 (h.mp e)), decide_eq_false h2]; rfl
/-- those that are left -/
def pb_lft (V : Nat → Int64) (kn tr q : Nat) : Bool := !decide (V q ≤ 0) && pb_ag kn tr q
def pb_someL (A : Nat → Bool) (k a c : Nat) (b : Bool) (q : Nat) : Bool := A q && (pb_claim k a c q == b)
theorem fX8_settledNow_k {W V : Nat → Int64} {kn tr k a c : Nat} (hkn : kn < 128) (hk : k < 6) (ha : a < 7) (hc : c < 7) (hV : ∀ q, q < 128 → W q = V q) : fX8_settledNow (nI kn) (nI tr) W (nI k) (nI a) (nI c) = some (if pb_any (pb_someL (pb_lft V kn tr) k a c true) 128 = true then (if pb_any (pb_someL (pb_lft V kn tr) k a c false) 128 = true then 2 else 1) else if pb_any (pb_someL (pb_lft V kn tr) k a c false) 128 = true then 0 else -1) := by
  unfold fX8_settledNow
  generalize hP : pb_someL (pb_lft V kn tr) k a c true = P
  generalize hQ : pb_someL (pb_lft V kn tr) k a c false = Q
  rw [show ((0 : Int32), (0 : Int32), (0 : Int32)) = ((fun q => (pb_bI (pb_any P q), pb_bI (pb_any Q q), nI q)) 0 : Int32 × Int32 × Int32) from rfl]
  rw [pb_lp_iter (fun q => (pb_bI (pb_any P q), pb_bI (pb_any Q q), nI q)) 128 (pb_bI (pb_any P 128), pb_bI (pb_any Q 128), nI 128) ?_ ?_ pb_FU (pb_FU_gt (by omega))]
  · rw [Option.bind_some]
    cases pb_any P 128 <;> cases pb_any Q 128 <;> rfl
  · intro q hq
    have h0 : ¬ (128 : Int32) ≤ nI q := nI_ge (b := 128) hq (by decide)
    simp only [fX8_settledNow_L9, pb_any, fX8_settledNow_J47]
    rw [if_neg h0, fX8_isLeft_k hkn hq, fX8_isSo_eq hk ha hc (by omega), nI_1, hV q hq]
    have eP : P q = ((!decide (V q ≤ 0) && pb_ag kn tr q) && (pb_claim k a c q == true)) := by rw [← hP]; rfl
    have eQ : Q q = ((!decide (V q ≤ 0) && pb_ag kn tr q) && (pb_claim k a c q == false)) := by rw [← hQ]; rfl
    rw [eP, eQ]
    generalize (!decide (V q ≤ 0) && pb_ag kn tr q) = d
    cases d <;> cases pb_any P q <;> cases pb_any Q q <;> cases pb_claim k a c q <;> rfl
  · simp only [fX8_settledNow_L9]
    rw [if_pos (show (128 : Int32) ≤ nI 128 from nI_le (Nat.le_refl 128) (by omega))]
/-- the list of those that are left -/
def pb_LS (V : Nat → Int64) (kn tr c : Nat) (L : Nat → Int32) : Prop := c ≤ 128 ∧ (∀ j, j < c → ∃ q, q < 128 ∧ L j = nI q ∧ pb_lft V kn tr q = true) ∧ ∀ q, q < 128 → pb_lft V kn tr q = true → ∃ j, j < c ∧ L j = nI q
/-- some are so, some are not -/
def pb_opn (V : Nat → Int64) (kn tr k a c : Nat) : Bool := pb_any (pb_someL (pb_lft V kn tr) k a c true) 128 && pb_any (pb_someL (pb_lft V kn tr) k a c false) 128
theorem pb_opn_iff (V : Nat → Int64) (kn tr k a c : Nat) : pb_opn V kn tr k a c = true ↔ (∃ q, q < 128 ∧ pb_lft V kn tr q = true ∧ pb_claim k a c q = true) ∧ ∃ q, q < 128 ∧ pb_lft V kn tr q = true ∧ pb_claim k a c q = false := by
  unfold pb_opn pb_someL
  simp only [Bool.and_eq_true, pb_any_iff, beq_iff_eq]
theorem fX4_isOpen_eq {V : Nat → Int64} {L : Nat → Int32} {kn tr c k a b : Nat} (hk : k < 6) (ha : a < 7) (hb : b < 7) (hL : pb_LS V kn tr c L) : fX4_isOpen (nI c) L (nI k) (nI a) (nI b) = some (pb_bI (pb_opn V kn tr k a b)) := by
  obtain ⟨hc, h1, h2⟩ := hL
  unfold fX4_isOpen
  obtain ⟨r, e1, e2⟩ := pb_lp_inv (body := fun y => fX4_isOpen_L3 (nI c) L (nI k) (nI a) (nI b) y) (fun y => ∃ i, 1 ≤ i ∧ i ≤ 129 ∧ (i = 1 ∨ i ≤ c) ∧ y = nI i ∧ ∀ j q0 q, j < i → j < c → q0 < 128 → q < 128 → L 0 = nI q0 → L j = nI q → pb_claim k a b q = pb_claim k a b q0) (fun y => 130 - y.toNatClampNeg) (fun r => Sum.elim (fun q => fX4_isOpen_E3 q) (fun r => some r) r = some (pb_bI (pb_opn V kn tr k a b))) (by
    rintro y ⟨i, hi1, hi2, hi3, rfl, h3⟩
    simp only [fX4_isOpen_L3]
    by_cases e : c ≤ i
    · rw [if_pos (nI_le e (by omega))]
      refine Or.inr ⟨_, rfl, ?_⟩
      have : pb_opn V kn tr k a b = false := by
        cases ho : pb_opn V kn tr k a b with
        | false => rfl
        | true =>
          obtain ⟨⟨q1, hq1, l1, t1⟩, ⟨q2, hq2, l2, t2⟩⟩ := (pb_opn_iff V kn tr k a b).mp ho
          obtain ⟨j1, hj1, e1⟩ := h2 q1 hq1 l1
          obtain ⟨j2, hj2, e2⟩ := h2 q2 hq2 l2
          obtain ⟨q0, hq0, e0, _⟩ := h1 0 (by omega)
          have a1 := h3 j1 q0 q1 (by omega) hj1 hq0 hq1 e0 e1
          have a2 := h3 j2 q0 q2 (by omega) hj2 hq0 hq2 e0 e2
          rw [t1] at a1
          rw [t2, ← a1] at a2
          exact absurd a2 (by decide)
      rw [this]; rfl
    · obtain ⟨q0, hq0, e0, l0⟩ := h1 0 (by omega)
      obtain ⟨q, hq, eq, lq⟩ := h1 i (by omega)
      rw [if_neg (nI_ge (show i < c by omega) (by omega)), if_pos (pb_okT (by omega) (by omega)), nI_clamp (show i < 2 ^ 31 by omega), eq, e0, fX7_claimHolds_eq hk ha hb hq, Option.bind_some, fX7_claimHolds_eq hk ha hb hq0, Option.bind_some, nI_1]
      by_cases hs : pb_claim k a b q = pb_claim k a b q0
      · rw [if_pos (by rw [hs])]
        refine Or.inl ⟨_, rfl, ⟨i + 1, by omega, by omega, Or.inr (by omega), rfl, ?_⟩, ?_⟩
        · intro j q0' q' hj hjc hq0' hq' e0' ej
          by_cases hji : j = i
          · subst hji
            have a1 : q' = q := (nI_eq (by omega) (by omega)).mp (ej.symm.trans eq)
            have a2 : q0' = q0 := ((nI_eq (by omega) (by omega)).mp e0').symm
            rw [a1, a2, hs]
          · exact h3 j q0' q' (by omega) hjc hq0' hq' (e0.trans e0') ej
        · rw [nI_clamp (by omega)]
          omega
      · rw [if_neg (fun h => hs (by
          cases ha : pb_claim k a b q <;> cases hb : pb_claim k a b q0 <;> rw [ha, hb] at h <;> first | rfl | exact absurd h (by decide)))]
        refine Or.inr ⟨_, rfl, ?_⟩
        have : pb_opn V kn tr k a b = true := by
          rw [pb_opn_iff]
          cases hx : pb_claim k a b q with
          | true => exact ⟨⟨q, hq, lq, hx⟩, ⟨q0, hq0, l0, by
              cases hy : pb_claim k a b q0 with
              | false => rfl
              | true => exact absurd (hx.trans hy.symm) hs⟩⟩
          | false => exact ⟨⟨q0, hq0, l0, by
              cases hy : pb_claim k a b q0 with
              | true => rfl
              | false => exact absurd (hx.trans hy.symm) hs⟩, ⟨q, hq, lq, hx⟩⟩
        rw [this]; rfl) pb_FU 1 ⟨1, by omega, by omega, Or.inl rfl, rfl, by
          intro j q0 q hj _ hq0 hq e0 ej
          have : j = 0 := by omega
          subst this
          have : q = q0 := (nI_eq (by omega) (by omega)).mp (ej.symm.trans e0)
          rw [this]⟩ (Nat.lt_of_le_of_lt (Nat.sub_le _ _) (pb_FU_gt (by omega)))
  rw [e1, Option.bind_some]
  exact e2
theorem fX4_narrow_eq {V : Nat → Int64} {L : Nat → Int32} {kn tr c f : Nat} (hf : f < 7) (hL : pb_LS V kn tr c L) : ∃ c' L', fX4_narrow (nI c) L (nI f) (pb_bI (tr.testBit f)) = some (nI c', L') ∧ pb_LS V (kn ||| 2 ^ f) tr c' L' := by
  obtain ⟨hc, h1, h2⟩ := hL
  unfold fX4_narrow
  obtain ⟨r, e1, s, d, L', rfl, hs, g1, g2⟩ := pb_lp_inv (body := fun y => fX4_narrow_L5 (nI c) (nI f) (pb_bI (tr.testBit f)) y.1 y.2.1 y.2.2) (fun y => ∃ s k L', s ≤ k ∧ k ≤ c ∧ y = (nI s, nI k, L') ∧ (∀ j, k ≤ j → j < c → L' j = L j) ∧ (∀ j, j < s → ∃ q, q < 128 ∧ L' j = nI q ∧ pb_lft V kn tr q = true ∧ q.testBit f = tr.testBit f) ∧ ∀ i q, i < k → q < 128 → L i = nI q → q.testBit f = tr.testBit f → ∃ j, j < s ∧ L' j = nI q) (fun y => c - y.2.1.toNatClampNeg) (fun r => ∃ s d L', r = (nI s, d, L') ∧ s ≤ c ∧ (∀ j, j < s → ∃ q, q < 128 ∧ L' j = nI q ∧ pb_lft V kn tr q = true ∧ q.testBit f = tr.testBit f) ∧ ∀ i q, i < c → q < 128 → L i = nI q → q.testBit f = tr.testBit f → ∃ j, j < s ∧ L' j = nI q) (by
    rintro y ⟨s, k, L', hsk, hk, rfl, g0, g1, g2⟩
    simp only [fX4_narrow_L5]
    by_cases e : k = c
    · subst e
      rw [if_pos (nI_le (Nat.le_refl _) (by omega))]
      exact Or.inr ⟨_, rfl, s, _, L', rfl, hsk, g1, g2⟩
    · have hlt : k < c := by omega
      obtain ⟨q, hq, eq, lq⟩ := h1 k hlt
      have ok : pb_ok (nI k) 128 = true := pb_okT (by omega) (by omega)
      have os : pb_ok (nI s) 128 = true := pb_okT (by omega) (by omega)
      have hm : c - (nI (k + 1)).toNatClampNeg < c - (nI k).toNatClampNeg := by
        rw [nI_clamp (by omega), nI_clamp (by omega)]; omega
      have eL : L' k = nI q := (g0 k (Nat.le_refl _) hlt).trans eq
      rw [if_neg (nI_ge hlt (by omega)), if_pos ok, if_pos ok, if_pos os, nI_clamp (show k < 2 ^ 31 by omega), nI_clamp (show s < 2 ^ 31 by omega), eL, fX7_wasSo_eq (by omega) (by omega), Option.bind_some, Option.bind_some, nI_1, nI_1]
      rw [nI_clamp (show k < 2 ^ 31 by omega)] at hm
      left
      by_cases hb : q.testBit f = tr.testBit f
      · rw [if_pos (by rw [hb])]
        refine ⟨_, rfl, ⟨s + 1, k + 1, _, by omega, by omega, rfl, ?_, ?_, ?_⟩, hm⟩
        · intro j hj hjc
          exact (if_neg (by omega)).trans (g0 j (by omega) hjc)
        · intro j hj
          by_cases hjs : j = s
          · subst hjs
            exact ⟨q, hq, if_pos rfl, lq, hb⟩
          · obtain ⟨q', h3, h4, h5⟩ := g1 j (by omega)
            exact ⟨q', h3, (if_neg hjs).trans h4, h5⟩
        · intro i q' hi hq' ei hb'
          by_cases hik : i = k
          · subst hik
            have : q' = q := (nI_eq (by omega) (by omega)).mp (ei.symm.trans eq)
            subst this
            exact ⟨s, by omega, if_pos rfl⟩
          · obtain ⟨j, hj, ej⟩ := g2 i q' (by omega) hq' ei hb'
            exact ⟨j, by omega, (if_neg (by omega)).trans ej⟩
      · rw [if_neg (fun h => hb (by
          cases ha : q.testBit f <;> cases hb : tr.testBit f <;> rw [ha, hb] at h <;> first | rfl | exact absurd h (by decide)))]
        refine ⟨_, rfl, ⟨s, k + 1, L', by omega, by omega, rfl, fun j hj hjc => g0 j (by omega) hjc, g1, ?_⟩, hm⟩
        intro i q' hi hq' ei hb'
        by_cases hik : i = k
        · subst hik
          have : q' = q := (nI_eq (by omega) (by omega)).mp (ei.symm.trans eq)
          subst this
          exact absurd hb' hb
        · exact g2 i q' (by omega) hq' ei hb') pb_FU (0, 0, L) ⟨0, 0, L, by omega, by omega, rfl, fun _ _ _ => rfl, fun j hj => absurd hj (by omega), fun i q hi => absurd hi (by omega)⟩ (Nat.lt_of_le_of_lt (Nat.sub_le _ _) (pb_FU_gt (by omega)))
  rw [e1, Option.bind_some]
  refine ⟨s, L', rfl, by omega, ?_, ?_⟩
  · intro j hj
    obtain ⟨q, hq, eq, lq, hb⟩ := g1 j hj
    refine ⟨q, hq, eq, ?_⟩
    unfold pb_lft at lq ⊢
    rw [Bool.and_eq_true] at lq
    rw [pb_ag_or, lq.1, lq.2, hb, beq_self_eq_true]; rfl
  · intro q hq lq
    unfold pb_lft at lq
    rw [pb_ag_or, Bool.and_eq_true, Bool.and_eq_true, beq_iff_eq] at lq
    obtain ⟨i, hi, ei⟩ := h2 q hq (by unfold pb_lft; rw [lq.1, lq.2.1]; rfl)
    exact g2 i q hi hq ei lq.2.2
/-- how many below n -/
def pb_num (F : Nat → Bool) : Nat → Nat
  | 0 => 0
  | n + 1 => pb_num F n + (if F n = true then 1 else 0)
theorem pb_num_le (F : Nat → Bool) (n : Nat) : pb_num F n ≤ n := by
  induction n with
  | zero => exact Nat.le_refl _
  | succ n ih => rw [pb_num]; split <;> omega
theorem pb_num_mono {F : Nat → Bool} {m n : Nat} (h : m ≤ n) : pb_num F m ≤ pb_num F n := by
  induction n with
  | zero => have : m = 0 := by omega
            subst this; exact Nat.le_refl _
  | succ n ih =>
    by_cases e : m = n + 1
    · subst e; exact Nat.le_refl _
    · have := ih (by omega)
      rw [pb_num]; omega
theorem pb_num_lt {F : Nat → Bool} {m n : Nat} (h : m < n) (hF : F m = true) : pb_num F m < pb_num F n := by
  have h1 : pb_num F (m + 1) ≤ pb_num F n := pb_num_mono h
  rw [pb_num, if_pos hF] at h1
  omega
theorem pb_num_surj {F : Nat → Bool} {n j : Nat} (h : j < pb_num F n) : ∃ q, q < n ∧ F q = true ∧ pb_num F q = j := by
  induction n with
  | zero => exact absurd h (by show ¬ j < 0; omega)
  | succ n ih =>
    by_cases hj : j < pb_num F n
    · obtain ⟨q, h1, h2⟩ := ih hj
      exact ⟨q, by omega, h2⟩
    · rw [pb_num] at h
      by_cases hF : F n = true
      · rw [if_pos hF] at h
        exact ⟨n, by omega, hF, by omega⟩
      · rw [if_neg hF] at h; omega
def pb_ft (V : Nat → Int64) (q : Nat) : Bool := !decide (V q ≤ 0)
theorem fX2_listFitting_eq {W V : Nat → Int64} (L : Nat → Int32) (hV : ∀ q, q < 128 → W q = V q) : ∃ L', fX2_listFitting 128 W L = some (nI (pb_num (pb_ft V) 128), L') ∧ ∀ q, q < 128 → pb_ft V q = true → L' (pb_num (pb_ft V) q) = nI q := by
  unfold fX2_listFitting
  obtain ⟨r, e1, d, L', rfl, h⟩ := pb_lp_inv (body := fun y => fX2_listFitting_L4 128 W y.1 y.2.1 y.2.2) (fun y => ∃ k L', k ≤ 128 ∧ y = (nI (pb_num (pb_ft V) k), nI k, L') ∧ ∀ q, q < k → pb_ft V q = true → L' (pb_num (pb_ft V) q) = nI q) (fun y => 128 - y.2.1.toNatClampNeg) (fun r => ∃ d L', r = (nI (pb_num (pb_ft V) 128), d, L') ∧ ∀ q, q < 128 → pb_ft V q = true → L' (pb_num (pb_ft V) q) = nI q) (by
    rintro y ⟨k, L', hk, rfl, h⟩
    simp only [fX2_listFitting_L4]
    by_cases e : k = 128
    · subst e
      rw [if_pos (show (128 : Int32) ≤ nI 128 from nI_le (Nat.le_refl 128) (by omega))]
      exact Or.inr ⟨_, rfl, _, L', rfl, h⟩
    · have h0 : ¬ (128 : Int32) ≤ nI k := nI_ge (b := 128) (show k < 128 by omega) (by decide)
      have hn := pb_num_le (pb_ft V) k
      have h2 : ¬ Int32.ofNat 128 ≤ nI (pb_num (pb_ft V) k) := nI_ge (b := 128) (show pb_num (pb_ft V) k < 128 by omega) (by decide)
      have hm : 128 - (nI (k + 1)).toNatClampNeg < 128 - (nI k).toNatClampNeg := by
        rw [nI_clamp (by omega), nI_clamp (by omega)]; omega
      have em : pb_num (pb_ft V) (k + 1) = pb_num (pb_ft V) k + (if pb_ft V k = true then 1 else 0) := rfl
      rw [if_neg h0, if_pos (pb_okT (show k < 128 by omega) (by omega)), if_neg h2, if_pos (pb_okT (show pb_num (pb_ft V) k < 128 by omega) (by omega)), nI_clamp (show k < 2 ^ 31 by omega), nI_clamp (show pb_num (pb_ft V) k < 2 ^ 31 by omega), hV k (by omega), Option.bind_some, nI_1, nI_1]
      rw [nI_clamp (show k < 2 ^ 31 by omega)] at hm
      left
      by_cases hv : V k ≤ 0
      · have hF : pb_ft V k = false := by unfold pb_ft; rw [decide_eq_true hv]; rfl
        rw [hF, if_neg (by decide), Nat.add_zero (pb_num (pb_ft V) k)] at em
        rw [if_pos hv, ← em]
        refine ⟨_, rfl, ⟨k + 1, L', by omega, rfl, fun q hq hFq => ?_⟩, hm⟩
        by_cases hqk : q = k
        · subst hqk; rw [hF] at hFq; exact absurd hFq (by decide)
        · exact h q (by omega) hFq
      · have hF : pb_ft V k = true := by unfold pb_ft; rw [decide_eq_false hv]; rfl
        rw [hF, if_pos rfl] at em
        rw [if_neg hv, ← em]
        refine ⟨_, rfl, ⟨k + 1, _, by omega, rfl, fun q hq hFq => ?_⟩, hm⟩
        by_cases hqk : q = k
        · subst hqk; exact if_pos rfl
        · have := pb_num_lt (show q < k by omega) hFq
          exact (if_neg (by omega)).trans (h q (by omega) hFq)) pb_FU (0, 0, L) ⟨0, L, by omega, rfl, fun q hq => absurd hq (by omega)⟩ (Nat.lt_of_le_of_lt (Nat.sub_le _ _) (pb_FU_gt (by omega)))
  rw [e1, Option.bind_some]
  exact ⟨L', rfl, h⟩
theorem fX8_days_count {W V : Nat → Int64} {t : Int64} {x0 : Int32} (hV : ∀ q, q < 128 → W q = V q) : pb_lp (fun y => fX8_days_L58 (x0, t, W) y.1 y.2) pb_FU (0, 0) = some (nI (pb_num (pb_ft V) 128), nI 128) := by
  rw [show ((0 : Int32), (0 : Int32)) = ((fun k => (nI (pb_num (pb_ft V) k), nI k)) 0 : Int32 × Int32) from rfl]
  rw [pb_lp_iter (fun k => (nI (pb_num (pb_ft V) k), nI k)) 128 (nI (pb_num (pb_ft V) 128), nI 128) ?_ ?_ pb_FU (pb_FU_gt (by omega))]
  · intro k hk
    have h0 : ¬ (128 : Int32) ≤ nI k := nI_ge (b := 128) hk (by decide)
    have em : pb_num (pb_ft V) (k + 1) = pb_num (pb_ft V) k + (if pb_ft V k = true then 1 else 0) := rfl
    simp only [fX8_days_L58]
    rw [if_neg h0, if_pos (pb_okT (by omega) (by omega)), nI_clamp (by omega), hV k hk, Option.bind_some, Option.bind_some, nI_1, nI_1, Int32.add_zero]
    by_cases hv : V k ≤ 0
    · have hF : pb_ft V k = false := by unfold pb_ft; rw [decide_eq_true hv]; rfl
      rw [hF, if_neg (by decide), Nat.add_zero (pb_num (pb_ft V) k)] at em
      rw [if_pos hv, em]
    · have hF : pb_ft V k = true := by unfold pb_ft; rw [decide_eq_false hv]; rfl
      rw [hF, if_pos rfl] at em
      rw [if_neg hv, em]
  · simp only [fX8_days_L58]
    rw [if_pos (show (128 : Int32) ≤ nI 128 from nI_le (Nat.le_refl 128) (by omega))]
theorem fX8_pastAt_eq {W V : Nat → Int64} {r : Nat} (hV : ∀ q, q < 128 → W q = V q) (hN : ∀ q, pb_nn (V q) (10 ^ 10)) (hr : r < pb_num (pb_ft V) 128) : ∃ q, q < 128 ∧ pb_ft V q = true ∧ pb_num (pb_ft V) q = r ∧ fX8_pastAt W (nI r) = some (nI q) := by
  have hr128 := pb_num_le (pb_ft V) 128
  unfold fX8_pastAt
  obtain ⟨s, e1, q, d, rfl, hq, hF, hn⟩ := pb_lp_inv (body := fun y => fX8_pastAt_L4 W y.1 y.2) (fun y => ∃ k, k < 128 ∧ pb_num (pb_ft V) k ≤ r ∧ y = (nI (r - pb_num (pb_ft V) k), nI k)) (fun y => 128 - y.2.toNatClampNeg) (fun s => ∃ q d, s = (d, nI q) ∧ q < 128 ∧ pb_ft V q = true ∧ pb_num (pb_ft V) q = r) (by
    rintro y ⟨k, hk, hle, rfl⟩
    have ok : pb_ok (nI k) 128 = true := pb_okT (by omega) (by omega)
    have em : pb_num (pb_ft V) (k + 1) = pb_num (pb_ft V) k + (if pb_ft V k = true then 1 else 0) := rfl
    have hm : 128 - (nI (k + 1)).toNatClampNeg < 128 - (nI k).toNatClampNeg := by
      rw [nI_clamp (by omega), nI_clamp (by omega)]; omega
    simp only [fX8_pastAt_L4]
    rw [if_pos ok, nI_clamp (show k < 2 ^ 31 by omega), hV k hk]
    rw [nI_clamp (show k < 2 ^ 31 by omega)] at hm
    unfold fX8_pastAt_J19
    rw [if_pos ok, nI_clamp (show k < 2 ^ 31 by omega), hV k hk, nI_1]
    by_cases hv : V k ≤ 0
    · have hF : pb_ft V k = false := by unfold pb_ft; rw [decide_eq_true hv]; rfl
      rw [hF, if_neg (by decide), Nat.add_zero (pb_num (pb_ft V) k)] at em
      have hk1 : k + 1 ≠ 128 := fun e => by rw [e] at em; omega
      left
      rw [if_pos (pb_nn_le0 (hN k) (by omega) hv), Option.bind_some, if_pos hv, Int32.sub_zero]
      exact ⟨_, rfl, ⟨k + 1, by omega, by omega, by rw [em]⟩, hm⟩
    · have hF : pb_ft V k = true := by unfold pb_ft; rw [decide_eq_false hv]; rfl
      rw [hF, if_pos rfl] at em
      have hv0 : ¬ V k = 0 := fun e => hv (by rw [e]; exact Int64.le_refl _)
      rw [if_neg hv0]
      by_cases hz : r - pb_num (pb_ft V) k = 0
      · rw [hz, if_pos (show nI 0 ≤ 0 by decide), Option.bind_some]
        exact Or.inr ⟨_, rfl, k, _, rfl, hk, hF, by omega⟩
      · have hk1 : k + 1 ≠ 128 := fun e => by rw [e] at em; omega
        left
        rw [if_neg (nI_nle (by omega) (by omega)), Option.bind_some, if_neg hv, Option.bind_some]
        refine ⟨_, rfl, ⟨k + 1, by omega, by omega, ?_⟩, hm⟩
        have : r - pb_num (pb_ft V) k = (r - pb_num (pb_ft V) (k + 1)) + 1 := by omega
        rw [this, nI_pred]) pb_FU (nI r, 0) ⟨0, by omega, Nat.zero_le _, rfl⟩ (Nat.lt_of_le_of_lt (Nat.sub_le _ _) (pb_FU_gt (by omega)))
  rw [e1, Option.bind_some]
  exact ⟨q, hq, hF, hn, rfl⟩
def pb_lcg (X : Nat) : Nat := (X * 1103515245 + 12345) % 2147483648
theorem pb_lcg_lt (X : Nat) : pb_lcg X < 2147483648 := Nat.mod_lt _ (by decide)
theorem pb_lcg_eq {X : Nat} (hX : X < 2147483648) : (((Int64.ofNat X * 1103515245) + 12345) - ((Int64.ofNat X * 1103515245) + 12345) / 2147483648 * 2147483648) = Int64.ofNat (pb_lcg X) := by
  have e : Int64.ofNat X * 1103515245 + 12345 = Int64.ofNat (X * 1103515245 + 12345) := by
    rw [show (1103515245 : Int64) = Int64.ofNat 1103515245 from rfl, show (12345 : Int64) = Int64.ofNat 12345 from rfl, pb_oN_mul, pb_oN_add]
  rw [e, show (2147483648 : Int64) = Int64.ofNat 2147483648 from rfl, pb_oN_mod (by omega) (by omega)]
  rfl
def pb_dr (X s : Nat) : Nat := pb_lcg X / 65536 % s
theorem pb_draw_eq {X s : Nat} (h0 : 0 < s) (hs : s ≤ 128) : Int64.toInt32 ((Int64.ofNat (pb_lcg X) / 65536) - (Int64.ofNat (pb_lcg X) / 65536) / (Int32.toInt64 (nI s)) * (Int32.toInt64 (nI s))) = nI (pb_dr X s) := by
  have h1 := pb_lcg_lt X
  have h2 : pb_lcg X / 65536 ≤ pb_lcg X := Nat.div_le_self _ _
  have e2 : (nI s).toInt64 = Int64.ofNat s := nI_l (by omega)
  rw [show (65536 : Int64) = Int64.ofNat 65536 from rfl, pb_oN_div (by omega) (by omega), e2, pb_oN_mod (by omega) (by omega)]
  exact lN_i _
theorem fX4_draw_eq {X s : Nat} (hX : X < 2147483648) (h0 : 0 < s) (hs : s ≤ 128) : fX4_draw (Int64.ofNat X) (nI s) = some (nI (pb_dr X s), Int64.ofNat (pb_lcg X)) := by
  have e2 : (nI s).toInt64 = Int64.ofNat s := nI_l (by omega)
  have hz : ¬ (nI s).toInt64 = 0 := by rw [e2]; exact fun e => absurd ((pb_oN_eq0 (by omega)).mp e) (by omega)
  unfold fX4_draw
  rw [pb_lcg_eq hX, Option.bind_some, if_pos (show (1 : Int32) ≤ nI s from nI_le (a := 1) h0 (by omega)), if_pos hz, pb_draw_eq h0 hs]
theorem fX8_draw_eq {X s : Nat} (hX : X < 2147483648) (h0 : 0 < s) (hs : s ≤ 128) : fX8_draw (Int64.ofNat X) (nI s) = some (nI (pb_dr X s), Int64.ofNat (pb_lcg X)) := by
  have e2 : (nI s).toInt64 = Int64.ofNat s := nI_l (by omega)
  have hz : ¬ (nI s).toInt64 = 0 := by rw [e2]; exact fun e => absurd ((pb_oN_eq0 (by omega)).mp e) (by omega)
  unfold fX8_draw
  rw [pb_lcg_eq hX, Option.bind_some, if_pos hz, pb_draw_eq h0 hs]
