/-! ===== two loops side by side; possible, settled ===== -/
theorem pb_lp_sim {σ τ ρ π : Type} {b1 : σ → Option (σ ⊕ ρ)} {b2 : τ → Option (τ ⊕ π)} (R : Nat → σ → τ → Prop) (Q : ρ → π → Prop) (h : ∀ n x y, R n x y → (∃ x' y' m, m < n ∧ b1 x = some (Sum.inl x') ∧ b2 y = some (Sum.inl y') ∧ R m x' y') ∨ ∃ r s, b1 x = some (Sum.inr r) ∧ b2 y = some (Sum.inr s) ∧ Q r s) : ∀ F n x y, R n x y → n < F → ∃ r s, pb_lp b1 F x = some r ∧ pb_lp b2 F y = some s ∧ Q r s := by
  intro F
  induction F with
  | zero => intro n x y _ hF; omega
  | succ F ih =>
    intro n x y hR hF
    rcases h n x y hR with ⟨x', y', m, hm, e1, e2, hR'⟩ | ⟨r, s, e1, e2, hQ⟩
    · rw [pb_lp, pb_lp, e1, e2]
      exact ih m x' y' hR' (by omega)
    · rw [pb_lp, pb_lp, e1, e2]
      exact ⟨r, s, rfl, rfl, hQ⟩
theorem pb_nI_m1 {c : Nat} (h : c < 2 ^ 31) : ¬ nI c = -1 := by
  intro e
  have h1 : (0 : Int32) ≤ nI c := nI_le (Nat.zero_le c) (by omega)
  rw [e] at h1
  exact absurd h1 (by decide)
theorem fX_possible_all {w lc O ref : Nat → Int32} {nl : Nat} (w0 : w 0 = nI nl) (hl : nl ≤ 8) (lo : pb_lawsOK lc nl) (le : pb_eqv w (0 + 5) lc (3 * nl)) (hO : ∀ q, q < 128 → O q = pb_bI (pb_poss lc nl q)) : ∃ c, fX2_howManyPossible O = some c ∧ fX8_possible w ref (-1) = some (c, ref) := by
  obtain ⟨r, s, e1, e2, v, hQ⟩ := pb_lp_sim (b1 := fun y => fX2_howManyPossible_L4 O y.1 y.2) (b2 := fun y => fX8_possible_L16 w ref (-1) y.1 y.2) (fun n x y => ∃ c k, c ≤ k ∧ k + n = 128 ∧ x = (nI c, nI k) ∧ y = (nI c, nI k)) (fun r s => ∃ v, s = Sum.inl (r.1, v)) (by
    rintro n x y ⟨c, k, hc, hk, rfl, rfl⟩
    simp only [fX2_howManyPossible_L4, fX8_possible_L16]
    by_cases hn : n = 0
    · have : k = 128 := by omega
      subst this
      rw [if_pos (show (128 : Int32) ≤ nI 128 from nI_le (Nat.le_refl 128) (by omega)), if_pos (show (128 : Int32) ≤ nI 128 from nI_le (Nat.le_refl 128) (by omega))]
      exact Or.inr ⟨_, _, rfl, rfl, _, rfl⟩
    · have h0 : ¬ (128 : Int32) ≤ nI k := nI_ge (b := 128) (show k < 128 by omega) (by decide)
      rw [if_neg h0, if_neg h0, if_pos (pb_okT (by omega) (by omega)), nI_clamp (by omega), hO k (by omega), fX8_isPossible_eq w0 hl lo le (by omega), Option.bind_some, nI_1, nI_1]
      left
      cases pb_poss lc nl k with
      | true =>
        rw [pb_bI_t, if_neg pb_ne10, if_neg pb_ne10, if_neg (pb_nI_m1 (by omega))]
        exact ⟨_, _, n - 1, by omega, rfl, rfl, c + 1, k + 1, by omega, by omega, rfl, rfl⟩
      | false =>
        rw [pb_bI_f, if_pos rfl, if_pos rfl]
        exact ⟨_, _, n - 1, by omega, rfl, rfl, c, k + 1, by omega, by omega, rfl, rfl⟩) pb_FU 128 (0, 0) (0, 0) ⟨0, 0, by omega, by omega, rfl, rfl⟩ (pb_FU_gt (by omega))
  unfold fX2_howManyPossible fX8_possible
  rw [e1, e2, hQ, if_pos (show (-1 : Int32) ≤ -1 by decide)]
  refine ⟨_, rfl, ?_⟩
  show fX8_possible_E16 ref (-1) r.1 v = _
  unfold fX8_possible_E16
  rw [if_pos rfl]
theorem fX_possible_at {w lc O ref : Nat → Int32} {nl : Nat} {p : Int32} (w0 : w 0 = nI nl) (hl : nl ≤ 8) (lo : pb_lawsOK lc nl) (le : pb_eqv w (0 + 5) lc (3 * nl)) (hO : ∀ q, q < 128 → O q = pb_bI (pb_poss lc nl q)) (hp : -1 ≤ p) (hp1 : ¬ p = -1) : ∃ c, fX2_possibleAt O p = some c ∧ fX8_possible w ref p = some (if c = -1 then -5 else c, ref) := by
  obtain ⟨r, s, e1, e2, hQ⟩ := pb_lp_sim (b1 := fun y => fX2_possibleAt_L4 O p y.1 y.2) (b2 := fun y => fX8_possible_L16 w ref p y.1 y.2) (fun n x y => ∃ c k, c ≤ k ∧ k + n = 128 ∧ x = (nI c, nI k) ∧ y = (nI c, nI k)) (fun r s => (∃ u v, r = Sum.inl u ∧ s = Sum.inl v) ∨ ∃ k, k < 128 ∧ r = Sum.inr (nI k) ∧ s = Sum.inr (nI k, ref)) (by
    rintro n x y ⟨c, k, hc, hk, rfl, rfl⟩
    simp only [fX2_possibleAt_L4, fX8_possible_L16]
    by_cases hn : n = 0
    · have : k = 128 := by omega
      subst this
      rw [if_pos (show (128 : Int32) ≤ nI 128 from nI_le (Nat.le_refl 128) (by omega)), if_pos (show (128 : Int32) ≤ nI 128 from nI_le (Nat.le_refl 128) (by omega))]
      exact Or.inr ⟨_, _, rfl, rfl, Or.inl ⟨_, _, rfl, rfl⟩⟩
    · have h0 : ¬ (128 : Int32) ≤ nI k := nI_ge (b := 128) (show k < 128 by omega) (by decide)
      rw [if_neg h0, if_neg h0, if_pos (pb_okT (by omega) (by omega)), nI_clamp (by omega), hO k (by omega), fX8_isPossible_eq w0 hl lo le (by omega), Option.bind_some, nI_1, nI_1]
      cases pb_poss lc nl k with
      | true =>
        rw [pb_bI_t, if_neg pb_ne10, if_neg pb_ne10]
        by_cases hcp : nI c = p
        · rw [if_pos hcp, if_pos hcp]
          exact Or.inr ⟨_, _, rfl, rfl, Or.inr ⟨k, by omega, rfl, rfl⟩⟩
        · rw [if_neg hcp, if_neg hcp]
          exact Or.inl ⟨_, _, n - 1, by omega, rfl, rfl, c + 1, k + 1, by omega, by omega, rfl, rfl⟩
      | false =>
        rw [pb_bI_f, if_pos rfl, if_pos rfl]
        exact Or.inl ⟨_, _, n - 1, by omega, rfl, rfl, c, k + 1, by omega, by omega, rfl, rfl⟩) pb_FU 128 (0, 0) (0, 0) ⟨0, 0, by omega, by omega, rfl, rfl⟩ (pb_FU_gt (by omega))
  unfold fX2_possibleAt fX8_possible
  rw [e1, e2, if_pos hp]
  rcases hQ with ⟨u, v, rfl, rfl⟩ | ⟨k, hk, rfl, rfl⟩
  · exact ⟨_, rfl, (if_neg hp1).trans rfl⟩
  · refine ⟨nI k, rfl, ?_⟩
    rw [if_neg (pb_nI_m1 (by omega))]
    rfl
def pb_any (P : Nat → Bool) : Nat → Bool
  | 0 => false
  | n + 1 => pb_any P n || P n
theorem pb_any_iff (P : Nat → Bool) (n : Nat) : pb_any P n = true ↔ ∃ k, k < n ∧ P k = true := by
  induction n with
  | zero => exact ⟨fun h => absurd (show false = true from h) (by decide), fun ⟨k, h, _⟩ => absurd h (by omega)⟩
  | succ n ih =>
    rw [pb_any, Bool.or_eq_true, ih]
    constructor
    · rintro (⟨k, h1, h2⟩ | h)
      · exact ⟨k, by omega, h2⟩
      · exact ⟨n, by omega, h⟩
    · rintro ⟨k, h1, h2⟩
      by_cases h : k = n
      · subst h; exact Or.inr h2
      · exact Or.inl ⟨k, by omega, h2⟩
/-- some past of weight where the claim is so (b = true) or not so -/
def pb_someW (W : Nat → Int64) (k a c : Nat) (b : Bool) (q : Nat) : Bool := !decide (W q ≤ 0) && (pb_claim k a c q == b)
theorem fX2_verdict_eq {W : Nat → Int64} {k a c : Nat} (hk : k < 6) (ha : a < 7) (hc : c < 7) : fX2_verdict W (nI k) (nI a) (nI c) = some (if pb_any (pb_someW W k a c true) 128 = true then (if pb_any (pb_someW W k a c false) 128 = true then 2 else 1) else if pb_any (pb_someW W k a c false) 128 = true then 0 else -1) := by
  unfold fX2_verdict
  generalize hP : pb_someW W k a c true = P
  generalize hQ : pb_someW W k a c false = Q
  rw [show ((0 : Int32), (0 : Int32), (0 : Int32)) = ((fun q => (pb_bI (pb_any P q), pb_bI (pb_any Q q), nI q)) 0 : Int32 × Int32 × Int32) from rfl]
  rw [pb_lp_iter (fun q => (pb_bI (pb_any P q), pb_bI (pb_any Q q), nI q)) 128 (pb_bI (pb_any P 128), pb_bI (pb_any Q 128), nI 128) ?_ ?_ pb_FU (pb_FU_gt (by omega))]
  · rw [Option.bind_some]
    cases pb_any P 128 <;> cases pb_any Q 128 <;> rfl
  · intro q hq
    have h0 : ¬ (128 : Int32) ≤ nI q := nI_ge (b := 128) hq (by decide)
    simp only [fX2_verdict_L9, pb_any]
    rw [if_neg h0, if_pos (pb_okT (by omega) (by omega)), nI_clamp (by omega), fX7_claimHolds_eq hk ha hc (by omega), nI_1]
    have eP : P q = (!decide (W q ≤ 0) && (pb_claim k a c q == true)) := by rw [← hP]; rfl
    have eQ : Q q = (!decide (W q ≤ 0) && (pb_claim k a c q == false)) := by rw [← hQ]; rfl
    rw [eP, eQ]
    by_cases hw : W q ≤ 0
    · rw [if_pos hw, decide_eq_true hw]
      cases pb_any P q <;> cases pb_any Q q <;> rfl
    · rw [if_neg hw, decide_eq_false hw, Option.bind_some]
      unfold fX2_verdict_J54
      rw [nI_1]
      cases pb_any P q <;> cases pb_any Q q <;> cases pb_claim k a c q <;> rfl
  · simp only [fX2_verdict_L9]
    rw [if_pos (show (128 : Int32) ≤ nI 128 from nI_le (Nat.le_refl 128) (by omega))]
theorem fX8_isLeft_eq {W : Nat → Int64} {t : Int32} {q : Nat} (hq : q < 128) : fX8_isLeft 0 t W (nI q) = some (pb_bI (!decide (W q ≤ 0))) := by
  unfold fX8_isLeft
  rw [if_pos (pb_okT (by omega) (by omega)), nI_clamp (by omega), Int32.and_zero, if_pos rfl]
  by_cases h : W q ≤ 0
  · rw [if_pos h, decide_eq_true h]; rfl
  · rw [if_neg h, decide_eq_false h]; rfl
theorem fX8_settledNow_eq {W : Nat → Int64} {t : Int32} {k a c : Nat} (hk : k < 6) (ha : a < 7) (hc : c < 7) : fX8_settledNow 0 t W (nI k) (nI a) (nI c) = some (if pb_any (pb_someW W k a c true) 128 = true then (if pb_any (pb_someW W k a c false) 128 = true then 2 else 1) else if pb_any (pb_someW W k a c false) 128 = true then 0 else -1) := by
  unfold fX8_settledNow
  generalize hP : pb_someW W k a c true = P
  generalize hQ : pb_someW W k a c false = Q
  rw [show ((0 : Int32), (0 : Int32), (0 : Int32)) = ((fun q => (pb_bI (pb_any P q), pb_bI (pb_any Q q), nI q)) 0 : Int32 × Int32 × Int32) from rfl]
  rw [pb_lp_iter (fun q => (pb_bI (pb_any P q), pb_bI (pb_any Q q), nI q)) 128 (pb_bI (pb_any P 128), pb_bI (pb_any Q 128), nI 128) ?_ ?_ pb_FU (pb_FU_gt (by omega))]
  · rw [Option.bind_some]
    cases pb_any P 128 <;> cases pb_any Q 128 <;> rfl
  · intro q hq
    have h0 : ¬ (128 : Int32) ≤ nI q := nI_ge (b := 128) hq (by decide)
    simp only [fX8_settledNow_L9, pb_any, fX8_settledNow_J47]
    rw [if_neg h0, fX8_isLeft_eq hq, fX8_isSo_eq hk ha hc (by omega), nI_1]
    have eP : P q = (!decide (W q ≤ 0) && (pb_claim k a c q == true)) := by rw [← hP]; rfl
    have eQ : Q q = (!decide (W q ≤ 0) && (pb_claim k a c q == false)) := by rw [← hQ]; rfl
    rw [eP, eQ]
    generalize decide (W q ≤ 0) = d
    cases d <;> cases pb_any P q <;> cases pb_any Q q <;> cases pb_claim k a c q <;> rfl
  · simp only [fX8_settledNow_L9]
    rw [if_pos (show (128 : Int32) ≤ nI 128 from nI_le (Nat.le_refl 128) (by omega))]
theorem pb_any_congr {P Q : Nat → Bool} {n : Nat} (h : ∀ k, k < n → P k = Q k) : pb_any P n = pb_any Q n := by
  induction n with
  | zero => rfl
  | succ n ih => rw [pb_any, pb_any, ih (fun k hk => h k (by omega)), h n (by omega)]
