/-! ===== bounds of what pasts weigh ===== -/
theorem pb_oN_add (a b : Nat) : Int64.ofNat a + Int64.ofNat b = Int64.ofNat (a + b) := (Int64.ofNat_add a b).symm
theorem pb_oN_mul (a b : Nat) : Int64.ofNat a * Int64.ofNat b = Int64.ofNat (a * b) := (Int64.ofNat_mul a b).symm
theorem pb_oN_toInt {n : Nat} (h : n < 2 ^ 63) : (Int64.ofNat n).toInt = (n : Int) := Int64.toInt_ofNat_of_lt h
theorem pb_oN_le {a b : Nat} (ha : a < 2 ^ 63) (hb : b < 2 ^ 63) : Int64.ofNat a ≤ Int64.ofNat b ↔ a ≤ b := by
  rw [Int64.le_iff_toInt_le, pb_oN_toInt ha, pb_oN_toInt hb]
  omega
def pb_nn (x : Int64) (B : Nat) : Prop := ∃ n : Nat, n ≤ B ∧ x = Int64.ofNat n
theorem pb_nn_0 {x : Int64} {n : Nat} (e : x = Int64.ofNat n) (h : n < 2 ^ 63) : x ≤ 0 ↔ n = 0 := by
  rw [e]
  have := pb_oN_le (b := 0) h (by omega)
  rw [show (0 : Int64) = Int64.ofNat 0 from rfl, this]
  omega
theorem pb_shr_nn : ∀ r : Fin 11, (nI r.val).toInt64 = Int64.ofNat r.val ∧ (10 - nI r.val).toInt64 = Int64.ofNat (10 - r.val) := by decide
theorem pb_share_nn {fc : Nat → Int32} {nf q k : Nat} (ho : pb_findsOK fc nf) (hk : k < nf) : pb_nn (pb_share fc q k) 10 := by
  obtain ⟨_, _, ⟨r, hr, er⟩⟩ := ho k hk
  unfold pb_share pb_shr
  rw [er]
  have := pb_shr_nn ⟨r, hr⟩
  by_cases h : q.testBit (fc (3 * k)).toNatClampNeg = decide (fc (3 * k + 1) = 1)
  · rw [if_pos h]; exact ⟨r, by omega, this.1⟩
  · rw [if_neg h]; exact ⟨10 - r, by omega, this.2⟩
theorem pb_prod_nn {g : Nat → Int64} {n : Nat} (h : ∀ k, k < n → pb_nn (g k) 10) : pb_nn (pb_prod g n) (10 ^ n) := by
  induction n with
  | zero => exact ⟨1, by omega, rfl⟩
  | succ n ih =>
    obtain ⟨a, ha, ea⟩ := ih (fun k hk => h k (by omega))
    obtain ⟨b, hb, eb⟩ := h n (by omega)
    refine ⟨a * b, ?_, ?_⟩
    · rw [Nat.pow_succ]; exact Nat.mul_le_mul ha hb
    · rw [pb_prod, ea, eb, pb_oN_mul]
theorem pb_wt_nn {lc fc : Nat → Int32} {nl nf : Nat} (hn : nf ≤ 10) (fo : pb_findsOK fc nf) (q : Nat) : pb_nn (pb_wt lc nl fc nf q) (10 ^ 10) := by
  unfold pb_wt
  by_cases h : pb_poss lc nl q = true
  · rw [if_pos h]
    obtain ⟨a, ha, ea⟩ := pb_prod_nn (fun k hk => pb_share_nn (q := q) fo hk)
    exact ⟨a, Nat.le_trans ha (Nat.pow_le_pow_right (by omega) hn), ea⟩
  · rw [if_neg h]
    exact ⟨0, by omega, rfl⟩
theorem pb_sum_nn {g : Nat → Int64} {n B : Nat} (h : ∀ k, k < n → pb_nn (g k) B) : ∃ s, s ≤ n * B ∧ pb_sum g n = Int64.ofNat s ∧ (n * B < 2 ^ 63 → (s = 0 ↔ ∀ k, k < n → g k ≤ 0)) := by
  induction n with
  | zero => exact ⟨0, by omega, rfl, fun _ => ⟨fun _ k hk => absurd hk (by omega), fun _ => rfl⟩⟩
  | succ n ih =>
    obtain ⟨s, hs, es, hz⟩ := ih (fun k hk => h k (by omega))
    obtain ⟨b, hb, eb⟩ := h n (by omega)
    refine ⟨s + b, ?_, ?_, ?_⟩
    · rw [Nat.succ_mul]; omega
    · rw [pb_sum, es, eb, pb_oN_add]
    · intro hB
      rw [Nat.succ_mul] at hB
      have hz := hz (by omega)
      have hb0 := pb_nn_0 eb (by omega)
      constructor
      · intro h0 k hk
        by_cases hkn : k = n
        · subst hkn; exact hb0.mpr (by omega)
        · exact hz.mp (by omega) k (by omega)
      · intro h0
        have := hz.mpr (fun k hk => h0 k (by omega))
        have := hb0.mp (h0 n (by omega))
        omega
theorem pb_tot {lc fc : Nat → Int32} {nl nf : Nat} (hn : nf ≤ 10) (fo : pb_findsOK fc nf) : pb_sum (pb_wt lc nl fc nf) 128 ≤ 0 ↔ ∀ q, q < 128 → pb_wt lc nl fc nf q ≤ 0 := by
  obtain ⟨s, hs, es, hz⟩ := pb_sum_nn (n := 128) (fun k _ => pb_wt_nn (lc := lc) (nl := nl) hn fo k)
  rw [← hz (by omega)]
  exact pb_nn_0 es (by omega)
theorem fX8_fits_eq {w lc fc : Nat → Int32} {nl nf : Nat} (al : Int64) (A : Nat → Int64) (w0 : w 0 = nI nl) (w1 : w 1 = nI nf) (hl : nl ≤ 8) (hn : nf ≤ 10) (lo : pb_lawsOK lc nl) (le : pb_eqv w (0 + 5) lc (3 * nl)) (fo : pb_findsOK fc nf) (fe : pb_eqv w (0 + 29) fc (3 * nf)) : fX8_fits al w A = some (pb_bI (!decide (pb_sum (pb_wt lc nl fc nf) 128 ≤ 0)), pb_sum (pb_wt lc nl fc nf) 128, pb_fill (pb_wt lc nl fc nf) A 128) := by
  have e2 : fX8_weighAll al w A 0 = some (pb_sum (pb_wt lc nl fc nf) 128, pb_fill (pb_wt lc nl fc nf) A 128) := by
    have := fX8_weighAll_eq (s := 0) al A w0 w1 hl hn lo le fo fe (by omega)
    rw [show pb_wtS lc nl fc nf 0 = pb_wt lc nl fc nf from funext (pb_wtS_0 _ _ _ _)] at this
    exact this
  unfold fX8_fits
  rw [e2, Option.bind_some]
  simp only []
  by_cases h : pb_sum (pb_wt lc nl fc nf) 128 ≤ 0
  · rw [if_pos h, decide_eq_true h]; rfl
  · rw [if_neg h, decide_eq_false h]; rfl
/-- the first of the greatest -/
def pb_am (V : Nat → Int64) : Nat → Nat
  | 0 => 0
  | n + 1 => if V n ≤ V (pb_am V n) then pb_am V n else n
theorem pb_am_lt (V : Nat → Int64) (n : Nat) (h : 0 < n) : pb_am V n < n := by
  induction n with
  | zero => omega
  | succ n ih =>
    rw [pb_am]
    by_cases h1 : V n ≤ V (pb_am V n)
    · rw [if_pos h1]
      by_cases h0 : n = 0
      · subst h0; exact Nat.lt_succ_self 0
      · have := ih (by omega); omega
    · rw [if_neg h1]; omega
theorem pb_am_ge (V : Nat → Int64) (n : Nat) : ∀ k, k < n → V k ≤ V (pb_am V n) := by
  induction n with
  | zero => intro k hk; omega
  | succ n ih =>
    intro k hk
    rw [pb_am]
    by_cases h1 : V n ≤ V (pb_am V n)
    · rw [if_pos h1]
      by_cases h : k = n
      · subst h; exact h1
      · exact ih k (by omega)
    · rw [if_neg h1]
      by_cases h : k = n
      · subst h; exact Int64.le_refl _
      · exact Int64.le_trans (ih k (by omega)) (Int64.le_of_lt (Int64.not_le.mp h1))
theorem fX2_mostWeight_eq {W V : Nat → Int64} (hV : ∀ q, q < 128 → W q = V q) : fX2_mostWeight W = some (if V (pb_am V 128) ≤ 0 then -1 else nI (pb_am V 128)) := by
  unfold fX2_mostWeight
  rw [show ((-1 : Int32), (0 : Int64), (0 : Int32)) = ((fun k => if k = 0 ∨ V (pb_am V k) ≤ 0 then (-1, 0, nI k) else (nI (pb_am V k), V (pb_am V k), nI k)) 0 : Int32 × Int64 × Int32) from (if_pos (Or.inl rfl)).symm]
  rw [pb_lp_iter (fun k => if k = 0 ∨ V (pb_am V k) ≤ 0 then (-1, 0, nI k) else (nI (pb_am V k), V (pb_am V k), nI k)) 128 (if V (pb_am V 128) ≤ 0 then (-1, 0, nI 128) else (nI (pb_am V 128), V (pb_am V 128), nI 128)) ?_ ?_ pb_FU (pb_FU_gt (by omega))]
  · rw [Option.bind_some]
    by_cases h : V (pb_am V 128) ≤ 0
    · rw [if_pos h, if_pos h]; rfl
    · rw [if_neg h, if_neg h]; rfl
  · intro k hk
    have h0 : ¬ (128 : Int32) ≤ nI k := nI_ge (b := 128) hk (by decide)
    have hok : pb_ok (nI k) 128 = true := pb_okT (by omega) (by omega)
    simp only [fX2_mostWeight_L7]
    by_cases h : k = 0 ∨ V (pb_am V k) ≤ 0
    · rw [if_pos h, if_neg h0, if_pos hok, nI_clamp (by omega), hV k hk]
      by_cases h1 : V k ≤ 0
      · have : V (pb_am V (k + 1)) ≤ 0 := by
          rw [pb_am]
          by_cases h2 : V k ≤ V (pb_am V k)
          · rw [if_pos h2]
            rcases h with h | h
            · subst h; exact h1
            · exact h
          · rw [if_neg h2]; exact h1
        rw [if_pos h1, if_pos (Or.inr this), nI_1]
      · have e : pb_am V (k + 1) = k := by
          rw [pb_am]
          rcases h with h | h
          · subst h; exact if_pos (Int64.le_refl _)
          · exact if_neg (fun h2 => h1 (Int64.le_trans h2 h))
        rw [if_neg h1, if_pos hok, Option.bind_some, e, if_neg (fun hh => hh.elim (by omega) h1), nI_1]
    · rw [if_neg h, if_neg h0, if_pos hok, nI_clamp (by omega), hV k hk]
      have h3 : ¬ V (pb_am V k) ≤ 0 := fun hh => h (Or.inr hh)
      by_cases h1 : V k ≤ V (pb_am V k)
      · have e : pb_am V (k + 1) = pb_am V k := if_pos h1
        rw [if_pos h1, e, if_neg (fun hh => hh.elim (by omega) h3), nI_1]
      · have e : pb_am V (k + 1) = k := if_neg h1
        rw [if_neg h1, if_pos hok, Option.bind_some, e, if_neg (fun hh => hh.elim (by omega) (fun h4 => h3 (Int64.le_trans (Int64.le_of_lt (Int64.not_le.mp h1)) h4))), nI_1]
  · have hc : (128 : Int32) ≤ nI 128 := nI_le (Nat.le_refl 128) (by omega)
    simp only [fX2_mostWeight_L7]
    by_cases h : V (pb_am V 128) ≤ 0
    · rw [if_pos (Or.inr h), if_pos h, if_pos hc]
    · rw [if_neg (show ¬ (128 = 0 ∨ V (pb_am V 128) ≤ 0) from fun hh => hh.elim (by omega) h), if_neg h, if_pos hc]
theorem fX8_heaviest_loop {t : Int64} {x : Int32} {W V : Nat → Int64} (hV : ∀ q, q < 128 → W q = V q) : pb_lp (fun y => fX8_heaviest_L13 (x, t, W) y.1 y.2) pb_FU (0, 1) = some (nI (pb_am V 128), nI 128) := by
  rw [show ((0 : Int32), (1 : Int32)) = ((fun k => (nI (pb_am V (k + 1)), nI (k + 1))) 0 : Int32 × Int32) from Prod.ext (show (0 : Int32) = nI (pb_am V 1) from by rw [show pb_am V 1 = 0 from if_pos (Int64.le_refl _)]; rfl) rfl]
  rw [pb_lp_iter (fun k => (nI (pb_am V (k + 1)), nI (k + 1))) 127 (nI (pb_am V 128), nI 128) ?_ ?_ pb_FU (pb_FU_gt (by omega))]
  · intro k hk
    have h0 : ¬ (128 : Int32) ≤ nI (k + 1) := nI_ge (b := 128) (show k + 1 < 128 by omega) (by decide)
    have hl := pb_am_lt V (k + 1) (by omega)
    simp only [fX8_heaviest_L13]
    rw [if_neg h0, if_pos (pb_okT (by omega) (by omega)), if_pos (pb_okT (by omega) (by omega)), nI_clamp (show k + 1 < 2 ^ 31 by omega), nI_clamp (show pb_am V (k + 1) < 2 ^ 31 by omega), hV (k + 1) (by omega), hV (pb_am V (k + 1)) (by omega), nI_1]
    by_cases h1 : V (k + 1) ≤ V (pb_am V (k + 1))
    · rw [if_pos h1, show pb_am V (k + 1 + 1) = pb_am V (k + 1) from if_pos h1]
    · rw [if_neg h1, show pb_am V (k + 1 + 1) = k + 1 from if_neg h1]
  · simp only [fX8_heaviest_L13]
    rw [if_pos (show (128 : Int32) ≤ nI (127 + 1) from nI_le (Nat.le_refl 128) (by omega))]
theorem pb_am_tot {lc fc : Nat → Int32} {nl nf : Nat} (hn : nf ≤ 10) (fo : pb_findsOK fc nf) : pb_sum (pb_wt lc nl fc nf) 128 ≤ 0 ↔ pb_wt lc nl fc nf (pb_am (pb_wt lc nl fc nf) 128) ≤ 0 := by
  rw [pb_tot hn fo]
  exact ⟨fun h => h _ (pb_am_lt _ 128 (by omega)), fun h q hq => Int64.le_trans (pb_am_ge _ 128 q hq) h⟩
