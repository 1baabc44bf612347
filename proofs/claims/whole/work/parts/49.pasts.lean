/-! ===== what pasts weigh: the class ===== -/
/-- one fact more: the upper half takes a, the lower b -/
def pb_dbl (W : Nat → Int64) (h : Nat) (a b : Int64) (k : Nat) : Nat → Int64 := fun j => if j < k then W j * b else if h ≤ j ∧ j < h + k then W (j - h) * a else W j
theorem pb_dbl_step {W : Nat → Int64} {h k : Nat} {a b : Int64} (hk : k < h) : vp_updL (vp_updL (pb_dbl W h a b k) (k + h) (pb_dbl W h a b k k * a)) k (vp_updL (pb_dbl W h a b k) (k + h) (pb_dbl W h a b k k * a) k * b) = pb_dbl W h a b (k + 1) := by
  have e : pb_dbl W h a b k k = W k := by unfold pb_dbl; rw [if_neg (by omega), if_neg (by omega)]
  have e2 : vp_updL (pb_dbl W h a b k) (k + h) (pb_dbl W h a b k k * a) k = W k := by
    show (if k = k + h then _ else pb_dbl W h a b k k) = W k
    rw [if_neg (by omega), e]
  rw [e2, e]
  funext j
  show (if j = k then W k * b else if j = k + h then W k * a else pb_dbl W h a b k j) = _
  unfold pb_dbl
  by_cases h1 : j = k
  · subst h1; rw [if_pos rfl, if_pos (by omega)]
  · rw [if_neg h1]
    by_cases h2 : j = k + h
    · rw [if_pos h2, if_neg (by omega), if_pos (by omega), show j - h = k by omega]
    · rw [if_neg h2]
      by_cases h3 : j < k
      · rw [if_pos h3, if_pos (by omega)]
      · rw [if_neg h3, if_neg (show ¬ j < k + 1 by omega)]
        by_cases h4 : h ≤ j ∧ j < h + k
        · rw [if_pos h4, if_pos (by omega)]
        · rw [if_neg h4, if_neg (by omega)]
theorem fX2_weighByFinds_in {W : Nat → Int64} {a b : Int64} {h : Nat} (hh : h ≤ 64) : pb_lp (fun y => fX2_weighByFinds_L38 a b (nI h) y.1 y.2) pb_FU (0, W) = some (nI h, pb_dbl W h a b h) := by
  rw [show ((0 : Int32), W) = ((fun k => (nI k, pb_dbl W h a b k)) 0 : Int32 × (Nat → Int64)) from Prod.ext rfl (by funext j; unfold pb_dbl; rw [if_neg (by omega), if_neg (by omega)])]
  rw [pb_lp_iter (fun k => (nI k, pb_dbl W h a b k)) h (nI h, pb_dbl W h a b h) ?_ ?_ pb_FU (pb_FU_gt (by omega))]
  · intro k hk
    simp only [fX2_weighByFinds_L38]
    rw [if_neg (nI_ge hk (by omega)), if_pos (pb_okT (by omega) (by omega)), nI_add k h, if_pos (pb_okT (by omega) (by omega)), nI_clamp (show k < 1000 by omega), nI_clamp (show k + h < 1000 by omega), Option.bind_some, if_pos (pb_okT (by omega) (by omega)), if_pos (pb_okT (by omega) (by omega)), Option.bind_some, pb_dbl_step hk, nI_1]
  · simp only [fX2_weighByFinds_L38]
    rw [if_pos (nI_le (Nat.le_refl _) (by omega))]
/-- facts below f: what a past weighs by the finds of these -/
def pb_byF (fc : Nat → Int32) (nf f q : Nat) : Int64 := pb_prod (fun i => pb_prod (pb_pf fc i (pb_bN (q.testBit i))) nf) f
theorem pb_byF_step {fc : Nat → Int32} {nf f : Nat} {W : Nat → Int64} (hW : ∀ q, q < 2 ^ f → W q = pb_byF fc nf f q) (q : Nat) (hq : q < 2 ^ (f + 1)) : pb_dbl W (2 ^ f) (pb_prod (pb_pf fc f 1) nf) (pb_prod (pb_pf fc f 0) nf) (2 ^ f) q = pb_byF fc nf (f + 1) q := by
  rw [Nat.pow_succ] at hq
  show _ = pb_byF fc nf f q * pb_prod (pb_pf fc f (pb_bN (q.testBit f))) nf
  unfold pb_dbl
  by_cases h : q < 2 ^ f
  · rw [if_pos h, hW q h, Nat.testBit_lt_two_pow h]
    rfl
  · rw [if_neg h, if_pos (by omega), hW _ (by omega)]
    have e : q = 2 ^ f + (q - 2 ^ f) := by omega
    have t : q.testBit f = true := by
      rw [e, Nat.testBit_two_pow_add_eq, Nat.testBit_lt_two_pow (by omega)]; rfl
    have u : pb_byF fc nf f (q - 2 ^ f) = pb_byF fc nf f q := by
      unfold pb_byF
      refine pb_prod_congr (fun i hi => ?_)
      have : q.testBit i = (q - 2 ^ f).testBit i := by
        conv => lhs; rw [e]
        exact Nat.testBit_two_pow_add_gt hi _
      rw [this]
    rw [t, u]
    rfl
theorem pb_shl : ∀ f : Fin 7, (1 : Int32) <<< (nI f.val &&& 31) = nI (2 ^ f.val) := by decide
theorem fX2_weighByFinds_step {M : Int32} {fc : Nat → Int32} {nf n f : Nat} {W : Nat → Int64} (hn : 3 * nf ≤ n) (hb : n < 1000) (hf : f < 7) : fX2_weighByFinds_L9 3 M n (nI nf) fc (nI f) W = some (Sum.inl (nI (f + 1), pb_dbl W (2 ^ f) (pb_prod (pb_pf fc f 1) nf) (pb_prod (pb_pf fc f 0) nf) (2 ^ f))) := by
  have hp : 2 ^ f ≤ 64 := Nat.pow_le_pow_right (by omega) (show f ≤ 6 by omega)
  unfold fX2_weighByFinds_L9
  rw [if_neg (nI_ge (b := 7) hf (by decide)), fX2_productFor_eq hn hb, Option.bind_some, fX2_productFor_eq hn hb, Option.bind_some, pb_shl ⟨f, hf⟩, Option.bind_some, fX2_weighByFinds_in hp, Option.bind_some]
  unfold fX2_weighByFinds_E38
  rw [nI_1]
theorem pb_lp_inv7 {fc : Nat → Int32} {M : Int32} {nf n : Nat} (hn : 3 * nf ≤ n) (hb : n < 1000) (W : Nat → Int64) (f : Nat) (hf : f ≤ 7) (hW : ∀ q, q < 2 ^ f → W q = pb_byF fc nf f q) : ∃ W', (pb_lp (fun y => fX2_weighByFinds_L9 3 M n (nI nf) fc y.1 y.2) (7 - f + 1) (nI f, W) = some (nI 7, W')) ∧ ∀ q, q < 128 → W' q = pb_byF fc nf 7 q := by
  generalize hd : 7 - f = d
  induction d generalizing f W with
  | zero =>
    have : f = 7 := by omega
    subst this
    refine ⟨W, ?_, hW⟩
    simp only [pb_lp, fX2_weighByFinds_L9]
    rw [if_pos (show (7 : Int32) ≤ nI 7 by decide)]
  | succ d ih =>
    obtain ⟨W', h1, h2⟩ := ih _ (f + 1) (by omega) (pb_byF_step hW) (by omega)
    refine ⟨W', ?_, h2⟩
    rw [pb_lp]
    rw [fX2_weighByFinds_step hn hb (by omega)]
    exact h1
