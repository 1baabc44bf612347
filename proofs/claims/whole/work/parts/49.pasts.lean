/-! ===== what pasts weigh: the class ===== -/
/-- one fact more: the upper half takes a, the lower b -/
def pb_dbl (W : Nat → Int64) (h : Nat) (a b : Int64) (k : Nat) : Nat → Int64 := fun j => if j < k then W j * b else if h ≤ j ∧ j < h + k then W (j - h) * a else W j
theorem pb_dbl_step {W : Nat → Int64} {h k : Nat} {a b : Int64} (hk : k < h) : vp_updL (vp_updL (pb_dbl W h a b k) (k + h) (pb_dbl W h a b k k * a)) k (vp_updL (pb_dbl W h a b k) (k + h) (pb_dbl W h a b k k * a) k * b) = pb_dbl W h a b (k + 1) := by
  have e : pb_dbl W h a b k k = W k := by unfold pb_dbl; rw [if_neg (by omega), if_neg (by omega)]
  have e2 : vp_updL (pb_dbl W h a b k) (k + h) (pb_dbl W h a b k k * a) k = W k := by
    show (if k = k + h then _ else pb_dbl W h a b k k) = W k
    rw [if_neg (by omega), e]
  rw [e2, e]
  funext j
  show (if j = k then W k * b else if j = k + h then W k * a else pb_dbl W h a b k j) = _
  unfold pb_dbl
  by_cases h1 : j = k
  · subst h1; rw [if_pos rfl, if_pos (by omega)]
  · rw [if_neg h1]
    by_cases h2 : j = k + h
    · rw [if_pos h2, if_neg (by omega), if_pos (by omega), show j - h = k by omega]
    · rw [if_neg h2]
      by_cases h3 : j < k
      · rw [if_pos h3, if_pos (by omega)]
      · rw [if_neg h3, if_neg (show ¬ j < k + 1 by omega)]
        by_cases h4 : h ≤ j ∧ j < h + k
        · rw [if_pos h4, if_pos (by omega)]
        · rw [if_neg h4, if_neg (by omega)]
theorem fX2_weighByFinds_in {W : Nat → Int64} {a b : Int64} {h : Nat} (hh : h ≤ 64) : pb_lp (fun y => fX2_weighByFinds_L38 a b (nI h) y.1 y.2) pb_FU (0, W) = some (nI h, pb_dbl W h a b h) := by
  rw [show ((0 : Int32), W) = ((fun k => (nI k, pb_dbl W h a b k)) 0 : Int32 × (Nat → Int64)) from Prod.ext rfl (by funext j; show W j = pb_dbl W h a b 0 j; unfold pb_dbl; rw [if_neg (by omega), if_neg (by omega)])]
  rw [pb_lp_iter (fun k => (nI k, pb_dbl W h a b k)) h (nI h, pb_dbl W h a b h) ?_ ?_ pb_FU (pb_FU_gt (by omega))]
  · intro k hk
    simp only [fX2_weighByFinds_L38]
    rw [if_neg (nI_ge hk (by omega)), if_pos (pb_okT (by omega) (by omega)), nI_add k h, if_pos (pb_okT (by omega) (by omega)), nI_clamp (show k + h < 2 ^ 31 by omega), nI_clamp (show k < 2 ^ 31 by omega), Option.bind_some, if_pos (pb_okT (by omega) (by omega)), if_pos (pb_okT (by omega) (by omega)), Option.bind_some, pb_dbl_step hk, nI_1]
  · simp only [fX2_weighByFinds_L38]
    rw [if_pos (nI_le (Nat.le_refl _) (by omega))]
/-- facts below f: what a past weighs by the finds of these -/
def pb_byF (fc : Nat → Int32) (nf f q : Nat) : Int64 := pb_prod (fun i => pb_prod (pb_pf fc i (pb_bN (q.testBit i))) nf) f
theorem pb_byF_step {fc : Nat → Int32} {nf f : Nat} {W : Nat → Int64} (hW : ∀ q, q < 2 ^ f → W q = pb_byF fc nf f q) (q : Nat) (hq : q < 2 ^ (f + 1)) : pb_dbl W (2 ^ f) (pb_prod (pb_pf fc f 1) nf) (pb_prod (pb_pf fc f 0) nf) (2 ^ f) q = pb_byF fc nf (f + 1) q := by
  rw [Nat.pow_succ] at hq
  show _ = pb_byF fc nf f q * pb_prod (pb_pf fc f (pb_bN (q.testBit f))) nf
  unfold pb_dbl
  by_cases h : q < 2 ^ f
  · rw [if_pos h, hW q h, Nat.testBit_lt_two_pow h]
    rfl
  · rw [if_neg h, if_pos (by omega), hW _ (by omega)]
    have e : q = 2 ^ f + (q - 2 ^ f) := by omega
    have t : q.testBit f = true := by
      rw [e, Nat.testBit_two_pow_add_eq, Nat.testBit_lt_two_pow (by omega)]; rfl
    have u : pb_byF fc nf f (q - 2 ^ f) = pb_byF fc nf f q := by
      unfold pb_byF
      refine pb_prod_congr (fun i hi => ?_)
      have : q.testBit i = (q - 2 ^ f).testBit i := by
        conv => lhs; rw [e]
        exact Nat.testBit_two_pow_add_gt hi _
      rw [this]
    rw [t, u]
    rfl
theorem pb_shl : ∀ f : Fin 7, (1 : Int32) <<< (nI f.val &&& 31) = nI (2 ^ f.val) := by decide
theorem fX2_weighByFinds_step {M : Int32} {fc : Nat → Int32} {nf n f : Nat} {W : Nat → Int64} (hn : 3 * nf ≤ n) (hb : n < 1000) (hf : f < 7) : fX2_weighByFinds_L9 3 M n (nI nf) fc (nI f) W = some (Sum.inl (nI (f + 1), pb_dbl W (2 ^ f) (pb_prod (pb_pf fc f 1) nf) (pb_prod (pb_pf fc f 0) nf) (2 ^ f))) := by
  have hp : 2 ^ f ≤ 64 := Nat.pow_le_pow_right (by omega) (show f ≤ 6 by omega)
  unfold fX2_weighByFinds_L9
  rw [if_neg (show ¬ (7 : Int32) ≤ nI f from nI_ge (b := 7) hf (by decide)), fX2_productFor_eq hn hb, Option.bind_some, fX2_productFor_eq hn hb, Option.bind_some, pb_shl ⟨f, hf⟩, Option.bind_some, fX2_weighByFinds_in hp, Option.bind_some]
  unfold fX2_weighByFinds_E38
  rw [nI_1]
theorem pb_lp_inv7 {fc : Nat → Int32} {M : Int32} {nf n : Nat} (hn : 3 * nf ≤ n) (hb : n < 1000) (d : Nat) : ∀ (W : Nat → Int64) (f F : Nat), 7 - f = d → f ≤ 7 → d < F → (∀ q, q < 2 ^ f → W q = pb_byF fc nf f q) → ∃ W', (pb_lp (fun y => fX2_weighByFinds_L9 3 M n (nI nf) fc y.1 y.2) F (nI f, W) = some (nI 7, W')) ∧ ∀ q, q < 128 → W' q = pb_byF fc nf 7 q := by
  induction d with
  | zero =>
    intro W f F hd hf hF hW
    have : f = 7 := by omega
    subst this
    obtain ⟨F, rfl⟩ : ∃ G, F = G + 1 := ⟨F - 1, by omega⟩
    refine ⟨W, ?_, hW⟩
    have e : fX2_weighByFinds_L9 3 M n (nI nf) fc (nI 7) W = some (Sum.inr (nI 7, W)) := by unfold fX2_weighByFinds_L9; exact if_pos (show (7 : Int32) ≤ nI 7 by decide)
    rw [pb_lp, e]
    rfl
  | succ d ih =>
    intro W f F hd hf hF hW
    obtain ⟨F, rfl⟩ : ∃ G, F = G + 1 := ⟨F - 1, by omega⟩
    obtain ⟨W', h1, h2⟩ := ih _ (f + 1) F (by omega) (by omega) (by omega) (pb_byF_step hW)
    refine ⟨W', ?_, h2⟩
    rw [pb_lp, fX2_weighByFinds_step hn hb (by omega)]
    exact h1
theorem fX2_weighByFinds_eq {fc : Nat → Int32} {M : Int32} {nf n : Nat} (hn : 3 * nf ≤ n) (hb : n < 1000) (W : Nat → Int64) : ∃ W', fX2_weighByFinds 3 M n W (nI nf) fc = some W' ∧ ∀ q, q < 128 → W' q = pb_byF fc nf 7 q := by
  obtain ⟨W', h1, h2⟩ := pb_lp_inv7 (M := M) (fc := fc) hn hb 7 (vp_updL W 0 1) 0 pb_FU (by omega) (by omega) (pb_FU_gt (by omega)) (fun q hq => by
    have : q = 0 := by omega
    subst this
    rfl)
  refine ⟨W', ?_, h2⟩
  unfold fX2_weighByFinds
  rw [Option.bind_some, show (0 : Int32) = nI 0 from rfl, h1]
  rfl
theorem pb_fill_same {W A : Nat → Int64} {n : Nat} (h : A n = W n) : pb_fill W A n = pb_fill W A (n + 1) := by
  funext j
  unfold pb_fill
  by_cases h1 : j < n
  · rw [if_pos h1, if_pos (by omega)]
  · rw [if_neg h1]
    by_cases h2 : j = n
    · subst h2; rw [if_pos (by omega), h]
    · rw [if_neg (by omega)]
def pb_fillO (W : Nat → Int32) (A : Nat → Int32) (n : Nat) : Nat → Int32 := fun j => if j < n then W j else A j
theorem pb_fillO_step (W A : Nat → Int32) (n : Nat) : upd (pb_fillO W A n) n (W n) = pb_fillO W A (n + 1) := by
  funext j
  simp only [upd, pb_fillO]
  by_cases h : j = n
  · subst h; rw [if_pos rfl, if_pos (by omega)]
  · rw [if_neg h]
    by_cases h2 : j < n
    · rw [if_pos h2, if_pos (by omega)]
    · rw [if_neg h2, if_neg (by omega)]
theorem pb_nar (b : Bool) : vp_nar .boolean (pb_bI b) = pb_bI b := by cases b <;> rfl
theorem fX2_weigh_eq {lc fc : Nat → Int32} {nl nf : Nat} (hl : nl ≤ 8) (hn : nf ≤ 10) (lo : pb_lawsOK lc nl) (fo : pb_findsOK fc nf) (t : Int64) (st : Int32) (O : Nat → Int32) (W : Nat → Int64) : ∃ W', fX2_weigh 3 8 24 3 10 30 t st O W (nI nl) lc (nI nf) fc = some (pb_sum (pb_wt lc nl fc nf) 128, 0, pb_fillO (fun q => pb_bI (pb_poss lc nl q)) O 128, pb_fill (pb_wt lc nl fc nf) W' 128) := by
  obtain ⟨W', h1, h2⟩ := fX2_weighByFinds_eq (M := 10) (n := 30) (fc := fc) (show 3 * nf ≤ 30 by omega) (by omega) W
  refine ⟨W', ?_⟩
  unfold fX2_weigh
  rw [h1, Option.bind_some]
  generalize hP : (fun q => pb_bI (pb_poss lc nl q)) = P
  generalize hV : pb_wt lc nl fc nf = V
  rw [show ((0 : Int32), (0 : Int64), O, W') = ((fun k => (nI k, pb_sum V k, pb_fillO P O k, pb_fill V W' k)) 0 : Int32 × Int64 × (Nat → Int32) × (Nat → Int64)) from Prod.ext rfl (Prod.ext rfl (Prod.ext (by funext j; simp [pb_fillO]) (by funext j; simp [pb_fill])))]
  rw [pb_lp_iter (fun k => (nI k, pb_sum V k, pb_fillO P O k, pb_fill V W' k)) 128 (nI 128, pb_sum V 128, pb_fillO P O 128, pb_fill V W' 128) ?_ ?_ pb_FU (pb_FU_gt (by omega))]
  · rfl
  · intro k hk
    have h0 : ¬ (128 : Int32) ≤ nI k := nI_ge (b := 128) hk (by decide)
    have e1 : fX2_keepsAll 3 8 24 (nI nl) lc (nI k) = some (pb_bI (pb_poss lc nl k)) := fX2_keepsAll_eq (by omega) (by omega) lo hk
    have eP : pb_bI (pb_poss lc nl k) = P k := by rw [← hP]
    have e3 : pb_fillO P O (k + 1) k = pb_bI (pb_poss lc nl k) := (if_pos (by omega)).trans eP.symm
    have e4 : pb_fill V W' (k + 1) k = V k := if_pos (by omega)
    have e5 : fX2_weigh_J46 (nI k) (pb_sum V k) (pb_fillO P O (k + 1)) (pb_fill V W' (k + 1)) = some (Sum.inl (nI (k + 1), pb_sum V (k + 1), pb_fillO P O (k + 1), pb_fill V W' (k + 1))) := by
      unfold fX2_weigh_J46
      rw [if_pos (pb_okT (by omega) (by omega)), nI_clamp (by omega), Option.bind_some, e4, nI_1]
      rfl
    simp only [fX2_weigh_L12]
    rw [if_neg h0, e1, Option.bind_some, pb_nar, if_pos (pb_okT (by omega) (by omega)), nI_clamp (by omega), Option.bind_some, eP, pb_fillO_step, if_pos (pb_okT (by omega) (by omega)), e3]
    cases hp : pb_poss lc nl k with
    | true =>
      have : pb_fill V W' k = pb_fill V W' (k + 1) := pb_fill_same (by
        rw [h2 k hk, ← hV]
        unfold pb_wt pb_byF
        rw [if_pos hp, pb_pf_all fo])
      rw [pb_bI_t, if_neg pb_ne10, Option.bind_some, this, e5]
    | false =>
      have e6 : (0 : Int64) = V k := by rw [← hV]; unfold pb_wt; rw [hp]; rfl
      rw [pb_bI_f, if_pos rfl, if_pos (pb_okT (by omega) (by omega)), Option.bind_some, e6, pb_fill_step, Option.bind_some, e5]
  · simp only [fX2_weigh_L12]
    rw [if_pos (show (128 : Int32) ≤ nI 128 from nI_le (Nat.le_refl 128) (by omega))]
/-- the class's weights, fresh -/
def pb_Fr (lc : Nat → Int32) (nl : Nat) (fc : Nat → Int32) (nf : Nat) (t : Int64) (O : Nat → Int32) (W : Nat → Int64) : Prop := (∀ q, q < 128 → O q = pb_bI (pb_poss lc nl q)) ∧ (∀ q, q < 128 → W q = pb_wt lc nl fc nf q) ∧ t = pb_sum (pb_wt lc nl fc nf) 128
theorem pb_Fr_Pa {lc fc : Nat → Int32} {nl nf : Nat} {t : Int64} {O : Nat → Int32} {W : Nat → Int64} (hl : nl ≤ 8) (hn : nf ≤ 10) (h : pb_Fr lc nl fc nf t O W) : pb_Pa (nI nl) lc (nI nf) fc t 0 O W := by
  unfold pb_Pa
  rw [nI_clamp (by omega), nI_clamp (by omega)]
  exact Or.inr ⟨rfl, fun q hq => by rw [h.1 q hq]; rfl, h.2⟩
theorem fX7_weighed_eq {lc fc : Nat → Int32} {nl nf : Nat} {t : Int64} {st : Int32} {O : Nat → Int32} {W : Nat → Int64} (hl : nl ≤ 8) (hn : nf ≤ 10) (lo : pb_lawsOK lc nl) (fo : pb_findsOK fc nf) (h : pb_Pa (nI nl) lc (nI nf) fc t st O W) : ∃ t' O' W', fX7_weighed (nI nl) lc (nI nf) fc t st O W = some (t', 0, O', W') ∧ pb_Fr lc nl fc nf t' O' W' := by
  unfold fX7_weighed
  rcases h with rfl | ⟨rfl, h⟩
  · obtain ⟨W', h⟩ := fX2_weigh_eq hl hn lo fo t 1 O W
    rw [if_neg pb_ne10, h, Option.bind_some]
    exact ⟨_, _, _, rfl, fun q hq => if_pos hq, fun q hq => if_pos hq, rfl⟩
  · rw [nI_clamp (by omega), nI_clamp (by omega)] at h
    rw [if_pos rfl]
    exact ⟨_, _, _, rfl, fun q hq => by rw [h.1 q hq]; rfl, h.2⟩
