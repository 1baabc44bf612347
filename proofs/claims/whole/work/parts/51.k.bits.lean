/-! ===== sets as bits; files that were doped ===== -/
theorem pb_nI_or (a b : Nat) : nI a ||| nI b = nI (a ||| b) := by
  apply Int32.toBitVec_inj.mp
  show BitVec.ofNat 32 a ||| BitVec.ofNat 32 b = BitVec.ofNat 32 (a ||| b)
  exact BitVec.ofNat_or.symm
theorem pb_nI_and (a b : Nat) : nI a &&& nI b = nI (a &&& b) := by
  apply Int32.toBitVec_inj.mp
  show BitVec.ofNat 32 a &&& BitVec.ofNat 32 b = BitVec.ofNat 32 (a &&& b)
  exact BitVec.ofNat_and.symm
theorem pb_nI_xor (a b : Nat) : nI a ^^^ nI b = nI (a ^^^ b) := by
  apply Int32.toBitVec_inj.mp
  show BitVec.ofNat 32 a ^^^ BitVec.ofNat 32 b = BitVec.ofNat 32 (a ^^^ b)
  exact BitVec.ofNat_xor.symm
theorem pb_shlB : ∀ k : Fin 11, (1 : Int32) <<< (nI k.val &&& 31) = nI (2 ^ k.val) := by decide
/-- the set of those k below n of which P is so -/
def pb_mk (P : Nat → Bool) : Nat → Nat
  | 0 => 0
  | n + 1 => pb_mk P n + (if P n = true then 2 ^ n else 0)
theorem pb_mk_lt (P : Nat → Bool) (n : Nat) : pb_mk P n < 2 ^ n := by
  induction n with
  | zero => show 0 < 1; omega
  | succ n ih =>
    rw [pb_mk, Nat.pow_succ]
    split <;> omega
theorem pb_mk_bit (P : Nat → Bool) (n k : Nat) : (pb_mk P n).testBit k = (decide (k < n) && P k) := by
  induction n with
  | zero => rw [pb_mk, Nat.zero_testBit, decide_eq_false (by omega)]; rfl
  | succ n ih =>
    rw [pb_mk]
    have hl := pb_mk_lt P n
    by_cases hP : P n = true
    · rw [if_pos hP, Nat.add_comm]
      by_cases h1 : k = n
      · subst h1
        rw [Nat.testBit_two_pow_add_eq, Nat.testBit_lt_two_pow hl, hP, decide_eq_true (by omega)]; rfl
      · by_cases h2 : k < n
        · rw [Nat.testBit_two_pow_add_gt h2, ih, decide_eq_true h2, decide_eq_true (show k < n + 1 by omega)]
        · have h3 : 2 ^ n + pb_mk P n < 2 ^ (n + 1) := by rw [Nat.pow_succ]; omega
          have h4 : 2 ^ (n + 1) ≤ 2 ^ k := Nat.pow_le_pow_right (by omega) (by omega)
          rw [Nat.testBit_lt_two_pow (Nat.lt_of_lt_of_le h3 h4), decide_eq_false (by omega)]; rfl
    · rw [if_neg hP, Nat.add_zero, ih]
      by_cases h1 : k = n
      · subst h1
        rw [Bool.not_eq_true] at hP
        rw [hP, Bool.and_false, Bool.and_false]
      · rw [decide_eq_decide.mpr (show k < n ↔ k < n + 1 by omega)]
theorem pb_mk_or (P : Nat → Bool) {k : Nat} (hk : k < 11) : nI (pb_mk P k) ||| (1 <<< (nI k &&& 31)) = nI (pb_mk P k + 2 ^ k) := by
  have h := Nat.two_pow_add_eq_or_of_lt (pb_mk_lt P k) 1
  rw [Nat.mul_one] at h
  rw [pb_shlB ⟨k, hk⟩, pb_nI_or, Nat.or_comm, ← h, Nat.add_comm]
/-- how many there are below n -/
def pb_bcn (s : Nat) : Nat → Nat
  | 0 => 0
  | n + 1 => pb_bcn s n + (if s.testBit n = true then 1 else 0)
theorem pb_bcn_le (s n : Nat) : pb_bcn s n ≤ n := by
  induction n with
  | zero => exact Nat.le_refl _
  | succ n ih => rw [pb_bcn]; split <;> omega
theorem pb_bcn_mono {s t : Nat} (h : ∀ k, s.testBit k = true → t.testBit k = true) (n : Nat) : pb_bcn s n ≤ pb_bcn t n := by
  induction n with
  | zero => exact Nat.le_refl _
  | succ n ih =>
    rw [pb_bcn, pb_bcn]
    by_cases h1 : s.testBit n = true
    · rw [if_pos h1, if_pos (h n h1)]; omega
    · rw [if_neg h1]; omega
theorem pb_sub_le {s t : Nat} (h : ∀ k, s.testBit k = true → t.testBit k = true) : s ≤ t := by
  have e : s &&& t = s := by
    apply Nat.eq_of_testBit_eq
    intro k
    rw [Nat.testBit_and]
    cases hs : s.testBit k with
    | false => rfl
    | true => rw [h k hs]; rfl
  rw [← e]
  exact Nat.and_le_right
theorem pb_bitC : ∀ s, s < 1024 → fJ6_bitCount_0f7a4 (nI s) = some (nI (pb_bcn s 10)) := by decide +kernel
theorem fX8_ones_eq {s : Nat} (hs : s < 1024) : fX8_ones (nI s) = some (nI (pb_bcn s 10)) := by
  unfold fX8_ones
  rw [show ((0 : Int32), (0 : Int32)) = ((fun k => (nI (pb_bcn s k), nI k)) 0 : Int32 × Int32) from rfl]
  rw [pb_lp_iter (fun k => (nI (pb_bcn s k), nI k)) 10 (nI (pb_bcn s 10), nI 10) ?_ ?_ pb_FU (pb_FU_gt (by omega))]
  · rfl
  · intro k hk
    have h0 : ¬ (10 : Int32) ≤ nI k := nI_ge (b := 10) hk (by decide)
    have e : (nI s >>> (nI k &&& 31)) &&& 1 = nI (if s.testBit k = true then 1 else 0) := by
      rw [pk_shrN (by omega) _ k (pb_sh32 k (by omega)), pk_andN (Nat.lt_of_le_of_lt (Nat.div_le_self _ _) (by omega)) 1 (by decide), Nat.testBit_eq_decide_div_mod_eq]
      have : s / 2 ^ k % 2 ^ 1 = 0 ∨ s / 2 ^ k % 2 ^ 1 = 1 := by
        have := Nat.mod_lt (s / 2 ^ k) (show 0 < 2 ^ 1 by decide)
        omega
      rcases this with h | h
      · rw [show s / 2 ^ k % 2 = 0 from h]; rfl
      · rw [show s / 2 ^ k % 2 = 1 from h]; rfl
    simp only [fX8_ones_L4]
    rw [if_neg h0, Option.bind_some, e, nI_add, nI_1]
    rfl
  · simp only [fX8_ones_L4]
    rw [if_pos (show (10 : Int32) ≤ nI 10 from nI_le (Nat.le_refl 10) (by omega))]
/-- fewest first, then least -/
def pb_key (s : Nat) : Nat := pb_bcn s 10 * 2048 + s
theorem pb_key_inj {s t : Nat} (hs : s < 1024) (ht : t < 1024) (h : pb_key s = pb_key t) : s = t := by
  unfold pb_key at h
  omega
theorem pb_key_mono {s t : Nat} (h : ∀ k, s.testBit k = true → t.testBit k = true) : pb_key s ≤ pb_key t := by
  have h1 := pb_bcn_mono h 10
  have h2 := pb_sub_le h
  unfold pb_key
  omega
theorem fX2_isFewer_eq {s t : Nat} (hs : s < 1024) (ht : t < 1024) : fX2_isFewer (nI s) (nI t) = some (pb_bI (decide (pb_key s < pb_key t))) := by
  have c1 := pb_bcn_le s 10
  have c2 := pb_bcn_le t 10
  unfold fX2_isFewer fJ6_compare_7cf53
  rw [pb_bitC s hs, pb_bitC t ht, Option.bind_some, Option.bind_some]
  unfold pb_key
  by_cases h1 : pb_bcn t 10 ≤ pb_bcn s 10
  · rw [if_pos ((nI_leI (by omega) (by omega)).mpr h1)]
    by_cases h2 : pb_bcn s 10 = pb_bcn t 10
    · rw [if_pos (show nI (pb_bcn s 10) = nI (pb_bcn t 10) by rw [h2]), Option.bind_some, if_neg (show ¬ (0 : Int32) < 0 by decide), if_pos rfl]
      by_cases h3 : t ≤ s
      · rw [if_pos ((nI_leI (by omega) (by omega)).mpr h3), decide_eq_false (by omega)]; rfl
      · rw [if_neg (fun h => h3 ((nI_leI (by omega) (by omega)).mp h)), decide_eq_true (by omega)]; rfl
    · rw [if_neg (fun h => h2 ((nI_eq (by omega) (by omega)).mp h)), decide_eq_false (by omega)]; rfl
  · rw [if_neg (fun h => h1 ((nI_leI (by omega) (by omega)).mp h)), decide_eq_true (by omega)]; rfl
/-- of those q below n of which C is so, the best f q -/
def pb_best (C : Nat → Bool) (f : Nat → Nat) (n : Nat) (x : Int32) : Prop := (x = -1 ∧ ∀ q, q < n → C q = false) ∨ ∃ m, m < 1024 ∧ x = nI m ∧ (∃ q, q < n ∧ C q = true ∧ m = f q) ∧ ∀ q, q < n → C q = true → pb_key m ≤ pb_key (f q)
theorem pb_best_skip {C : Nat → Bool} {f : Nat → Nat} {n : Nat} {x : Int32} (h : pb_best C f n x) (hC : C n = false) : pb_best C f (n + 1) x := by
  rcases h with ⟨e, h⟩ | ⟨m, hm, e, ⟨q, hq, h1, h2⟩, h3⟩
  · refine Or.inl ⟨e, fun q hq => ?_⟩
    by_cases hqn : q = n
    · subst hqn; exact hC
    · exact h q (by omega)
  · refine Or.inr ⟨m, hm, e, ⟨q, by omega, h1, h2⟩, fun q hq hc => ?_⟩
    by_cases hqn : q = n
    · subst hqn; rw [hC] at hc; exact absurd hc (by decide)
    · exact h3 q (by omega) hc
theorem pb_best_keep {C : Nat → Bool} {f : Nat → Nat} {n m : Nat} (h : pb_best C f n (nI m)) (hm : m < 1024) (hk : pb_key m ≤ pb_key (f n)) : pb_best C f (n + 1) (nI m) := by
  rcases h with ⟨e, h⟩ | ⟨m', hm', e, ⟨q, hq, h1, h2⟩, h3⟩
  · exact absurd e (pb_nI_m1 (by omega))
  · have : m = m' := (nI_eq (by omega) (by omega)).mp e
    subst this
    refine Or.inr ⟨m, hm, rfl, ⟨q, by omega, h1, h2⟩, fun q hq hc => ?_⟩
    by_cases hqn : q = n
    · subst hqn; exact hk
    · exact h3 q (by omega) hc
theorem pb_best_new {C : Nat → Bool} {f : Nat → Nat} {n : Nat} {x : Int32} (h : pb_best C f n x) (hx : x = -1 ∨ ∃ m, m < 1024 ∧ x = nI m ∧ pb_key (f n) < pb_key m) (hC : C n = true) (hf : f n < 1024) : pb_best C f (n + 1) (nI (f n)) := by
  refine Or.inr ⟨f n, hf, rfl, ⟨n, by omega, hC, rfl⟩, fun q hq hc => ?_⟩
  by_cases hqn : q = n
  · subst hqn; exact Nat.le_refl _
  · rcases h with ⟨e, h⟩ | ⟨m, hm, e, _, h3⟩
    · rw [h q (by omega)] at hc; exact absurd hc (by decide)
    · have h4 := h3 q (by omega) hc
      rcases hx with hx | ⟨m', hm', e', h5⟩
      · rw [hx] at e; exact absurd e.symm (pb_nI_m1 (by omega))
      · have : m = m' := (nI_eq (by omega) (by omega)).mp (e.symm.trans e')
        subst this
        omega
/-- finds that stand in a past's way -/
def pb_wy (fc : Nat → Int32) (q k : Nat) : Bool := decide (pb_shr q (fc (3 * k)).toNatClampNeg (fc (3 * k + 1)) (fc (3 * k + 2)) = 0)
theorem fX2_inTheWay_eq {fc : Nat → Int32} {nf q : Nat} (hn : nf ≤ 10) (fo : pb_findsOK fc nf) (hq : q < 128) : fX2_inTheWay 3 10 30 (nI nf) fc (nI q) = some (nI (pb_mk (pb_wy fc q) nf)) := by
  unfold fX2_inTheWay
  rw [show ((0 : Int32), (0 : Int32)) = ((fun k => (nI (pb_mk (pb_wy fc q) k), nI k)) 0 : Int32 × Int32) from rfl]
  rw [pb_lp_iter (fun k => (nI (pb_mk (pb_wy fc q) k), nI k)) nf (nI (pb_mk (pb_wy fc q) nf), nI nf) ?_ ?_ pb_FU (pb_FU_gt (by omega))]
  · rfl
  · intro k hk
    obtain ⟨⟨a, ha, ea⟩, _⟩ := fo k hk
    have c0 : fX6_cell 3 10 30 (nI nf) fc (nI k) 0 = some (fc (3 * k)) := fX6_cell3 (c := 0) hk (by omega) (by omega) (by omega)
    have c1 : fX6_cell 3 10 30 (nI nf) fc (nI k) 1 = some (fc (3 * k + 1)) := fX6_cell3 (c := 1) hk (by omega) (by omega) (by omega)
    have c2 : fX6_cell 3 10 30 (nI nf) fc (nI k) 2 = some (fc (3 * k + 2)) := fX6_cell3 (c := 2) hk (by omega) (by omega) (by omega)
    have es : fX7_shareOfTen (nI q) (fc (3 * k)) (fc (3 * k + 1)) (fc (3 * k + 2)) = some (pb_shr q (fc (3 * k)).toNatClampNeg (fc (3 * k + 1)) (fc (3 * k + 2))) := by
      rw [ea, nI_clamp (by omega)]
      exact fX7_shareOfTen_eq hq ha
    have em : pb_mk (pb_wy fc q) (k + 1) = pb_mk (pb_wy fc q) k + (if pb_wy fc q k = true then 2 ^ k else 0) := rfl
    simp only [fX2_inTheWay_L4]
    rw [if_neg (nI_ge hk (by omega)), c0, Option.bind_some, c1, Option.bind_some, c2, Option.bind_some, es, Option.bind_some, pb_mk_or _ (by omega), Option.bind_some, nI_1, em]
    by_cases h : pb_shr q (fc (3 * k)).toNatClampNeg (fc (3 * k + 1)) (fc (3 * k + 2)) = 0
    · rw [if_pos h, if_pos (show pb_wy fc q k = true from decide_eq_true h)]
    · rw [if_neg h, if_neg (show ¬ pb_wy fc q k = true from fun hh => h (of_decide_eq_true hh))]; rfl
  · simp only [fX2_inTheWay_L4]
    rw [if_pos (nI_le (Nat.le_refl _) (by omega))]
theorem pb_way_lt (fc : Nat → Int32) (q : Nat) {nf : Nat} (hn : nf ≤ 10) : pb_mk (pb_wy fc q) nf < 1024 := Nat.lt_of_lt_of_le (pb_mk_lt _ nf) (Nat.pow_le_pow_right (n := 2) (by omega) hn)
theorem fX2_fewest_eq {O lc fc : Nat → Int32} {nl nf : Nat} (hn : nf ≤ 10) (fo : pb_findsOK fc nf) (hO : ∀ q, q < 128 → O q = pb_bI (pb_poss lc nl q)) : ∃ x, fX2_fewestInTheWay 3 10 30 O (nI nf) fc = some x ∧ pb_best (pb_poss lc nl) (fun q => pb_mk (pb_wy fc q) nf) 128 x := by
  unfold fX2_fewestInTheWay
  obtain ⟨r, e1, e2⟩ := pb_lp_inv (body := fun y => fX2_fewestInTheWay_L4 3 10 30 O (nI nf) fc y.1 y.2) (fun y => ∃ k x, k ≤ 128 ∧ y = (x, nI k) ∧ pb_best (pb_poss lc nl) (fun q => pb_mk (pb_wy fc q) nf) k x) (fun y => 128 - y.2.toNatClampNeg) (fun r => pb_best (pb_poss lc nl) (fun q => pb_mk (pb_wy fc q) nf) 128 r.1) (by
    rintro y ⟨k, x, hk, rfl, hb⟩
    simp only [fX2_fewestInTheWay_L4]
    by_cases e : k = 128
    · subst e
      rw [if_pos (show (128 : Int32) ≤ nI 128 from nI_le (Nat.le_refl 128) (by omega))]
      exact Or.inr ⟨_, rfl, hb⟩
    · have h0 : ¬ (128 : Int32) ≤ nI k := nI_ge (b := 128) (show k < 128 by omega) (by decide)
      have hm : 128 - (nI (k + 1)).toNatClampNeg < 128 - (nI k).toNatClampNeg := by
        rw [nI_clamp (by omega), nI_clamp (by omega)]; omega
      have hw := pb_way_lt fc k hn
      rw [if_neg h0, if_pos (pb_okT (by omega) (by omega)), nI_clamp (show k < 2 ^ 31 by omega), hO k (by omega), fX2_inTheWay_eq hn fo (by omega), Option.bind_some, nI_1]
      rw [nI_clamp (show k < 2 ^ 31 by omega)] at hm
      left
      cases hp : pb_poss lc nl k with
      | false =>
        rw [pb_bI_f, if_pos rfl]
        exact ⟨_, rfl, ⟨k + 1, x, by omega, rfl, pb_best_skip hb hp⟩, hm⟩
      | true =>
        rw [pb_bI_t, if_neg pb_ne10]
        by_cases hx : x = -1
        · rw [if_pos hx]
          exact ⟨_, rfl, ⟨k + 1, _, by omega, rfl, pb_best_new hb (Or.inl hx) hp hw⟩, hm⟩
        · rw [if_neg hx]
          obtain ⟨m, hm1, rfl⟩ : ∃ m, m < 1024 ∧ x = nI m := by
            rcases hb with ⟨e, _⟩ | ⟨m, hm, e, _⟩
            · exact absurd e hx
            · exact ⟨m, hm, e⟩
          rw [fX2_isFewer_eq hw hm1, Option.bind_some]
          by_cases hl : pb_key (pb_mk (pb_wy fc k) nf) < pb_key m
          · rw [decide_eq_true hl, pb_bI_t, if_neg pb_ne10]
            exact ⟨_, rfl, ⟨k + 1, _, by omega, rfl, pb_best_new hb (Or.inr ⟨m, hm1, rfl, hl⟩) hp hw⟩, hm⟩
          · rw [decide_eq_false hl, pb_bI_f, if_pos rfl]
            exact ⟨_, rfl, ⟨k + 1, _, by omega, rfl, pb_best_keep hb hm1 (by simpa using hl)⟩, hm⟩) pb_FU (-1, 0) ⟨0, -1, by omega, rfl, Or.inl ⟨rfl, fun q hq => absurd hq (by omega)⟩⟩ (Nat.lt_of_le_of_lt (Nat.sub_le _ _) (pb_FU_gt (by omega)))
  rw [e1, Option.bind_some]
  exact ⟨_, rfl, e2⟩
def pb_fitS (lc : Nat → Int32) (nl : Nat) (fc : Nat → Int32) (nf s : Nat) : Bool := !decide (pb_sum (pb_wtS lc nl fc nf s) 128 ≤ 0)
theorem fX8_doped_eq {w lc fc : Nat → Int32} {nl nf : Nat} (al : Int64) (A : Nat → Int64) (w0 : w 0 = nI nl) (w1 : w 1 = nI nf) (hl : nl ≤ 8) (hn : nf ≤ 10) (lo : pb_lawsOK lc nl) (le : pb_eqv w (0 + 5) lc (3 * nl)) (fo : pb_findsOK fc nf) (fe : pb_eqv w (0 + 29) fc (3 * nf)) : ∃ x al' A', fX8_doped al w A = some (x, al', A') ∧ pb_best (pb_fitS lc nl fc nf) (fun s => s) (2 ^ nf) x := by
  have hN : 2 ^ nf ≤ 1024 := Nat.pow_le_pow_right (n := 2) (by omega) hn
  unfold fX8_doped
  obtain ⟨r, e1, e2⟩ := pb_lp_inv (body := fun y => fX8_doped_L4 w y.1 y.2.1 y.2.2.1 y.2.2.2) (fun y => ∃ k x al A, k ≤ 2 ^ nf ∧ y = (x, nI k, al, A) ∧ pb_best (pb_fitS lc nl fc nf) (fun s => s) k x) (fun y => 2 ^ nf - y.2.1.toNatClampNeg) (fun r => pb_best (pb_fitS lc nl fc nf) (fun s => s) (2 ^ nf) r.1) (by
    rintro y ⟨k, x, al, A, hk, rfl, hb⟩
    simp only [fX8_doped_L4]
    rw [w1, pb_shlB ⟨nf, by omega⟩]
    by_cases e : k = 2 ^ nf
    · subst e
      rw [if_pos (nI_le (Nat.le_refl (2 ^ nf)) (by omega))]
      exact Or.inr ⟨_, rfl, hb⟩
    · have hlt : k < 2 ^ nf := by omega
      have hm : 2 ^ nf - (nI (k + 1)).toNatClampNeg < 2 ^ nf - (nI k).toNatClampNeg := by
        rw [nI_clamp (by omega), nI_clamp (by omega)]; omega
      rw [if_neg (nI_ge hlt (by omega))]
      left
      have hgo : (x = -1 ∨ ∃ m, m < 1024 ∧ x = nI m ∧ pb_key k < pb_key m) → ∃ y, fX8_doped_J37 w x (nI k) al A 1 = some (Sum.inl y) ∧ (∃ k x al A, k ≤ 2 ^ nf ∧ y = (x, nI k, al, A) ∧ pb_best (pb_fitS lc nl fc nf) (fun s => s) k x) ∧ 2 ^ nf - y.2.1.toNatClampNeg < 2 ^ nf - (nI k).toNatClampNeg := by
        intro hx
        unfold fX8_doped_J37
        rw [if_neg pb_ne10, fX8_weighAll_eq al A w0 w1 hl hn lo le fo fe (show k < 1024 by omega), Option.bind_some, nI_1]
        by_cases hs : pb_sum (pb_wtS lc nl fc nf k) 128 ≤ 0
        · rw [if_pos hs]
          exact ⟨_, rfl, ⟨k + 1, x, _, _, by omega, rfl, pb_best_skip hb (by unfold pb_fitS; rw [decide_eq_true hs]; rfl)⟩, hm⟩
        · rw [if_neg hs]
          exact ⟨_, rfl, ⟨k + 1, _, _, _, by omega, rfl, pb_best_new hb hx (by unfold pb_fitS; rw [decide_eq_false hs]; rfl) (show k < 1024 by omega)⟩, hm⟩
      by_cases hx : x = -1
      · rw [if_pos hx, Option.bind_some]
        exact hgo (Or.inl hx)
      · rw [if_neg hx]
        obtain ⟨m, hm1, rfl, hmk⟩ : ∃ m, m < 1024 ∧ x = nI m ∧ m < k := by
          rcases hb with ⟨e, _⟩ | ⟨m, hm, e, ⟨q, hq, _, e2⟩, _⟩
          · exact absurd e hx
          · exact ⟨m, hm, e, by rw [e2]; exact hq⟩
        have c1 := pb_bcn_le k 10
        have c2 := pb_bcn_le m 10
        rw [fX8_ones_eq (show k < 1024 by omega), fX8_ones_eq hm1, Option.bind_some, Option.bind_some]
        by_cases hc : pb_bcn m 10 ≤ pb_bcn k 10
        · rw [if_pos ((nI_leI (by omega) (by omega)).mpr hc), Option.bind_some]
          unfold fX8_doped_J37
          rw [if_pos rfl, nI_1]
          exact ⟨_, rfl, ⟨k + 1, _, _, _, by omega, rfl, pb_best_keep hb hm1 (by unfold pb_key; omega)⟩, hm⟩
        · rw [if_neg (fun h => hc ((nI_leI (by omega) (by omega)).mp h)), Option.bind_some]
          exact hgo (Or.inr ⟨m, hm1, rfl, by unfold pb_key; omega⟩)) pb_FU (-1, 0, al, A) ⟨0, -1, al, A, Nat.zero_le _, rfl, Or.inl ⟨rfl, fun q hq => absurd hq (by omega)⟩⟩ (Nat.lt_of_le_of_lt (Nat.sub_le _ _) (pb_FU_gt (by omega)))
  rw [e1, Option.bind_some]
  exact ⟨_, _, _, rfl, e2⟩
theorem pb_shareS_nn {fc : Nat → Int32} {nf s q k : Nat} (ho : pb_findsOK fc nf) (hk : k < nf) : pb_nn (pb_shareS fc s q k) 10 := by
  unfold pb_shareS
  split
  · exact ⟨1, by omega, rfl⟩
  · exact pb_share_nn ho hk
theorem pb_prod_z {g : Nat → Int64} {n : Nat} (hn : n ≤ 10) (h : ∀ k, k < n → pb_nn (g k) 10) : pb_prod g n ≤ 0 ↔ ∃ k, k < n ∧ g k = 0 := by
  induction n with
  | zero => exact ⟨fun h => absurd h (show ¬ (1 : Int64) ≤ 0 by decide), fun ⟨k, h, _⟩ => absurd h (by omega)⟩
  | succ n ih =>
    have ih := ih (by omega) (fun k hk => h k (by omega))
    obtain ⟨a, ha, ea⟩ := pb_prod_nn (fun k hk => h k (show k < n + 1 by have : k < n := hk; omega))
    obtain ⟨b, hb, eb⟩ := h n (by omega)
    have h10 : 10 ^ n ≤ 10 ^ 10 := Nat.pow_le_pow_right (by omega) (by omega)
    have hab : a * b ≤ 10 ^ 10 * 10 := Nat.mul_le_mul (Nat.le_trans ha h10) hb
    have e : pb_prod g (n + 1) = Int64.ofNat (a * b) := by rw [pb_prod, ea, eb, pb_oN_mul]
    rw [pb_nn_0 e (by omega), Nat.mul_eq_zero]
    rw [pb_nn_0 ea (by omega)] at ih
    constructor
    · rintro (h0 | h0)
      · obtain ⟨k, h1, h2⟩ := ih.mp h0
        exact ⟨k, by omega, h2⟩
      · exact ⟨n, by omega, by rw [eb, h0]; rfl⟩
    · rintro ⟨k, h1, h2⟩
      by_cases hkn : k = n
      · subst hkn
        rw [eb] at h2
        exact Or.inr ((pb_oN_eq0 (by omega)).mp h2)
      · exact Or.inl (ih.mpr ⟨k, by omega, h2⟩)
theorem pb_toI64_0 (x : Int32) : x.toInt64 = 0 ↔ x = 0 := by
  constructor
  · intro h
    have := congrArg Int64.toInt h
    rw [Int32.toInt_toInt64] at this
    exact Int32.toInt_inj.mp this
  · intro h; rw [h]; rfl
theorem pb_fitS_iff {lc fc : Nat → Int32} {nl nf s : Nat} (hn : nf ≤ 10) (fo : pb_findsOK fc nf) : pb_fitS lc nl fc nf s = true ↔ ∃ q, q < 128 ∧ pb_poss lc nl q = true ∧ ∀ k, (pb_mk (pb_wy fc q) nf).testBit k = true → s.testBit k = true := by
  have hnn : ∀ q, pb_nn (pb_prod (pb_shareS fc s q) nf) (10 ^ 10) := fun q => by
    obtain ⟨a, ha, ea⟩ := pb_prod_nn (fun k hk => pb_shareS_nn (s := s) (q := q) fo hk)
    exact ⟨a, Nat.le_trans ha (Nat.pow_le_pow_right (by omega) hn), ea⟩
  have hw : ∀ q, pb_nn (pb_wtS lc nl fc nf s q) (10 ^ 10) := fun q => by
    unfold pb_wtS
    split
    · rw [Int64.one_mul]; exact hnn q
    · rw [Int64.zero_mul]; exact ⟨0, by omega, rfl⟩
  obtain ⟨t, ht, et, hz⟩ := pb_sum_nn (n := 128) (fun q _ => hw q)
  have hz := hz (by omega)
  have h1 : pb_sum (pb_wtS lc nl fc nf s) 128 ≤ 0 ↔ ∀ q, q < 128 → pb_wtS lc nl fc nf s q ≤ 0 := (pb_nn_0 et (by omega)).trans hz
  have h2 : ∀ q, pb_poss lc nl q = true → (pb_wtS lc nl fc nf s q ≤ 0 ↔ ∃ k, k < nf ∧ s.testBit k = false ∧ pb_wy fc q k = true) := by
    intro q hp
    have : pb_wtS lc nl fc nf s q = pb_prod (pb_shareS fc s q) nf := by
      unfold pb_wtS
      rw [if_pos hp, Int64.one_mul]
    rw [this, pb_prod_z hn (fun k hk => pb_shareS_nn fo hk)]
    constructor
    · rintro ⟨k, hk, h0⟩
      unfold pb_shareS at h0
      cases hs : s.testBit k with
      | true => rw [if_pos hs] at h0; exact absurd h0 (by decide)
      | false =>
        rw [if_neg (by rw [hs]; decide)] at h0
        exact ⟨k, hk, hs, decide_eq_true ((pb_toI64_0 _).mp h0)⟩
    · rintro ⟨k, hk, hs, h0⟩
      refine ⟨k, hk, ?_⟩
      unfold pb_shareS
      rw [if_neg (by rw [hs]; decide)]
      exact (pb_toI64_0 _).mpr (of_decide_eq_true h0)
  have h3 : ∀ q, ¬ pb_poss lc nl q = true → pb_wtS lc nl fc nf s q ≤ 0 := by
    intro q hp
    unfold pb_wtS
    rw [if_neg hp, Int64.zero_mul]
    exact Int64.le_refl _
  unfold pb_fitS
  constructor
  · intro h
    have h0 : ¬ pb_sum (pb_wtS lc nl fc nf s) 128 ≤ 0 := fun hh => by rw [decide_eq_true hh] at h; exact absurd h (by decide)
    rw [h1] at h0
    by_cases hx : ∃ q, q < 128 ∧ pb_poss lc nl q = true ∧ ¬ pb_wtS lc nl fc nf s q ≤ 0
    · obtain ⟨q, hq, hp, h4⟩ := hx
      refine ⟨q, hq, hp, fun k hk => ?_⟩
      rw [pb_mk_bit, Bool.and_eq_true] at hk
      have hkn : k < nf := of_decide_eq_true hk.1
      cases hs : s.testBit k with
      | true => rfl
      | false => exact absurd ((h2 q hp).mpr ⟨k, hkn, hs, hk.2⟩) h4
    · refine absurd (fun q hq => ?_) h0
      by_cases hp : pb_poss lc nl q = true
      · by_cases h4 : pb_wtS lc nl fc nf s q ≤ 0
        · exact h4
        · exact absurd ⟨q, hq, hp, h4⟩ hx
      · exact h3 q hp
  · rintro ⟨q, hq, hp, h4⟩
    have h0 : ¬ pb_sum (pb_wtS lc nl fc nf s) 128 ≤ 0 := by
      rw [h1]
      intro h5
      obtain ⟨k, hk, hs, h6⟩ := (h2 q hp).mp (h5 q hq)
      have := h4 k (by rw [pb_mk_bit, decide_eq_true hk, h6]; rfl)
      rw [hs] at this
      exact absurd this (by decide)
    rw [decide_eq_false h0]
    rfl
theorem pb_doped_same {lc fc : Nat → Int32} {nl nf : Nat} {x y : Int32} (hn : nf ≤ 10) (fo : pb_findsOK fc nf) (hx : pb_best (pb_poss lc nl) (fun q => pb_mk (pb_wy fc q) nf) 128 x) (hy : pb_best (pb_fitS lc nl fc nf) (fun s => s) (2 ^ nf) y) : x = y := by
  rcases hx with ⟨rfl, h⟩ | ⟨m, hm, rfl, ⟨q, hq, hp, em⟩, h3⟩
  · rcases hy with ⟨rfl, _⟩ | ⟨m', hm', rfl, ⟨s, hs, hf, _⟩, _⟩
    · rfl
    · obtain ⟨q, hq, hp, _⟩ := (pb_fitS_iff hn fo).mp hf
      rw [h q hq] at hp
      exact absurd hp (by decide)
  · have hml : m < 2 ^ nf := by rw [em]; exact pb_mk_lt _ _
    have hmf : pb_fitS lc nl fc nf m = true := (pb_fitS_iff hn fo).mpr ⟨q, hq, hp, fun k hk => by rw [em]; exact hk⟩
    rcases hy with ⟨rfl, h⟩ | ⟨m', hm', rfl, ⟨s, hs, hf, es⟩, h4⟩
    · rw [h m hml] at hmf
      exact absurd hmf (by decide)
    · have es : m' = s := es
      subst es
      obtain ⟨q', hq', hp', h5⟩ := (pb_fitS_iff hn fo).mp hf
      have k1 : pb_key m ≤ pb_key (pb_mk (pb_wy fc q') nf) := h3 q' hq' hp'
      have k2 := pb_key_mono h5
      have k3 : pb_key m' ≤ pb_key m := h4 m hml hmf
      rw [pb_key_inj hm hm' (by omega)]
