/-! ===== words and numbers of a text ===== -/
def pb_vl (B : Nat → Int32) (s : Nat) : Nat → Int32
  | 0 => 0
  | k + 1 => ((10 * pb_vl B s k) + B (s + k)) - 48
theorem pb_w_fig {x : Int32} (h : pb_w x 48 57 = true) : ∃ d, d ≤ 9 ∧ x = nI (48 + d) := by
  have h1 : (48 : Int32) ≤ x ∧ x ≤ 57 := of_decide_eq_true h
  have h0 : ¬ x < 0 := by
    rw [Int32.lt_iff_toInt_lt, show Int32.toInt 0 = 0 by decide]
    have := Int32.le_iff_toInt_le.mp h1.1
    rw [show Int32.toInt 48 = 48 by decide] at this
    omega
  obtain ⟨j, hj, rfl⟩ := nI_of h0
  have a1 : 48 ≤ j := (nI_leI (a := 48) (by omega) hj).mp h1.1
  have a2 : j ≤ 57 := (nI_leI (b := 57) hj (by omega)).mp h1.2
  exact ⟨j - 48, by omega, by rw [show 48 + (j - 48) = j by omega]⟩
theorem pb_vl_ok {B : Nat → Int32} {s k : Nat} (hk : k ≤ 2) (h : ∀ j, s ≤ j → j < s + k → pb_w (B j) 48 57 = true) : ∃ x, x < 10 ^ k ∧ pb_vl B s k = nI x := by
  induction k with
  | zero => exact ⟨0, by omega, rfl⟩
  | succ k ih =>
    obtain ⟨x, hx, ex⟩ := ih (by omega) (fun j h1 h2 => h j h1 (by omega))
    obtain ⟨d, hd, ed⟩ := pb_w_fig (h (s + k) (by omega) (by omega))
    refine ⟨10 * x + d, by rw [Nat.pow_succ]; omega, ?_⟩
    rw [pb_vl, ex, ed, show (10 : Int32) * nI x = nI (10 * x) from pk_mul 10 x, nI_add]
    have : nI (10 * x + (48 + d)) - 48 = nI (10 * x + (48 + d) - 48) := pk_sub (b := 48) (by omega)
    rw [this, show 10 * x + (48 + d) - 48 = 10 * x + d by omega]
theorem fX3_numberHere_eq {B : Nat → Int32} {n s e : Nat} (hn : n ≤ 150) (hse : s ≤ e) (hen : e ≤ n) : fX3_numberHere (nI n) (nI s) (nI e) B = some (pb_vl B s (e - s)) := by
  unfold fX3_numberHere
  rw [show ((0 : Int32), nI s) = ((fun k => (pb_vl B s k, nI (s + k))) 0 : Int32 × Int32) from rfl]
  rw [pb_lp_iter (fun k => (pb_vl B s k, nI (s + k))) (e - s) (pb_vl B s (e - s), nI (s + (e - s))) ?_ ?_ pb_FU (pb_FU_gt (by omega))]
  · rfl
  · intro k hk
    simp only [fX3_numberHere_L7]
    rw [if_neg (nI_ge (by omega) (by omega)), if_neg (nI_ge (by omega) (by omega)), if_pos (pb_okT (by omega) (by omega)), nI_clamp (by omega), Option.bind_some, nI_1]
    rfl
  · simp only [fX3_numberHere_L7]
    rw [if_pos (nI_le (by omega) (by omega))]
theorem fX8_takes_sum {B T : Nat → Int32} {n s e : Nat} {x y : Int32} (hn : n ≤ 150) (hT : ∀ j, j < n → T j = B j) (hse : s ≤ e) (hen : e ≤ n) : pb_lp (fun z => fX8_takes_L35 (nI n) T (nI e, nI s, x, y) z.1 z.2) pb_FU (0, nI s) = some (pb_vl B s (e - s), nI e) := by
  rw [show ((0 : Int32), nI s) = ((fun k => (pb_vl B s k, nI (s + k))) 0 : Int32 × Int32) from rfl]
  rw [pb_lp_iter (fun k => (pb_vl B s k, nI (s + k))) (e - s) (pb_vl B s (e - s), nI (s + (e - s))) ?_ ?_ pb_FU (pb_FU_gt (by omega))]
  · rw [show s + (e - s) = e by omega]
  · intro k hk
    have eb : pb_by B n (s + k) = B (s + k) := if_pos (by omega)
    simp only [fX8_takes_L35]
    rw [if_neg (nI_ge (by omega) (by omega)), fX8_byteAt_eq hn (by omega) hT, eb, Option.bind_some, Option.bind_some, nI_1]
    rfl
  · simp only [fX8_takes_L35]
    rw [if_pos (nI_le (by omega) (by omega))]
/-- the next token is a number so great, or it is not -/
theorem fX_number {B T M nums nums2 cc : Nat → Int32} {n p k m lo h : Nat} (pl so st iw ig cs : Int32) (hn : n ≤ 150) (hT : ∀ j, j < n → T j = B j) (hp : p ≤ n) (hkm : k < m) (hm : m ≤ 5) (hM : M k = nI h) (hh : h < 1000) (hlo : lo = if k = 3 then 1 else 0) : ∃ s e z w f, s ≤ n ∧ p ≤ e ∧ e ≤ n ∧ ((∃ x, lo ≤ x ∧ x ≤ h ∧ p < e ∧ fX3_readRow_L11 m M (nI n) B cs cc (nI k) pl (nI p) so nums = some (Sum.inl (nI (k + 1), nI s, nI e, z, upd nums k (nI x))) ∧ fX8_takes (nI n) (nI p) st iw ig T nums2 (nI k) (nI lo) (nI h) = some (1, nI e, nI s, pb_bI w, pb_bI f, upd nums2 k (nI x))) ∨ (fX3_readRow_L11 m M (nI n) B cs cc (nI k) pl (nI p) so nums = some (Sum.inr (Sum.inr (0, nI s, nI e, z, nums, cs, cc))) ∧ ∃ nums3, fX8_takes (nI n) (nI p) st iw ig T nums2 (nI k) (nI lo) (nI h) = some (0, nI e, nI s, pb_bI w, pb_bI f, nums3))) := by
  obtain ⟨s, e, w, f, z, h1, h2, h3, e1, e2, htk⟩ := fX_token pl so st iw ig hn hT hp
  refine ⟨s, e, z, w, f, by omega, by omega, h3, ?_⟩
  have g1 : ¬ Int32.ofNat m ≤ nI k := nI_ge hkm (by omega)
  have g2 : ¬ (5 : Int32) ≤ nI k := nI_ge (b := 5) (by omega) (by omega)
  unfold fX3_readRow_L11 fX8_takes
  rw [if_neg g1, if_neg g2, e1, e2, Option.bind_some, Option.bind_some]
  dsimp only
  by_cases hz : z = 2
  case neg =>
    right
    rw [if_neg hz]
    refine ⟨rfl, nums2, ?_⟩
    rcases htk with ⟨_, _, _, rfl, _⟩ | ⟨_, _, _, rfl, _⟩ | ⟨_, _, _, rfl, ez, _⟩ | ⟨_, _, _, rfl, _⟩
    · rw [pb_bI_f, if_pos rfl]
    · rw [pb_bI_f, if_pos rfl]
    · by_cases h2' : e - s ≤ 2
      · rw [if_pos h2'] at ez; exact absurd ez hz
      · rw [pb_bI_t, if_neg pb_ne10, pk_sub h2, if_neg (show ¬ nI (e - s) ≤ 2 from nI_ge (a := 2) (by omega) (by omega))]
    · rw [pb_bI_f, if_pos rfl]
  have hfig : f = true ∧ s < e ∧ e - s ≤ 2 ∧ ∀ j, s ≤ j → j < e → pb_w (B j) 48 57 = true := by
    rcases htk with ⟨_, _, _, _, ez⟩ | ⟨_, _, _, _, ez, _⟩ | ⟨_, hse, _, hf, ez, hall⟩ | ⟨_, _, _, _, ez⟩
    · rw [hz] at ez; exact absurd ez (by decide)
    · rw [hz] at ez; exact absurd ez (by decide)
    · by_cases h2' : e - s ≤ 2
      · exact ⟨hf, hse, h2', hall⟩
      · rw [if_neg h2', hz] at ez; exact absurd ez (by decide)
    · rw [hz] at ez; split at ez <;> exact absurd ez (by decide)
  obtain ⟨rfl, hse, hle2, hall⟩ := hfig
  obtain ⟨x, hx, ex⟩ := pb_vl_ok (B := B) (s := s) (k := e - s) hle2 (fun j a b => hall j a (by omega))
  have hx100 : x < 100 := by
    have : 10 ^ (e - s) ≤ 10 ^ 2 := Nat.pow_le_pow_right (by omega) hle2
    omega
  have hok : pb_ok (nI k) m = true := pb_okT hkm (by omega)
  have hok5 : pb_ok (nI k) 5 = true := pb_okT (by omega) (by omega)
  have ein : fX8_in (Int32.toInt64 (nI x)) (Int32.toInt64 (nI lo)) (Int32.toInt64 (nI h)) = some (pb_bI (pb_w (nI x) (nI lo) (nI h))) := fX8_in_eq _ _ _
  have hlo1 : lo ≤ 1 := by rw [hlo]; split <;> omega
  have ew : pb_w (nI x) (nI lo) (nI h) = (decide (lo ≤ x) && decide (x ≤ h)) := by
    unfold pb_w
    rw [Bool.eq_iff_iff, Bool.and_eq_true, decide_eq_true_eq, decide_eq_true_eq, decide_eq_true_eq, nI_leI (by omega) (by omega), nI_leI (by omega) (by omega)]
  rw [if_pos hz, fX3_numberHere_eq hn h2 h3, ex, Option.bind_some, if_pos hok, nI_clamp (show k < 2 ^ 31 by omega), hM, pb_bI_t, if_neg pb_ne10, pk_sub h2, if_pos (show nI (e - s) ≤ 2 from nI_le (b := 2) hle2 (by decide)), fX8_takes_sum hn hT h2 h3, ex, Option.bind_some]
  unfold fX8_takes_E35
  rw [if_pos hok5, nI_clamp (show k < 2 ^ 31 by omega), Option.bind_some, ein, Option.bind_some, pb_isB_ite, ew]
  by_cases hxh : h < x
  · right
    rw [if_pos (nI_lt hxh (by omega)), decide_eq_false (show ¬ x ≤ h by omega), Bool.and_false]
    exact ⟨rfl, _, rfl⟩
  · rw [if_neg (nI_nlt (by omega) (by omega)), decide_eq_true (show x ≤ h by omega), Bool.and_true]
    by_cases hk3 : k = 3
    · subst hk3
      rw [if_pos rfl] at hlo
      subst hlo
      rw [if_pos (show nI 3 = 3 from rfl)]
      by_cases hx0 : x = 0
      · subst hx0
        right
        rw [if_pos (show nI 0 = 0 from rfl), Option.bind_some, decide_eq_false (by omega)]
        exact ⟨rfl, _, rfl⟩
      · left
        rw [if_neg (nI_ne0 (by omega) (by omega)), Option.bind_some, decide_eq_true (by omega)]
        refine ⟨x, by omega, by omega, by omega, ?_, rfl⟩
        show fX3_readRow_J66 _ _ _ _ = _
        unfold fX3_readRow_J66
        rw [if_pos hok5, Option.bind_some]
        rfl
    · rw [if_neg hk3] at hlo
      subst hlo
      left
      have hne : ¬ nI k = 3 := fun e => hk3 ((nI_eq (b := 3) (by omega) (by omega)).mp e)
      rw [if_neg hne, Option.bind_some, decide_eq_true (Nat.zero_le x)]
      refine ⟨x, by omega, by omega, by omega, ?_, rfl⟩
      show fX3_readRow_J66 _ _ _ _ = _
      unfold fX3_readRow_J66
      rw [if_pos hok5, Option.bind_some, nI_1, nI_clamp (by omega)]
/-- a word's name -/
def pb_nm (B C : Nat → Int32) (s e m : Nat) : Bool := decide (e - s = m) && !pb_any (fun k => !decide (B (s + k) = C k)) m
theorem fX3_isWord_eq {B C : Nat → Int32} {n s e m : Nat} (hn : n ≤ 150) (hm : m ≤ 4) (hse : s ≤ e) (hen : e ≤ n) : fX3_isWord m C (nI n) (nI s) (nI e) B = some (pb_bI (pb_nm B C s e m)) := by
  unfold fX3_isWord pb_nm
  rw [pk_sub hse]
  by_cases hl : e - s = m
  case neg =>
    rw [if_neg (show ¬ nI (e - s) = Int32.ofNat m from fun h => hl ((nI_eq (by omega) (by omega)).mp h)), decide_eq_false hl]
    rfl
  rw [if_pos (show nI (e - s) = Int32.ofNat m by rw [hl]; rfl), decide_eq_true hl]
  generalize hG : (fun k => !decide (B (s + k) = C k)) = G
  obtain ⟨r, e1, e2⟩ := pb_lp_inv (body := fun y => fX3_isWord_L20 m C (nI n) (nI s) B y) (fun y => ∃ k, k ≤ m ∧ y = nI k ∧ pb_any G k = false) (fun y => m - y.toNatClampNeg) (fun r => Sum.elim (fun q => fX3_isWord_E20 q) (fun r => some r) r = some (pb_bI (true && !pb_any G m))) (by
    rintro y ⟨k, hk, rfl, hy⟩
    simp only [fX3_isWord_L20]
    by_cases e : k = m
    · subst e
      rw [if_pos (show Int32.ofNat k ≤ nI k from Int32.le_refl _)]
      exact Or.inr ⟨_, rfl, by rw [hy]; rfl⟩
    · have hlt : k < m := by omega
      have g1 : ¬ Int32.ofNat m ≤ nI k := nI_ge hlt (by omega)
      rw [if_neg g1, nI_add, if_neg (nI_ge (by omega) (by omega)), if_pos (pb_okT (by omega) (by omega)), if_pos (pb_okT (by omega) (by omega)), nI_clamp (show s + k < 2 ^ 31 by omega), nI_clamp (show k < 2 ^ 31 by omega), nI_1]
      have hG2 : pb_any G (k + 1) = !decide (B (s + k) = C k) := by rw [pb_any, hy, ← hG]; rfl
      by_cases hc : B (s + k) = C k
      · rw [if_pos hc]
        rw [decide_eq_true hc] at hG2
        refine Or.inl ⟨_, rfl, ⟨k + 1, by omega, rfl, hG2⟩, ?_⟩
        rw [nI_clamp (by omega)]
        omega
      · rw [if_neg hc]
        rw [decide_eq_false hc] at hG2
        exact Or.inr ⟨_, rfl, by rw [pb_any_mono (show k + 1 ≤ m by omega) hG2]; rfl⟩) pb_FU 0 ⟨0, by omega, rfl, rfl⟩ (Nat.lt_of_le_of_lt (Nat.sub_le _ _) (pb_FU_gt (by omega)))
  rw [e1, Option.bind_some]
  exact e2
theorem fX8_isNamed_eq {B T C : Nat → Int32} {n s e m : Nat} {d : Int32} (hn : n ≤ 150) (hT : ∀ j, j < n → T j = B j) (hse : s ≤ e) (hen : e ≤ n) (hd : (d = 0 ∧ m = 3) ∨ (¬ d = 0 ∧ d = C 3 ∧ m = 4)) : fX8_isNamed (nI n) (nI e) (nI s) 1 T (C 0) (C 1) (C 2) d = some (pb_bI (pb_nm B C s e m)) := by
  unfold fX8_isNamed pb_nm
  rw [if_neg pb_ne10, pk_sub hse]
  have e0 : (if d = 0 then if nI (e - s) = 3 then some 1 else some 0 else if nI (e - s) = 4 then some 1 else some 0 : Option Int32) = some (pb_bI (decide (e - s = m))) := by
    rcases hd with ⟨h1, rfl⟩ | ⟨h1, _, rfl⟩
    · rw [if_pos h1]
      by_cases h : e - s = 3
      · rw [if_pos (by rw [h]; rfl), decide_eq_true h]; rfl
      · rw [if_neg (show ¬ nI (e - s) = 3 from fun h' => h ((nI_eq (b := 3) (by omega) (by omega)).mp h')), decide_eq_false h]; rfl
    · rw [if_neg h1]
      by_cases h : e - s = 4
      · rw [if_pos (by rw [h]; rfl), decide_eq_true h]; rfl
      · rw [if_neg (show ¬ nI (e - s) = 4 from fun h' => h ((nI_eq (b := 4) (by omega) (by omega)).mp h')), decide_eq_false h]; rfl
  rw [e0, Option.bind_some]
  unfold fX8_isNamed_J34
  by_cases hl : e - s = m
  case neg => rw [decide_eq_false hl]; rfl
  have hm3 : 3 ≤ m := by rcases hd with ⟨_, rfl⟩ | ⟨_, _, rfl⟩ <;> omega
  have y0 : fX8_byteAt (nI n) T (nI s) = some (B s) := (fX8_byteAt_eq hn (by omega) hT).trans (by rw [show pb_by B n s = B s from if_pos (by omega)])
  have y1 : fX8_byteAt (nI n) T (nI s + 1) = some (B (s + 1)) := by rw [nI_1]; exact (fX8_byteAt_eq hn (by omega) hT).trans (by rw [show pb_by B n (s + 1) = B (s + 1) from if_pos (by omega)])
  have y2 : fX8_byteAt (nI n) T (nI s + 2) = some (B (s + 2)) := by rw [show nI s + 2 = nI (s + 2) from nI_add s 2]; exact (fX8_byteAt_eq hn (by omega) hT).trans (by rw [show pb_by B n (s + 2) = B (s + 2) from if_pos (by omega)])
  rw [decide_eq_true hl, pb_bI_t, if_neg pb_ne10, y0, y1, y2]
  simp only [Option.bind_some]
  rcases hd with ⟨h1, rfl⟩ | ⟨h1, h2, rfl⟩
  · rw [if_pos h1]
    simp only [pb_any, Nat.add_zero]
    by_cases c0 : B s = C 0
    · by_cases c1 : B (s + 1) = C 1
      · by_cases c2 : B (s + 2) = C 2
        · rw [if_pos c0, if_pos c1, if_pos c2, decide_eq_true c0, decide_eq_true c1, decide_eq_true c2]; rfl
        · rw [if_pos c0, if_pos c1, if_neg c2, decide_eq_true c0, decide_eq_true c1, decide_eq_false c2]; rfl
      · rw [if_pos c0, if_neg c1, decide_eq_true c0, decide_eq_false c1]; rfl
    · rw [if_neg c0, decide_eq_false c0]; rfl
  · have y3 : fX8_byteAt (nI n) T (nI s + 3) = some (B (s + 3)) := by rw [show nI s + 3 = nI (s + 3) from nI_add s 3]; exact (fX8_byteAt_eq hn (by omega) hT).trans (by rw [show pb_by B n (s + 3) = B (s + 3) from if_pos (by omega)])
    rw [if_neg h1, y3, h2]
    simp only [pb_any, Nat.add_zero, Option.bind_some]
    by_cases c0 : B s = C 0
    · by_cases c1 : B (s + 1) = C 1
      · by_cases c2 : B (s + 2) = C 2
        · by_cases c3 : B (s + 3) = C 3
          · rw [if_pos c0, if_pos c1, if_pos c2, if_pos c3, decide_eq_true c0, decide_eq_true c1, decide_eq_true c2, decide_eq_true c3]; rfl
          · rw [if_pos c0, if_pos c1, if_pos c2, if_neg c3, decide_eq_true c0, decide_eq_true c1, decide_eq_true c2, decide_eq_false c3]; rfl
        · rw [if_pos c0, if_pos c1, if_neg c2, decide_eq_true c0, decide_eq_true c1, decide_eq_false c2, Bool.or_assoc]; rfl
      · rw [if_pos c0, if_neg c1, decide_eq_true c0, decide_eq_false c1]; simp [pb_bI]
    · rw [if_neg c0, decide_eq_false c0]; simp [pb_bI]
