/-! ===== facts as bits; claims; laws ===== -/
theorem pb_sh32 : ∀ a, a < 32 → ((nI a &&& 31).toBitVec.smod 32).toNat = a := by decide +kernel
theorem pb_bit_iff {q a : Nat} (hq : q < 2 ^ 31) (ha : a < 32) : ((nI q >>> (nI a &&& 31)) &&& 1 = 1) ↔ q.testBit a = true := by
  rw [pk_shrN hq _ a (pb_sh32 a ha), pk_andN (Nat.lt_of_le_of_lt (Nat.div_le_self _ _) (by omega)) 1 (by decide), show (1 : Int32) = nI 1 from rfl, nI_eq (by have := Nat.mod_lt (q / 2 ^ a) (show 0 < 2 ^ 1 by decide); omega) (by decide), Nat.testBit_eq_decide_div_mod_eq]
  simp
theorem fX7_wasSo_eq {q a : Nat} (hq : q < 2 ^ 31) (ha : a < 32) : fX7_wasSo (nI q) (nI a) = some (pb_bI (q.testBit a)) := by
  unfold fX7_wasSo
  by_cases h : q.testBit a = true
  · rw [if_pos ((pb_bit_iff hq ha).mpr h), h]; rfl
  · have h2 : q.testBit a = false := by simpa using h
    rw [if_neg (fun e => h ((pb_bit_iff hq ha).mp e)), h2]; rfl
theorem fX8_has_eq {q a : Nat} (hq : q < 2 ^ 31) (ha : a < 32) : fX8_has (nI q) (nI a) = some (pb_bI (q.testBit a)) := fX7_wasSo_eq hq ha
/-- a claim of kind k over two facts -/
def pb_cl (k : Nat) (x y : Bool) : Bool := if k = 0 then x else if k = 1 then !x else if k = 2 then x && y else if k = 3 then x || y else if k = 4 then !(x || y) else x && !y
def pb_claim (k a b q : Nat) : Bool := pb_cl k (q.testBit a) (q.testBit b)
theorem fX7_claimHolds_eq {k a b q : Nat} (hk : k < 6) (ha : a < 7) (hb : b < 7) (hq : q < 128) : fX7_claimHolds (nI k) (nI a) (nI b) (nI q) = some (pb_bI (pb_claim k a b q)) := by
  unfold fX7_claimHolds pb_claim
  rw [fX7_wasSo_eq (by omega) (by omega), fX7_wasSo_eq (by omega) (by omega), Option.bind_some, Option.bind_some]
  generalize q.testBit a = x
  generalize q.testBit b = y
  rcases (show k = 0 ∨ k = 1 ∨ k = 2 ∨ k = 3 ∨ k = 4 ∨ k = 5 by omega) with rfl | rfl | rfl | rfl | rfl | rfl <;> cases x <;> cases y <;> rfl
theorem fX8_isSo_eq {k a b q : Nat} (hk : k < 6) (ha : a < 7) (hb : b < 7) (hq : q < 128) : fX8_isSo (nI k) (nI a) (nI b) (nI q) = some (pb_bI (pb_claim k a b q)) := fX7_claimHolds_eq hk ha hb hq
theorem fX7_lawKept_eq {k : Nat} (hk : k < 4) (x y : Bool) : fX7_lawKept (nI k) (pb_bI x) (pb_bI y) = some (pb_bI (pb_law k x y)) := by
  rcases (show k = 0 ∨ k = 1 ∨ k = 2 ∨ k = 3 by omega) with rfl | rfl | rfl | rfl <;> cases x <;> cases y <;> rfl
theorem pb_poss_succ (lc : Nat → Int32) (k q : Nat) : pb_poss lc (k + 1) q = (pb_poss lc k q && pb_law (lc (3 * k)).toNatClampNeg (q.testBit (lc (3 * k + 1)).toNatClampNeg) (q.testBit (lc (3 * k + 2)).toNatClampNeg)) := by
  unfold pb_poss
  rw [List.range_succ, List.all_append]
  simp
theorem pb_poss_mono {lc : Nat → Int32} {k n q : Nat} (h : k ≤ n) (hf : pb_poss lc k q = false) : pb_poss lc n q = false := by
  induction n with
  | zero => have : k = 0 := by omega
            subst this; exact hf
  | succ n ih =>
    by_cases e : k = n + 1
    · subst e; exact hf
    · rw [pb_poss_succ, ih (by omega)]; rfl
theorem fX8_poss_step {i x y : Bool} {kk : Nat} (hk : kk < 4) (n : Int32) : (if pb_bI i = 0 then some (Sum.inl (0, n)) else if nI kk = 0 then if pb_bI x = 0 then some (Sum.inl (1, n)) else if pb_bI y = 0 then some (Sum.inl (0, n)) else some (Sum.inl (1, n)) else if nI kk = 1 then if pb_bI x = 0 then some (Sum.inl (1, n)) else if pb_bI y = 0 then some (Sum.inl (1, n)) else some (Sum.inl (0, n)) else if nI kk = 2 then if pb_bI x = 0 then if pb_bI y = 0 then some (Sum.inl (0, n)) else some (Sum.inl (1, n)) else some (Sum.inl (1, n)) else if pb_bI x = pb_bI y then some (Sum.inl (1, n)) else some (Sum.inl (0, n)) : Option ((Int32 × Int32) ⊕ (Int32 × Int32))) = some (Sum.inl (pb_bI (i && pb_law kk x y), n)) := by
  rcases (show kk = 0 ∨ kk = 1 ∨ kk = 2 ∨ kk = 3 by omega) with rfl | rfl | rfl | rfl <;> cases i <;> cases x <;> cases y <;> rfl
theorem fX8_isPossible_eq {w lc : Nat → Int32} {nl q : Nat} (w0 : w 0 = nI nl) (hn : nl ≤ 8) (ho : pb_lawsOK lc nl) (he : pb_eqv w (0 + 5) lc (3 * nl)) (hq : q < 128) : fX8_isPossible w (nI q) = some (pb_bI (pb_poss lc nl q)) := by
  unfold fX8_isPossible
  rw [show ((1 : Int32), (0 : Int32)) = ((fun k => (pb_bI (pb_poss lc k q), nI k)) 0 : Int32 × Int32) from rfl]
  rw [pb_lp_iter (fun k => (pb_bI (pb_poss lc k q), nI k)) nl (pb_bI (pb_poss lc nl q), nI nl) ?_ ?_ pb_FU (pb_FU_gt (by omega))]
  · simp only [Option.bind_some, fX8_isPossible_E4]
    exact pb_isB_ite _ _
  · intro k hk
    obtain ⟨⟨kk, hkk, ek⟩, ⟨a, ha, ea⟩, ⟨b, hb, eb⟩⟩ := ho k hk
    have i0 : (5 : Int32) + 3 * nI k = nI (5 + 3 * k) := by rw [show (3 : Int32) * nI k = nI (3 * k) from pk_mul 3 k]; exact nI_add 5 _
    have g0 : w (5 + 3 * k) = nI kk := by rw [← ek]; have := he (3 * k) (by omega); rw [Nat.zero_add] at this; exact this
    have g1 : w (5 + 3 * k + 1) = nI a := by rw [← ea]; have := he (3 * k + 1) (by omega); rw [Nat.zero_add, ← Nat.add_assoc] at this; exact this
    have g2 : w (5 + 3 * k + 2) = nI b := by rw [← eb]; have := he (3 * k + 2) (by omega); rw [Nat.zero_add, ← Nat.add_assoc] at this; exact this
    simp only [fX8_isPossible_L4]
    rw [w0, if_neg (nI_ge hk (by omega)), i0, show nI (5 + 3 * k) + 1 = nI (5 + 3 * k + 1) from nI_1 _, show nI (5 + 3 * k) + 2 = nI (5 + 3 * k + 2) from nI_add _ 2, if_pos (pb_okT (by omega) (by omega)), nI_clamp (by omega), g1, fX8_has_eq (by omega) (by omega), Option.bind_some, if_pos (pb_okT (by omega) (by omega)), nI_clamp (by omega), g2, fX8_has_eq (by omega) (by omega), Option.bind_some, if_pos (pb_okT (by omega) (by omega)), nI_clamp (by omega), g0, Option.bind_some]
    rw [fX8_poss_step hkk, pb_poss_succ, ek, ea, eb, nI_clamp (by omega), nI_clamp (by omega), nI_clamp (by omega), nI_1]
  · simp only [fX8_isPossible_L4]
    rw [w0, if_pos (nI_le (Nat.le_refl _) (by omega))]
theorem fX2_keepsAll_eq {M : Int32} {lc : Nat → Int32} {nl n q : Nat} (hn : 3 * nl ≤ n) (hb : n < 1000) (ho : pb_lawsOK lc nl) (hq : q < 128) : fX2_keepsAll 3 M n (nI nl) lc (nI q) = some (pb_bI (pb_poss lc nl q)) := by
  unfold fX2_keepsAll
  have key : ∃ r, pb_lp (fun y => fX2_keepsAll_L2 3 M n (nI nl) lc (nI q) y) pb_FU (nI 0) = some r ∧ Sum.elim (fun q => fX2_keepsAll_E2 q) (fun r => some r) r = some (pb_bI (pb_poss lc nl q)) := by
    refine pb_lp_inv (fun y => ∃ k, k ≤ nl ∧ y = nI k ∧ pb_poss lc k q = true) (fun y => nl - y.toNatClampNeg) (fun r => Sum.elim (fun q => fX2_keepsAll_E2 q) (fun r => some r) r = some (pb_bI (pb_poss lc nl q))) ?_ pb_FU (nI 0) ⟨0, by omega, rfl, rfl⟩ (pb_FU_gt (by omega))
    rintro y ⟨k, hk, rfl, hp⟩
    by_cases e : k = nl
    · subst e
      right
      refine ⟨Sum.inl (nI k), ?_, ?_⟩
      · simp only [fX2_keepsAll_L2]
        rw [if_pos (nI_le (Nat.le_refl _) (by omega))]
      · rw [hp]; rfl
    · have hlt : k < nl := by omega
      obtain ⟨⟨kk, hkk, ek⟩, ⟨a, ha, ea⟩, ⟨b, hb2, eb⟩⟩ := ho k hlt
      have c0 : fX6_cell 3 M n (nI nl) lc (nI k) 0 = some (nI kk) := by rw [← ek]; exact fX6_cell3 (c := 0) hlt (by omega) hn hb
      have c1 : fX6_cell 3 M n (nI nl) lc (nI k) 1 = some (nI a) := by rw [← ea]; exact fX6_cell3 (c := 1) hlt (by omega) hn hb
      have c2 : fX6_cell 3 M n (nI nl) lc (nI k) 2 = some (nI b) := by rw [← eb]; exact fX6_cell3 (c := 2) hlt (by omega) hn hb
      have hs : fX2_keepsAll_L2 3 M n (nI nl) lc (nI q) (nI k) = if pb_bI (pb_law kk (q.testBit a) (q.testBit b)) = 0 then some (Sum.inr (Sum.inr 0)) else some (Sum.inl (nI (k + 1))) := by
        simp only [fX2_keepsAll_L2]
        rw [if_neg (nI_ge hlt (by omega)), c0, c1, c2]
        simp only [Option.bind_some]
        rw [fX7_wasSo_eq (by omega) (by omega), fX7_wasSo_eq (by omega) (by omega)]
        simp only [Option.bind_some]
        rw [fX7_lawKept_eq hkk, Option.bind_some, nI_1]
      have hp2 : pb_poss lc (k + 1) q = pb_law kk (q.testBit a) (q.testBit b) := by
        rw [pb_poss_succ, ek, ea, eb, nI_clamp (by omega), nI_clamp (by omega), nI_clamp (by omega), hp, Bool.true_and]
      rw [hs]
      cases hl : pb_law kk (q.testBit a) (q.testBit b) with
      | true =>
        left
        refine ⟨nI (k + 1), rfl, ⟨k + 1, by omega, rfl, by rw [hp2, hl]⟩, ?_⟩
        rw [nI_clamp (by omega), nI_clamp (by omega)]
        omega
      | false =>
        right
        refine ⟨Sum.inr 0, rfl, ?_⟩
        rw [pb_poss_mono (show k + 1 ≤ nl by omega) (by rw [hp2, hl])]
        rfl
  obtain ⟨r, h1, h2⟩ := key
  rw [show (0 : Int32) = nI 0 from rfl, h1, Option.bind_some]
  exact h2
