/-! ===== numbers that are as told, and those that are not ===== -/
def pb_bI (b : Bool) : Int32 := if b then 1 else 0
theorem pb_bI_isB (b : Bool) : pb_isB (pb_bI b) = true := by cases b <;> decide
theorem pb_bI_t : pb_bI true = 1 := rfl
theorem pb_bI_f : pb_bI false = 0 := rfl
theorem pb_ne10 : ¬ (1 : Int32) = 0 := by decide
def pb_w (p lo hi : Int32) : Bool := decide (lo ≤ p ∧ p ≤ hi)
theorem pb_nlt {a b : Int32} : ¬ a < b ↔ b ≤ a := by rw [Int32.lt_iff_toInt_lt, Int32.le_iff_toInt_le]; omega
theorem pb_nle {a b : Int32} : ¬ a ≤ b ↔ b < a := by rw [Int32.lt_iff_toInt_lt, Int32.le_iff_toInt_le]; omega
theorem pb_nltL {a b : Int64} : ¬ a < b ↔ b ≤ a := by rw [Int64.lt_iff_toInt_lt, Int64.le_iff_toInt_le]; omega
theorem fX7_isWithin_eq (p lo hi : Int32) : fX7_isWithin p lo hi = some (pb_bI (pb_w p lo hi)) := by
  unfold fX7_isWithin pb_w
  by_cases h1 : p < lo
  · rw [if_pos h1, decide_eq_false (fun h => absurd h1 (pb_nlt.mpr h.1))]; rfl
  · rw [if_neg h1]
    by_cases h2 : hi < p
    · rw [if_pos h2, decide_eq_false (fun h => absurd h2 (pb_nlt.mpr h.2))]; rfl
    · rw [if_neg h2, decide_eq_true ⟨pb_nlt.mp h1, pb_nlt.mp h2⟩]; rfl
theorem pb_i2l_lt {a b : Int32} : a.toInt64 < b.toInt64 ↔ a < b := by
  rw [Int64.lt_iff_toInt_lt, Int32.lt_iff_toInt_lt, Int32.toInt_toInt64, Int32.toInt_toInt64]
theorem fX8_in_eq (p lo hi : Int32) : fX8_in p.toInt64 lo.toInt64 hi.toInt64 = some (pb_bI (pb_w p lo hi)) := by
  rw [← fX7_isWithin_eq]
  unfold fX8_in fX7_isWithin
  simp only [pb_i2l_lt]
theorem fX8_in_eq' (p lo hi : Int32) {a b : Int64} (ha : lo.toInt64 = a) (hb : hi.toInt64 = b) : fX8_in p.toInt64 a b = some (pb_bI (pb_w p lo hi)) := by
  subst ha; subst hb; exact fX8_in_eq p lo hi
theorem pb_isB_ite {α : Type} (b : Bool) (x : Option α) : (if pb_isB (pb_bI b) = true then x else none) = x := if_pos (pb_bI_isB b)
theorem fX7_isFact_eq (a : Int32) : fX7_isFact a = some (pb_bI (pb_w a 0 6)) := by
  unfold fX7_isFact
  rw [fX7_isWithin_eq, Option.bind_some, pb_isB_ite]
theorem fX8_isFact_eq (a : Int32) : fX8_isFact a = some (pb_bI (pb_w a 0 6)) := by
  unfold fX8_isFact
  rw [fX8_in_eq' a 0 6 (by decide) (by decide), Option.bind_some, pb_isB_ite]
theorem fX7_isPast_eq (a : Int32) : fX7_isPast a = some (pb_bI (pb_w a 0 127)) := by
  unfold fX7_isPast
  rw [fX7_isWithin_eq, Option.bind_some, pb_isB_ite]
theorem fX8_isPast_eq (a : Int32) : fX8_isPast a = some (pb_bI (pb_w a 0 127)) := by
  unfold fX8_isPast
  rw [fX8_in_eq' a 0 127 (by decide) (by decide), Option.bind_some, pb_isB_ite]
theorem pb_and3 (x y z : Bool) : (if pb_bI x = 0 then some 0 else if pb_bI y = 0 then some 0 else if pb_bI z = 0 then some 0 else some 1 : Option Int32) = some (pb_bI (x && y && z)) := by
  cases x <;> cases y <;> cases z <;> rfl
def pb_vF (a v r : Int32) : Bool := pb_w a 0 6 && pb_w v 0 1 && pb_w r 0 10
def pb_vC (k a b : Int32) : Bool := pb_w k 0 5 && pb_w a 0 6 && pb_w b 0 6
theorem fX7_isFind_eq (a v r : Int32) : fX7_isFind a v r = some (pb_bI (pb_vF a v r)) := by
  unfold fX7_isFind pb_vF
  simp only [fX7_isFact_eq, fX7_isWithin_eq, Option.bind_some]
  exact pb_and3 _ _ _
theorem fX8_isFind_eq (a v r : Int32) : fX8_isFind a v r = some (pb_bI (pb_vF a v r)) := by
  unfold fX8_isFind pb_vF
  simp only [fX8_isFact_eq, fX8_in_eq' v 0 1 (a := 0) (b := 1) (by decide) (by decide), fX8_in_eq' r 0 10 (a := 0) (b := 10) (by decide) (by decide), Option.bind_some]
  exact pb_and3 _ _ _
theorem fX7_isClaim_eq (k a b : Int32) : fX7_isClaim k a b = some (pb_bI (pb_vC k a b)) := by
  unfold fX7_isClaim pb_vC
  simp only [fX7_isFact_eq, fX7_isWithin_eq, Option.bind_some]
  exact pb_and3 _ _ _
theorem fX8_isClaim_eq (k a b : Int32) : fX8_isClaim k a b = some (pb_bI (pb_vC k a b)) := by
  unfold fX8_isClaim pb_vC
  simp only [fX8_isFact_eq, fX8_in_eq' k 0 5 (a := 0) (b := 5) (by decide) (by decide), Option.bind_some]
  exact pb_and3 _ _ _
def pb_vS (k a b s o : Int32) : Bool := pb_vC k a b && pb_w s 1 99 && pb_w o 0 99
theorem fX8_isStake_eq (k a b s o : Int32) : fX8_isStake k a b s o = some (pb_bI (pb_vS k a b s o)) := by
  unfold fX8_isStake pb_vS
  simp only [fX8_isClaim_eq, fX8_in_eq' s 1 99 (a := 1) (b := 99) (by decide) (by decide), fX8_in_eq' o 0 99 (a := 0) (b := 99) (by decide) (by decide), Option.bind_some]
  exact pb_and3 _ _ _
/-- a number that is as told is a number below the bound -/
theorem pb_w_nat {p : Int32} {n : Nat} (hn : n < 2 ^ 31) (h : pb_w p 0 (nI n) = true) : ∃ k : Nat, k ≤ n ∧ p = nI k := by
  have h1 : (0 : Int32) ≤ p ∧ p ≤ nI n := of_decide_eq_true h
  obtain ⟨j, hj, rfl⟩ := nI_of (pb_nlt.mpr h1.1)
  exact ⟨j, (nI_leI hj hn).mp h1.2, rfl⟩
theorem pb_w_lt {p : Int32} {n : Nat} (hn : n < 2 ^ 31) (h : pb_w p 0 (nI n) = true) : pb_lt p (n + 1) := by
  obtain ⟨k, hk, e⟩ := pb_w_nat hn h
  exact ⟨k, by omega, e⟩
theorem pb_vF_lt {a v r : Int32} (h : pb_vF a v r = true) : pb_lt a 7 ∧ pb_lt v 2 ∧ pb_lt r 11 := by
  unfold pb_vF at h
  rw [Bool.and_eq_true, Bool.and_eq_true] at h
  exact ⟨pb_w_lt (n := 6) (by decide) h.1.1, pb_w_lt (n := 1) (by decide) h.1.2, pb_w_lt (n := 10) (by decide) h.2⟩
theorem pb_vC_lt {k a b : Int32} (h : pb_vC k a b = true) : pb_lt k 6 ∧ pb_lt a 7 ∧ pb_lt b 7 := by
  unfold pb_vC at h
  rw [Bool.and_eq_true, Bool.and_eq_true] at h
  exact ⟨pb_w_lt (n := 5) (by decide) h.1.1, pb_w_lt (n := 6) (by decide) h.1.2, pb_w_lt (n := 6) (by decide) h.2⟩
theorem fX7_asBad_eq (b a : Int32) : fX7_asBad b a = some (a, b + 1) := rfl
theorem fX7_asNo_eq (b a : Int32) : fX7_asNo b a = some (a, b + 1) := rfl
theorem fX7_asFull_eq (b : Int32) : fX7_asFull b = some (-4, b + 1) := rfl
theorem fX8_bad_eq (f : Nat → Int32) : fX8_bad f = some (-2, upd f 0 (f 0 + 1)) := rfl
theorem fX8_badAs_eq (f : Nat → Int32) (a : Int32) : fX8_badAs f a = some (a, upd f 0 (f 0 + 1)) := rfl
theorem fX8_no_eq (f : Nat → Int32) : fX8_no f = some (-3, upd f 1 (f 1 + 1)) := rfl
theorem fX8_noAs_eq (f : Nat → Int32) (a : Int32) : fX8_noAs f a = some (a, upd f 1 (f 1 + 1)) := rfl
theorem fX8_full_eq (f : Nat → Int32) : fX8_full f = some (-4, upd f 2 (f 2 + 1)) := rfl
