/-! ===== bets by which one wins whatever was ===== -/
def pb_bs (g : Nat → Int32) (T : Nat) : Nat → Int32
  | 0 => 0
  | n + 1 => pb_bs g T n + (if T.testBit n = true then g n else 0)
theorem pb_bs_congr {g : Nat → Int32} {S T n : Nat} (h : ∀ k, k < n → S.testBit k = T.testBit k) : pb_bs g S n = pb_bs g T n := by
  induction n with
  | zero => rfl
  | succ n ih => rw [pb_bs, pb_bs, ih (fun k hk => h k (by omega)), h n (by omega)]
def pb_pay (bc : Nat → Int32) (k : Nat) : Int32 := bc (5 * k + 3) * bc (5 * k + 4)
def pb_stk (bc : Nat → Int32) (k : Nat) : Int32 := bc (5 * k + 3)
def pb_up (P : Nat → Int32) (h : Nat) (x : Int32) (k : Nat) : Nat → Int32 := fun j => if h ≤ j ∧ j < h + k then P (j - h) + x else P j
theorem pb_up_step {P : Nat → Int32} {h k : Nat} {x : Int32} (hk : k < h) : upd (pb_up P h x k) (k + h) (pb_up P h x k k + x) = pb_up P h x (k + 1) := by
  have e : pb_up P h x k k = P k := if_neg (by omega)
  rw [e]
  funext j
  show (if j = k + h then P k + x else pb_up P h x k j) = pb_up P h x (k + 1) j
  unfold pb_up
  by_cases h1 : j = k + h
  · rw [if_pos h1, if_pos (by omega), show j - h = k by omega]
  · rw [if_neg h1]
    by_cases h2 : h ≤ j ∧ j < h + k
    · rw [if_pos h2, if_pos (by omega)]
    · rw [if_neg h2, if_neg (by omega)]
theorem pb_up_0 (P : Nat → Int32) (h : Nat) (x : Int32) : P = pb_up P h x 0 := by
  funext j
  unfold pb_up
  rw [if_neg (by omega)]
theorem fX1_sumSets_in {P Q : Nat → Int32} {s p : Int32} {h : Nat} (hh : h ≤ 128) : pb_lp (fun y => fX1_sumSets_L55 s p (nI h) y.1 y.2.1 y.2.2) pb_FU (0, P, Q) = some (nI h, pb_up P h p h, pb_up Q h s h) := by
  rw [show ((0 : Int32), P, Q) = ((fun k => (nI k, pb_up P h p k, pb_up Q h s k)) 0 : Int32 × (Nat → Int32) × (Nat → Int32)) from Prod.ext rfl (Prod.ext (pb_up_0 P h p) (pb_up_0 Q h s))]
  rw [pb_lp_iter (fun k => (nI k, pb_up P h p k, pb_up Q h s k)) h (nI h, pb_up P h p h, pb_up Q h s h) ?_ ?_ pb_FU (pb_FU_gt (by omega))]
  · intro k hk
    have o1 : pb_ok (nI k) 256 = true := pb_okT (by omega) (by omega)
    have o2 : pb_ok (nI (k + h)) 256 = true := pb_okT (by omega) (by omega)
    simp only [fX1_sumSets_L55]
    rw [if_neg (nI_ge hk (by omega)), if_pos o1, nI_add k h, if_pos o2, nI_clamp (show k + h < 2 ^ 31 by omega), nI_clamp (show k < 2 ^ 31 by omega), Option.bind_some, if_pos o1, if_pos o2, Option.bind_some, pb_up_step hk, pb_up_step hk, nI_1]
  · simp only [fX1_sumSets_L55]
    rw [if_pos (nI_le (Nat.le_refl _) (by omega))]
theorem pb_up_bs {g P : Nat → Int32} {b : Nat} {x : Int32} (hx : x = g b) (hP : ∀ T, T < 2 ^ b → P T = pb_bs g T b) (T : Nat) (hT : T < 2 ^ (b + 1)) : pb_up P (2 ^ b) x (2 ^ b) T = pb_bs g T (b + 1) := by
  rw [Nat.pow_succ] at hT
  show _ = pb_bs g T b + (if T.testBit b = true then g b else 0)
  unfold pb_up
  by_cases h : T < 2 ^ b
  · rw [if_neg (by omega), hP T h, Nat.testBit_lt_two_pow h, if_neg (by decide), Int32.add_zero]
  · have e : T = 2 ^ b + (T - 2 ^ b) := by omega
    have t : T.testBit b = true := by
      rw [e, Nat.testBit_two_pow_add_eq, Nat.testBit_lt_two_pow (by omega)]; rfl
    rw [if_pos (by omega), hP _ (by omega), t, if_pos rfl, hx]
    congr 1
    refine pb_bs_congr (fun k hk => ?_)
    conv => rhs; rw [e]
    exact (Nat.testBit_two_pow_add_gt hk _).symm
theorem fX1_sumSets_eq {bc : Nat → Int32} {nb : Nat} (P Q : Nat → Int32) (h8 : nb ≤ 8) : ∃ P' Q', fX1_sumSets 5 8 40 P Q (nI nb) bc = some (P', Q') ∧ ∀ T, T < 2 ^ nb → P' T = pb_bs (pb_pay bc) T nb ∧ Q' T = pb_bs (pb_stk bc) T nb := by
  unfold fX1_sumSets
  rw [Option.bind_some, Option.bind_some]
  obtain ⟨r, e1, e2⟩ := pb_lp_inv (body := fun y => fX1_sumSets_L16 5 8 40 (nI nb) bc y.1 y.2.1 y.2.2) (fun y => ∃ b P Q, b ≤ nb ∧ y = (nI b, P, Q) ∧ ∀ T, T < 2 ^ b → P T = pb_bs (pb_pay bc) T b ∧ Q T = pb_bs (pb_stk bc) T b) (fun y => nb - y.1.toNatClampNeg) (fun r => ∀ T, T < 2 ^ nb → r.2.1 T = pb_bs (pb_pay bc) T nb ∧ r.2.2 T = pb_bs (pb_stk bc) T nb) (by
    rintro y ⟨b, P, Q, hb, rfl, h⟩
    simp only [fX1_sumSets_L16]
    by_cases e : b = nb
    · subst e
      rw [if_pos (nI_le (Nat.le_refl _) (by omega))]
      exact Or.inr ⟨_, rfl, h⟩
    · have hlt : b < nb := by omega
      have h0 : ¬ (8 : Int32) ≤ nI b := nI_ge (b := 8) (show b < 8 by omega) (by decide)
      have hp : 2 ^ b ≤ 128 := Nat.pow_le_pow_right (n := 2) (by omega) (show b ≤ 7 by omega)
      have c3 : fX6_cell 5 8 40 (nI nb) bc (nI b) 3 = some (bc (5 * b + 3)) := fX6_cell5 (c := 3) hlt (by omega) (by omega) (by omega)
      have c4 : fX6_cell 5 8 40 (nI nb) bc (nI b) 4 = some (bc (5 * b + 4)) := fX6_cell5 (c := 4) hlt (by omega) (by omega) (by omega)
      rw [if_neg (nI_ge hlt (by omega)), if_neg h0, c3, Option.bind_some, c4, Option.bind_some, Option.bind_some, pb_shlB ⟨b, by omega⟩, Option.bind_some, fX1_sumSets_in hp, Option.bind_some]
      unfold fX1_sumSets_E55
      rw [nI_1]
      refine Or.inl ⟨_, rfl, ⟨b + 1, _, _, by omega, rfl, fun T hT => ⟨pb_up_bs rfl (fun T hT => (h T hT).1) T hT, pb_up_bs rfl (fun T hT => (h T hT).2) T hT⟩⟩, ?_⟩
      simp only []
      rw [nI_clamp (by omega), nI_clamp (by omega)]
      omega) pb_FU (0, upd P 0 0, upd Q 0 0) ⟨0, _, _, by omega, rfl, fun T hT => by
        have : T = 0 := by omega
        subst this
        exact ⟨rfl, rfl⟩⟩ (Nat.lt_of_le_of_lt (Nat.sub_le _ _) (pb_FU_gt (by omega)))
  rw [e1, Option.bind_some]
  exact ⟨_, _, rfl, e2⟩
/-- which bets hold in a past -/
def pb_hb (bc : Nat → Int32) (q k : Nat) : Bool := pb_claim (bc (5 * k)).toNatClampNeg (bc (5 * k + 1)).toNatClampNeg (bc (5 * k + 2)).toNatClampNeg q
theorem fX1_heldSet_eq {bc : Nat → Int32} {nb q : Nat} (h8 : nb ≤ 8) (ho : pb_betsOK bc nb) (hq : q < 128) : fX1_heldSet 5 8 40 (nI nb) bc (nI q) = some (nI (pb_mk (pb_hb bc q) nb)) := by
  unfold fX1_heldSet
  rw [show ((0 : Int32), (0 : Int32)) = ((fun k => (nI (pb_mk (pb_hb bc q) k), nI k)) 0 : Int32 × Int32) from rfl]
  rw [pb_lp_iter (fun k => (nI (pb_mk (pb_hb bc q) k), nI k)) nb (nI (pb_mk (pb_hb bc q) nb), nI nb) ?_ ?_ pb_FU (pb_FU_gt (by omega))]
  · rfl
  · intro k hk
    have h0 : ¬ (8 : Int32) ≤ nI k := nI_ge (b := 8) (show k < 8 by omega) (by decide)
    have eh : fX7_betHolds 5 8 40 (nI nb) bc (nI k) (nI q) = some (pb_bI (pb_hb bc q k)) := fX7_betHolds_eq (by omega) (by omega) ho hk hq
    have em : pb_mk (pb_hb bc q) (k + 1) = pb_mk (pb_hb bc q) k + (if pb_hb bc q k = true then 2 ^ k else 0) := rfl
    simp only [fX1_heldSet_L4]
    rw [if_neg (nI_ge hk (by omega)), if_neg h0, eh, Option.bind_some, pb_mk_or _ (by omega), Option.bind_some, nI_1, em]
    cases pb_hb bc q k with
    | true => rw [pb_bI_t, if_neg pb_ne10, if_pos rfl]
    | false => rw [pb_bI_f, if_pos rfl, if_neg (by decide)]; rfl
  · simp only [fX1_heldSet_L4]
    rw [if_pos (nI_le (Nat.le_refl _) (by omega))]
theorem pb_hs_lt (bc : Nat → Int32) (q : Nat) {nb : Nat} (h8 : nb ≤ 8) : pb_mk (pb_hb bc q) nb < 256 := Nat.lt_of_lt_of_le (pb_mk_lt _ nb) (Nat.pow_le_pow_right (n := 2) (by omega) h8)
/-- the sets of bets that hold together in a past that fits -/
def pb_HS (V : Nat → Int64) (bc : Nat → Int32) (nb c : Nat) (H : Nat → Int32) (k : Nat) : Prop := (∀ j, j < c → ∃ q, q < k ∧ ¬ V q ≤ 0 ∧ H j = nI (pb_mk (pb_hb bc q) nb)) ∧ ∀ q, q < k → ¬ V q ≤ 0 → ∃ j, j < c ∧ H j = nI (pb_mk (pb_hb bc q) nb)
theorem fX1_list_zero (S : Nat → Int32) : ∃ d S', pb_lp (fun y => fX1_listHeldSets_L2 y.1 y.2) pb_FU (0, S) = some (d, S') ∧ ∀ s, s < 256 → S' s = 0 := by
  obtain ⟨r, e1, e2⟩ := pb_lp_inv (body := fun y => fX1_listHeldSets_L2 y.1 y.2) (fun y => ∃ k S, k ≤ 256 ∧ y = (nI k, S) ∧ ∀ s, s < k → S s = 0) (fun y => 256 - y.1.toNatClampNeg) (fun r => ∀ s, s < 256 → r.2 s = 0) (by
    rintro y ⟨k, S, hk, rfl, h⟩
    simp only [fX1_listHeldSets_L2]
    by_cases e : k = 256
    · subst e
      rw [if_pos (show (256 : Int32) ≤ nI 256 from nI_le (Nat.le_refl 256) (by omega))]
      exact Or.inr ⟨_, rfl, h⟩
    · have h0 : ¬ (256 : Int32) ≤ nI k := nI_ge (b := 256) (show k < 256 by omega) (by decide)
      rw [if_neg h0, if_pos (pb_okT (by omega) (by omega)), Option.bind_some, nI_1, nI_clamp (show k < 2 ^ 31 by omega)]
      refine Or.inl ⟨_, rfl, ⟨k + 1, _, by omega, rfl, fun s hs => ?_⟩, ?_⟩
      · by_cases hsk : s = k
        · subst hsk; exact if_pos rfl
        · exact (if_neg hsk).trans (h s (by omega))
      · simp only []
        rw [nI_clamp (by omega)]
        omega) pb_FU (0, S) ⟨0, S, by omega, rfl, fun s hs => absurd hs (by omega)⟩ (Nat.lt_of_le_of_lt (Nat.sub_le _ _) (pb_FU_gt (by omega)))
  exact ⟨_, _, e1, e2⟩
theorem fX1_listHeldSets_eq {bc : Nat → Int32} {W V : Nat → Int64} {nb : Nat} (c0 : Int32) (S H : Nat → Int32) (h8 : nb ≤ 8) (ho : pb_betsOK bc nb) (hV : ∀ q, q < 128 → W q = V q) : ∃ c S' H', fX1_listHeldSets 5 8 40 c0 S H (nI nb) bc W = some (nI c, S', H') ∧ c ≤ 128 ∧ pb_HS V bc nb c H' 128 := by
  obtain ⟨d, S0, e0, hS0⟩ := fX1_list_zero S
  unfold fX1_listHeldSets
  rw [e0, Option.bind_some]
  unfold fX1_listHeldSets_E2
  obtain ⟨r, e1, c, S', H', hc, rfl, hh⟩ := pb_lp_inv (body := fun y => fX1_listHeldSets_L29 5 8 40 (nI nb) bc W y.1 y.2.1 y.2.2.1 y.2.2.2) (fun y => ∃ k c S H, k ≤ 128 ∧ c ≤ k ∧ y = (nI k, nI c, S, H) ∧ (∀ s, s < 256 → S s = 0 ∨ ∃ j, j < c ∧ H j = nI s) ∧ pb_HS V bc nb c H k) (fun y => 128 - y.1.toNatClampNeg) (fun r => ∃ c S' H', c ≤ 128 ∧ r = (nI 128, nI c, S', H') ∧ pb_HS V bc nb c H' 128) (by
    rintro y ⟨k, c, S, H, hk, hck, rfl, h1, h2, h3⟩
    simp only [fX1_listHeldSets_L29]
    by_cases e : k = 128
    · subst e
      rw [if_pos (show (128 : Int32) ≤ nI 128 from nI_le (Nat.le_refl 128) (by omega))]
      exact Or.inr ⟨_, rfl, c, S, H, hck, rfl, h2, h3⟩
    · have h0 : ¬ (128 : Int32) ≤ nI k := nI_ge (b := 128) (show k < 128 by omega) (by decide)
      have hs := pb_hs_lt bc k h8
      have eh := fX1_heldSet_eq h8 ho (show k < 128 by omega)
      generalize hg : pb_mk (pb_hb bc k) nb = s at hs eh
      have os : pb_ok (nI s) 256 = true := pb_okT (by omega) (by omega)
      have hm : 128 - (nI (k + 1)).toNatClampNeg < 128 - (nI k).toNatClampNeg := by
        rw [nI_clamp (by omega), nI_clamp (by omega)]; omega
      rw [if_neg h0, if_pos (pb_okT (show k < 128 by omega) (by omega)), eh, Option.bind_some, if_pos os, if_pos os, nI_clamp (show k < 2 ^ 31 by omega), nI_clamp (show s < 2 ^ 31 by omega), hV k (by omega), Option.bind_some, if_pos (pb_okT (show c < 128 by omega) (by omega)), nI_clamp (show c < 2 ^ 31 by omega), Option.bind_some, Option.bind_some, nI_1, nI_1]
      rw [nI_clamp (show k < 2 ^ 31 by omega)] at hm
      left
      by_cases hv : V k ≤ 0
      · rw [if_pos hv]
        refine ⟨_, rfl, ⟨k + 1, c, S, H, by omega, by omega, rfl, h1, ?_, ?_⟩, hm⟩
        · intro j hj
          obtain ⟨q, hq, h4⟩ := h2 j hj
          exact ⟨q, by omega, h4⟩
        · intro q hq hvq
          by_cases hqk : q = k
          · subst hqk; exact absurd hv hvq
          · exact h3 q (by omega) hvq
      · rw [if_neg hv]
        by_cases hz : S s = 0
        · rw [if_pos hz]
          refine ⟨_, rfl, ⟨k + 1, c + 1, _, _, by omega, by omega, rfl, ?_, ?_, ?_⟩, hm⟩
          · intro s' hs'
            by_cases hss : s' = s
            · subst hss
              exact Or.inr ⟨c, by omega, if_pos rfl⟩
            · rcases h1 s' hs' with h4 | ⟨j, hj, h4⟩
              · exact Or.inl ((if_neg hss).trans h4)
              · exact Or.inr ⟨j, by omega, (if_neg (by omega)).trans h4⟩
          · intro j hj
            by_cases hjc : j = c
            · subst hjc
              exact ⟨k, by omega, hv, (if_pos rfl).trans (by rw [hg])⟩
            · obtain ⟨q, hq, h4, h5⟩ := h2 j (by omega)
              exact ⟨q, by omega, h4, (if_neg hjc).trans h5⟩
          · intro q hq hvq
            by_cases hqk : q = k
            · subst hqk
              exact ⟨c, by omega, (if_pos rfl).trans (by rw [hg])⟩
            · obtain ⟨j, hj, h4⟩ := h3 q (by omega) hvq
              exact ⟨j, by omega, (if_neg (by omega)).trans h4⟩
        · rw [if_neg hz]
          obtain ⟨j0, hj0, e0⟩ : ∃ j, j < c ∧ H j = nI s := by
            rcases h1 s hs with h4 | h4
            · exact absurd h4 hz
            · exact h4
          refine ⟨_, rfl, ⟨k + 1, c, S, H, by omega, by omega, rfl, h1, ?_, ?_⟩, hm⟩
          · intro j hj
            obtain ⟨q, hq, h4⟩ := h2 j hj
            exact ⟨q, by omega, h4⟩
          · intro q hq hvq
            by_cases hqk : q = k
            · subst hqk
              exact ⟨j0, hj0, by rw [hg]; exact e0⟩
            · exact h3 q (by omega) hvq) pb_FU (0, 0, S0, H) ⟨0, 0, S0, H, by omega, by omega, rfl, fun s hs => Or.inl (hS0 s hs), fun j hj => absurd hj (by omega), fun q hq => absurd hq (by omega)⟩ (Nat.lt_of_le_of_lt (Nat.sub_le _ _) (pb_FU_gt (by omega)))
  rw [e1, Option.bind_some]
  exact ⟨c, S', H', rfl, hc, hh⟩
/-- what a set wins where h holds -/
def pb_win (P Q : Nat → Int32) (S h : Nat) : Int32 := P (h &&& S) - Q (S - (h &&& S))
theorem fX1_leastWin_eq {H P Q : Nat → Int32} {c S : Nat} {fl : Int32} (hs : Nat → Nat) (hH : ∀ j, j < c → H j = nI (hs j)) (hc0 : 0 < c) (hc : c ≤ 128) (hS : S < 256) (hB : ∀ j, j < c → (pb_win P Q S (hs j)).toInt ≤ 78409) : ∃ r, fX1_leastWin (nI c) H P Q (nI S) fl = some r ∧ ((r = 0 ∧ ∃ j, j < c ∧ pb_win P Q S (hs j) < fl) ∨ (∀ j, j < c → fl ≤ pb_win P Q S (hs j)) ∧ (∃ j, j < c ∧ r = pb_win P Q S (hs j)) ∧ ∀ j, j < c → r ≤ pb_win P Q S (hs j)) := by
  unfold fX1_leastWin
  obtain ⟨r, e1, x, ex, hx⟩ := pb_lp_inv (body := fun y => fX1_leastWin_L6 (nI c) H P Q (nI S) fl y.1 y.2) (fun y => ∃ k x, k ≤ c ∧ y = (x, nI k) ∧ (∀ j, j < k → fl ≤ pb_win P Q S (hs j)) ∧ (∀ j, j < k → x ≤ pb_win P Q S (hs j)) ∧ ((k = 0 ∧ x = 78409) ∨ ∃ j, j < k ∧ x = pb_win P Q S (hs j))) (fun y => c - y.2.toNatClampNeg) (fun r => ∃ x, Sum.elim (fun q => fX1_leastWin_E6 q.1 q.2) (fun r => some r) r = some x ∧ ((x = 0 ∧ ∃ j, j < c ∧ pb_win P Q S (hs j) < fl) ∨ (∀ j, j < c → fl ≤ pb_win P Q S (hs j)) ∧ (∃ j, j < c ∧ x = pb_win P Q S (hs j)) ∧ ∀ j, j < c → x ≤ pb_win P Q S (hs j))) (by
    rintro y ⟨k, x, hk, rfl, h1, h2, h3⟩
    simp only [fX1_leastWin_L6]
    by_cases e : k = c
    · subst e
      rw [if_pos (nI_le (Nat.le_refl _) (by omega))]
      refine Or.inr ⟨_, rfl, x, rfl, Or.inr ⟨h1, ?_, h2⟩⟩
      rcases h3 with ⟨h4, _⟩ | h4
      · omega
      · exact h4
    · have hlt : k < c := by omega
      have ha : hs k &&& S ≤ S := Nat.and_le_right
      have hm : c - (nI (k + 1)).toNatClampNeg < c - (nI k).toNatClampNeg := by
        rw [nI_clamp (by omega), nI_clamp (by omega)]; omega
      rw [if_neg (nI_ge hlt (by omega)), if_pos (pb_okT (show k < 128 by omega) (by omega)), nI_clamp (show k < 2 ^ 31 by omega), hH k hlt, pb_nI_and, Option.bind_some, pk_sub ha, if_pos (pb_okT (show hs k &&& S < 256 by omega) (by omega)), if_pos (pb_okT (show S - (hs k &&& S) < 256 by omega) (by omega)), nI_clamp (show hs k &&& S < 2 ^ 31 by omega), nI_clamp (show S - (hs k &&& S) < 2 ^ 31 by omega), Option.bind_some, Option.bind_some, nI_1]
      rw [nI_clamp (show k < 2 ^ 31 by omega)] at hm
      have eW : P (hs k &&& S) - Q (S - (hs k &&& S)) = pb_win P Q S (hs k) := rfl
      rw [eW]
      by_cases hf : fl ≤ pb_win P Q S (hs k)
      · rw [if_pos hf]
        left
        refine ⟨_, rfl, ⟨k + 1, _, by omega, rfl, ?_, ?_, ?_⟩, hm⟩
        · intro j hj
          by_cases hjk : j = k
          · subst hjk; exact hf
          · exact h1 j (by omega)
        · intro j hj
          by_cases hw : pb_win P Q S (hs k) < x
          · rw [if_pos hw]
            by_cases hjk : j = k
            · subst hjk; exact Int32.le_refl _
            · exact Int32.le_trans (Int32.le_of_lt hw) (h2 j (by omega))
          · rw [if_neg hw]
            by_cases hjk : j = k
            · subst hjk; exact Int32.not_lt.mp hw
            · exact h2 j (by omega)
        · right
          by_cases hw : pb_win P Q S (hs k) < x
          · rw [if_pos hw]; exact ⟨k, by omega, rfl⟩
          · rw [if_neg hw]
            rcases h3 with ⟨rfl, rfl⟩ | ⟨j, hj, h4⟩
            · refine ⟨0, by omega, Int32.le_antisymm (Int32.not_lt.mp hw) ?_⟩
              rw [Int32.le_iff_toInt_le]
              rw [show Int32.toInt 78409 = 78409 by decide]
              exact hB 0 hc0
            · exact ⟨j, by omega, h4⟩
      · rw [if_neg hf]
        exact Or.inr ⟨_, rfl, 0, rfl, Or.inl ⟨rfl, k, hlt, Int32.not_le.mp hf⟩⟩) pb_FU (78409, 0) ⟨0, _, by omega, rfl, fun j hj => absurd hj (by omega), fun j hj => absurd hj (by omega), Or.inl ⟨rfl, rfl⟩⟩ (Nat.lt_of_le_of_lt (Nat.sub_le _ _) (pb_FU_gt (by omega)))
  rw [e1, Option.bind_some]
  exact ⟨x, ex, hx⟩
theorem pb_sub_bit {S T : Nat} (k : Nat) (hle : T ≤ S) (h : ∀ k, T.testBit k = true → S.testBit k = true) : (S - T).testBit k = (S.testBit k && !T.testBit k) := by
  induction k generalizing S T with
  | zero =>
    have h0 := h 0
    simp only [Nat.testBit_zero, decide_eq_true_eq] at h0 ⊢
    by_cases hT : T % 2 = 1
    · have := h0 hT
      rw [decide_eq_false (show ¬ (S - T) % 2 = 1 by omega), decide_eq_true hT]
      simp
    · have e2 : decide ((S - T) % 2 = 1) = decide (S % 2 = 1) := decide_eq_decide.mpr (by omega)
      rw [decide_eq_false hT, e2]
      simp
  | succ k ih =>
    have h0 := h 0
    simp only [Nat.testBit_zero, decide_eq_true_eq] at h0
    rw [Nat.testBit_succ, Nat.testBit_succ, Nat.testBit_succ, show (S - T) / 2 = S / 2 - T / 2 by omega]
    exact ih (by omega) (fun j hj => by
      have := h (j + 1)
      rw [Nat.testBit_succ, Nat.testBit_succ] at this
      exact this hj)
theorem pb_ring1 (a b c : Int32) (h : a = b - c) (p : Int32) : a + p = b + p - c := by
  rw [h, Int32.sub_eq_add_neg, Int32.sub_eq_add_neg, Int32.add_assoc, Int32.add_assoc, Int32.add_comm (-c) p]
theorem pb_ring2 (a b c : Int32) (h : a = b - c) (p : Int32) : a + -p = b - (c + p) := by
  rw [h, Int32.sub_eq_add_neg, Int32.sub_eq_add_neg, Int32.neg_add, Int32.sub_eq_add_neg, Int32.add_assoc]
theorem pb_bs_gain {bc : Nat → Int32} {q S : Nat} {nb : Nat} (n : Nat) (hn : n ≤ nb) : pb_bs (pb_gain bc q) S n = pb_bs (pb_pay bc) (pb_mk (pb_hb bc q) nb &&& S) n - pb_bs (pb_stk bc) (S - (pb_mk (pb_hb bc q) nb &&& S)) n := by
  induction n with
  | zero => show (0 : Int32) = 0 - 0; decide
  | succ n ih =>
    have ih := ih (by omega)
    have b1 : (pb_mk (pb_hb bc q) nb).testBit n = pb_hb bc q n := by rw [pb_mk_bit, decide_eq_true (by omega)]; rfl
    have b2 : (S - (pb_mk (pb_hb bc q) nb &&& S)).testBit n = (S.testBit n && !(pb_hb bc q n)) := by
      rw [pb_sub_bit n Nat.and_le_right (fun k hk => by
        rw [Nat.testBit_and, Bool.and_eq_true] at hk
        exact hk.2), Nat.testBit_and, b1]
      cases S.testBit n <;> cases pb_hb bc q n <;> rfl
    have b3 : (pb_mk (pb_hb bc q) nb &&& S).testBit n = (pb_hb bc q n && S.testBit n) := by rw [Nat.testBit_and, b1]
    rw [pb_bs, pb_bs, pb_bs, b2, b3]
    generalize pb_bs (pb_gain bc q) S n = a at ih ⊢
    generalize pb_bs (pb_pay bc) (pb_mk (pb_hb bc q) nb &&& S) n = b at ih ⊢
    generalize pb_bs (pb_stk bc) (S - (pb_mk (pb_hb bc q) nb &&& S)) n = c at ih ⊢
    cases hS : S.testBit n with
    | false =>
      rw [Bool.and_false, Bool.false_and, if_neg (by decide), if_neg (by decide), if_neg (by decide), Int32.add_zero, Int32.add_zero, Int32.add_zero]
      exact ih
    | true =>
      rw [if_pos rfl]
      cases hh : pb_hb bc q n with
      | true =>
        have eg : pb_gain bc q n = pb_pay bc n := if_pos hh
        rw [eg]
        show a + pb_pay bc n = b + pb_pay bc n - (c + 0)
        rw [Int32.add_zero]
        exact pb_ring1 a b c ih _
      | false =>
        have eg : pb_gain bc q n = -(pb_stk bc n) := if_neg (by
          have : pb_claim (bc (5 * n)).toNatClampNeg (bc (5 * n + 1)).toNatClampNeg (bc (5 * n + 2)).toNatClampNeg q = false := hh
          rw [this]; decide)
        rw [eg]
        show a + -(pb_stk bc n) = b + 0 - (c + pb_stk bc n)
        rw [Int32.add_zero]
        exact pb_ring2 a b c ih _
theorem pb_bs_z3 {bc : Nat → Int32} {nb q S : Nat} (n : Nat) (hn : n ≤ nb) (h8 : nb ≤ 8) (ho : pb_betsOK bc nb) : pb_z3 (pb_bs (pb_gain bc q) S n) (n * 9801) := by
  induction n with
  | zero => exact ⟨by simp [pb_bs], by simp [pb_bs]⟩
  | succ n ih =>
    obtain ⟨a1, a2⟩ := ih (by omega)
    have hz : pb_z3 (if S.testBit n = true then pb_gain bc q n else 0) 9801 := by
      split
      · exact pb_gain_z3 ho (show n < nb by omega)
      · exact ⟨by decide, by decide⟩
    obtain ⟨b1, b2⟩ := hz
    unfold pb_z3
    rw [pb_bs, Int32.toInt_add]
    generalize (pb_bs (pb_gain bc q) S n).toInt = x at a1 a2 ⊢
    generalize (if S.testBit n = true then pb_gain bc q n else 0).toInt = y at b1 b2 ⊢
    rw [pb_bm3 (B := 100000) (by omega) (by omega) (by omega)]
    omega
theorem fX8_sure_gain {w bc : Nat → Int32} {nb S q : Nat} (w2 : w 2 = nI nb) (h8 : nb ≤ 8) (ho : pb_betsOK bc nb) (he : pb_eqv w (0 + 59) bc (5 * nb)) (hS : S < 256) (hq : q < 128) : pb_lp (fun y => fX8_sure_L79 w (nI S) (nI q) y.1 y.2) pb_FU (0, 0) = some (pb_bs (pb_gain bc q) S nb, nI nb) := by
  rw [show ((0 : Int32), (0 : Int32)) = ((fun k => (pb_bs (pb_gain bc q) S k, nI k)) 0 : Int32 × Int32) from rfl]
  rw [pb_lp_iter (fun k => (pb_bs (pb_gain bc q) S k, nI k)) nb (pb_bs (pb_gain bc q) S nb, nI nb) ?_ ?_ pb_FU (pb_FU_gt (by omega))]
  · intro k hk
    have em : pb_bs (pb_gain bc q) S (k + 1) = pb_bs (pb_gain bc q) S k + (if S.testBit k = true then pb_gain bc q k else 0) := rfl
    simp only [fX8_sure_L79]
    rw [w2, if_neg (nI_ge hk (by omega)), fX8_has_eq (by omega) (by omega), Option.bind_some, fX8_gain_eq h8 ho he hk hq, Option.bind_some, nI_1, em]
    cases S.testBit k <;> rfl
  · simp only [fX8_sure_L79]
    rw [w2, if_pos (nI_le (Nat.le_refl _) (by omega))]
theorem fX8_sure_least {w bc : Nat → Int32} {W V : Nat → Int64} {t : Int64} {x0 : Int32} {nb S : Nat} (w2 : w 2 = nI nb) (h8 : nb ≤ 8) (ho : pb_betsOK bc nb) (he : pb_eqv w (0 + 59) bc (5 * nb)) (hS : S < 256) (hV : ∀ q, q < 128 → W q = V q) (hex : ∃ q, q < 128 ∧ ¬ V q ≤ 0) : ∃ x d, pb_lp (fun y => fX8_sure_L53 w (nI S) (x0, t, W) y.1 y.2) pb_FU (100000000, 0) = some (x, d) ∧ (∃ q, q < 128 ∧ ¬ V q ≤ 0 ∧ x = pb_bs (pb_gain bc q) S nb) ∧ ∀ q, q < 128 → ¬ V q ≤ 0 → x ≤ pb_bs (pb_gain bc q) S nb := by
  obtain ⟨r, e1, h1, h2⟩ := pb_lp_inv (body := fun y => fX8_sure_L53 w (nI S) (x0, t, W) y.1 y.2) (fun y => ∃ k x, k ≤ 128 ∧ y = (x, nI k) ∧ (∀ q, q < k → ¬ V q ≤ 0 → x ≤ pb_bs (pb_gain bc q) S nb) ∧ (((∀ q, q < k → V q ≤ 0) ∧ x = 100000000) ∨ ∃ q, q < k ∧ ¬ V q ≤ 0 ∧ x = pb_bs (pb_gain bc q) S nb)) (fun y => 128 - y.2.toNatClampNeg) (fun r => (∃ q, q < 128 ∧ ¬ V q ≤ 0 ∧ r.1 = pb_bs (pb_gain bc q) S nb) ∧ ∀ q, q < 128 → ¬ V q ≤ 0 → r.1 ≤ pb_bs (pb_gain bc q) S nb) (by
    rintro y ⟨k, x, hk, rfl, h1, h2⟩
    simp only [fX8_sure_L53]
    by_cases e : k = 128
    · subst e
      rw [if_pos (show (128 : Int32) ≤ nI 128 from nI_le (Nat.le_refl 128) (by omega))]
      refine Or.inr ⟨_, rfl, ?_, h1⟩
      rcases h2 with ⟨h3, _⟩ | h3
      · obtain ⟨q, hq, h4⟩ := hex
        exact absurd (h3 q hq) h4
      · exact h3
    · have h0 : ¬ (128 : Int32) ≤ nI k := nI_ge (b := 128) (show k < 128 by omega) (by decide)
      have hm : 128 - (nI (k + 1)).toNatClampNeg < 128 - (nI k).toNatClampNeg := by
        rw [nI_clamp (by omega), nI_clamp (by omega)]; omega
      rw [if_neg h0, if_pos (pb_okT (by omega) (by omega)), nI_clamp (show k < 2 ^ 31 by omega), hV k (by omega), fX8_sure_gain w2 h8 ho he hS (by omega), Option.bind_some, nI_1]
      rw [nI_clamp (show k < 2 ^ 31 by omega)] at hm
      left
      by_cases hv : V k ≤ 0
      · rw [if_pos hv]
        refine ⟨_, rfl, ⟨k + 1, x, by omega, rfl, ?_, ?_⟩, hm⟩
        · intro q hq hvq
          by_cases hqk : q = k
          · subst hqk; exact absurd hv hvq
          · exact h1 q (by omega) hvq
        · rcases h2 with ⟨h3, h4⟩ | ⟨q, hq, h3⟩
          · refine Or.inl ⟨fun q hq => ?_, h4⟩
            by_cases hqk : q = k
            · subst hqk; exact hv
            · exact h3 q (by omega)
          · exact Or.inr ⟨q, by omega, h3⟩
      · rw [if_neg hv]
        simp only [fX8_sure_E79]
        rw [nI_1]
        by_cases hx : x ≤ pb_bs (pb_gain bc k) S nb
        · rw [if_pos hx]
          refine ⟨_, rfl, ⟨k + 1, x, by omega, rfl, ?_, ?_⟩, hm⟩
          · intro q hq hvq
            by_cases hqk : q = k
            · subst hqk; exact hx
            · exact h1 q (by omega) hvq
          · rcases h2 with ⟨_, rfl⟩ | ⟨q, hq, h3⟩
            · obtain ⟨_, z2⟩ := pb_bs_z3 (q := k) (S := S) nb (Nat.le_refl _) h8 ho
              rw [Int32.le_iff_toInt_le, show Int32.toInt 100000000 = 100000000 by decide] at hx
              generalize (pb_bs (pb_gain bc k) S nb).toInt = z at hx z2
              omega
            · exact Or.inr ⟨q, by omega, h3⟩
        · rw [if_neg hx]
          refine ⟨_, rfl, ⟨k + 1, _, by omega, rfl, ?_, Or.inr ⟨k, by omega, hv, rfl⟩⟩, hm⟩
          intro q hq hvq
          by_cases hqk : q = k
          · subst hqk; exact Int32.le_refl _
          · exact Int32.le_trans (Int32.le_of_lt (Int32.not_le.mp hx)) (h1 q (by omega) hvq)) pb_FU (100000000, 0) ⟨0, _, by omega, rfl, fun q hq => absurd hq (by omega), Or.inl ⟨fun q hq => absurd hq (by omega), rfl⟩⟩ (Nat.lt_of_le_of_lt (Nat.sub_le _ _) (pb_FU_gt (by omega)))
  exact ⟨_, _, e1, h1, h2⟩
