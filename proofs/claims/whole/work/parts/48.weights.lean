/-! ===== what pasts weigh: the model, the class ===== -/
theorem pb_prod_mul (a b : Nat → Int64) (n : Nat) : pb_prod (fun k => a k * b k) n = pb_prod a n * pb_prod b n := by
  induction n with
  | zero => show (1 : Int64) = 1 * 1; rw [Int64.one_mul]
  | succ n ih =>
    simp only [pb_prod]
    rw [ih, Int64.mul_assoc, Int64.mul_assoc, ← Int64.mul_assoc (pb_prod b n), Int64.mul_comm (pb_prod b n) (a n), Int64.mul_assoc (a n)]
theorem pb_prod_congr {a b : Nat → Int64} {n : Nat} (h : ∀ k, k < n → a k = b k) : pb_prod a n = pb_prod b n := by
  induction n with
  | zero => rfl
  | succ n ih => rw [pb_prod, pb_prod, ih (fun k hk => h k (by omega)), h n (by omega)]
theorem pb_prod_one (n : Nat) : pb_prod (fun _ => 1) n = 1 := by
  induction n with
  | zero => rfl
  | succ n ih => rw [pb_prod, ih, Int64.one_mul]
theorem pb_prod_at (x : Int64) (a n : Nat) : pb_prod (fun k => if k = a then x else 1) n = if a < n then x else 1 := by
  induction n with
  | zero => rfl
  | succ n ih =>
    rw [pb_prod, ih]
    by_cases h : a < n
    · rw [if_pos h, if_neg (by omega), if_pos (by omega), Int64.mul_one]
    · rw [if_neg h]
      by_cases h2 : n = a
      · rw [if_pos h2, if_pos (by omega), Int64.one_mul]
      · rw [if_neg h2, if_neg (by omega), Int64.one_mul]
theorem pb_sum_congr {a b : Nat → Int64} {n : Nat} (h : ∀ k, k < n → a k = b k) : pb_sum a n = pb_sum b n := by
  induction n with
  | zero => rfl
  | succ n ih => rw [pb_sum, pb_sum, ih (fun k hk => h k (by omega)), h n (by omega)]
/-- a find's weight, without those of a set -/
def pb_shareS (fc : Nat → Int32) (s q k : Nat) : Int64 := if s.testBit k = true then 1 else pb_share fc q k
def pb_wtS (lc : Nat → Int32) (nl : Nat) (fc : Nat → Int32) (nf s q : Nat) : Int64 := (if pb_poss lc nl q = true then 1 else 0) * pb_prod (pb_shareS fc s q) nf
theorem pb_wtS_0 (lc : Nat → Int32) (nl : Nat) (fc : Nat → Int32) (nf q : Nat) : pb_wtS lc nl fc nf 0 q = pb_wt lc nl fc nf q := by
  unfold pb_wtS pb_wt
  have e : pb_prod (pb_shareS fc 0 q) nf = pb_prod (pb_share fc q) nf := pb_prod_congr (fun k _ => by unfold pb_shareS; rw [Nat.zero_testBit, if_neg (by decide)])
  rw [e]
  by_cases h : pb_poss lc nl q = true
  · rw [if_pos h, if_pos h, Int64.one_mul]
  · rw [if_neg h, if_neg h, Int64.zero_mul]
theorem fX8_weighed_step {w fc : Nat → Int32} {nf q s k : Nat} {v : Int64} (w1 : w 1 = nI nf) (hn : nf ≤ 10) (ho : pb_findsOK fc nf) (he : pb_eqv w (0 + 29) fc (3 * nf)) (hq : q < 128) (hs : s < 1024) (hk : k < nf) : fX8_weighed_L17 w (nI q) (nI s) v (nI k) = some (Sum.inl (v * pb_shareS fc s q k, nI (k + 1))) := by
  obtain ⟨⟨a, ha, ea⟩, ⟨vv, hv, ev⟩, ⟨r, hr, er⟩⟩ := ho k hk
  have i0 : (29 : Int32) + 3 * nI k = nI (29 + 3 * k) := by rw [show (3 : Int32) * nI k = nI (3 * k) from pk_mul 3 k]; exact nI_add 29 _
  have g0 : w (29 + 3 * k) = nI a := by rw [← ea]; have := he (3 * k) (by omega); rw [Nat.zero_add] at this; exact this
  have g1 : w (29 + 3 * k + 1) = nI vv := by rw [← ev]; have := he (3 * k + 1) (by omega); rw [Nat.zero_add, ← Nat.add_assoc] at this; exact this
  have g2 : w (29 + 3 * k + 2) = nI r := by rw [← er]; have := he (3 * k + 2) (by omega); rw [Nat.zero_add, ← Nat.add_assoc] at this; exact this
  unfold fX8_weighed_L17
  rw [w1, if_neg (nI_ge hk (by omega)), i0, if_pos (pb_okT (by omega) (by omega)), nI_clamp (by omega), g0, fX8_has_eq (by omega) (by omega), Option.bind_some, show nI (29 + 3 * k) + 1 = nI (29 + 3 * k + 1) from nI_1 _, if_pos (pb_okT (by omega) (by omega)), nI_clamp (by omega), g1]
  have hJ : ∀ z : Int32, fX8_weighed_J75 w (nI s) v (nI k) z = some (Sum.inl ((if s.testBit k = true then v * 1 else if z = 0 then v * (10 - nI r).toInt64 else v * (nI r).toInt64), nI (k + 1))) := by
    intro z
    unfold fX8_weighed_J75
    rw [i0, show nI (29 + 3 * k) + 2 = nI (29 + 3 * k + 2) from nI_add _ 2, if_pos (pb_okT (by omega) (by omega)), nI_clamp (by omega), g2, Option.bind_some, fX8_has_eq (by omega) (by omega), Option.bind_some, nI_1]
    cases s.testBit k with
    | true => rfl
    | false =>
      rw [if_pos (show pb_bI false = 0 from rfl)]
      by_cases hz : z = 0
      · rw [if_pos hz, if_pos hz]; rfl
      · rw [if_neg hz, if_neg hz]; rfl
  have hsh : pb_share fc q k = (if q.testBit a = decide (nI vv = 1) then nI r else 10 - nI r).toInt64 := by
    unfold pb_share pb_shr
    rw [ea, ev, er, nI_clamp (by omega)]
  unfold pb_shareS
  rw [hsh]
  unfold fX8_weighed_J67
  rcases (show vv = 0 ∨ vv = 1 by omega) with rfl | rfl
  · rw [if_neg (show ¬ nI 0 = 1 by decide), Option.bind_some]
    cases q.testBit a with
    | true =>
      rw [if_neg (show ¬ pb_bI true = 0 by decide), Option.bind_some, hJ, if_neg (show ¬ true = decide (nI 0 = 1) by decide)]
      cases s.testBit k <;> rfl
    | false =>
      rw [if_pos (show pb_bI false = 0 from rfl), Option.bind_some, hJ, if_pos (show false = decide (nI 0 = 1) by decide)]
      cases s.testBit k <;> rfl
  · rw [if_pos (show nI 1 = 1 from rfl), Option.bind_some]
    cases q.testBit a with
    | true =>
      rw [if_pos (show pb_bI true = 1 from rfl), Option.bind_some, hJ, if_pos (show true = decide (nI 1 = 1) by decide)]
      cases s.testBit k <;> rfl
    | false =>
      rw [if_neg (show ¬ pb_bI false = 1 by decide), Option.bind_some, hJ, if_neg (show ¬ false = decide (nI 1 = 1) by decide)]
      cases s.testBit k <;> rfl
theorem fX8_weighed_eq {w lc fc : Nat → Int32} {nl nf q s : Nat} (w0 : w 0 = nI nl) (w1 : w 1 = nI nf) (hl : nl ≤ 8) (hn : nf ≤ 10) (lo : pb_lawsOK lc nl) (le : pb_eqv w (0 + 5) lc (3 * nl)) (fo : pb_findsOK fc nf) (fe : pb_eqv w (0 + 29) fc (3 * nf)) (hq : q < 128) (hs : s < 1024) : fX8_weighed w (nI q) (nI s) = some (pb_wtS lc nl fc nf s q) := by
  unfold fX8_weighed
  rw [fX8_isPossible_eq w0 hl lo le hq, Option.bind_some]
  have e0 : (if pb_bI (pb_poss lc nl q) = 0 then some 0 else some 1 : Option Int64) = some (if pb_poss lc nl q = true then 1 else 0) := by cases pb_poss lc nl q <;> rfl
  rw [e0, Option.bind_some]
  unfold fX8_weighed_J13 pb_wtS
  generalize (if pb_poss lc nl q = true then (1 : Int64) else 0) = v0
  rw [show (v0, (0 : Int32)) = ((fun k => (v0 * pb_prod (pb_shareS fc s q) k, nI k)) 0 : Int64 × Int32) from Prod.ext (show v0 = v0 * 1 from (Int64.mul_one _).symm) rfl]
  rw [pb_lp_iter (fun k => (v0 * pb_prod (pb_shareS fc s q) k, nI k)) nf (v0 * pb_prod (pb_shareS fc s q) nf, nI nf) ?_ ?_ pb_FU (pb_FU_gt (by omega))]
  · rfl
  · intro k hk
    simp only []
    rw [fX8_weighed_step w1 hn fo fe hq hs hk, Int64.mul_assoc]
    rfl
  · simp only [fX8_weighed_L17]
    rw [w1, if_pos (nI_le (Nat.le_refl _) (by omega))]
def pb_fill (W : Nat → Int64) (A : Nat → Int64) (n : Nat) : Nat → Int64 := fun j => if j < n then W j else A j
theorem pb_fill_step (W A : Nat → Int64) (n : Nat) : vp_updL (pb_fill W A n) n (W n) = pb_fill W A (n + 1) := by
  funext j
  simp only [vp_updL, pb_fill]
  by_cases h : j = n
  · subst h; rw [if_pos rfl, if_pos (by omega)]
  · rw [if_neg h]
    by_cases h2 : j < n
    · rw [if_pos h2, if_pos (by omega)]
    · rw [if_neg h2, if_neg (by omega)]
theorem fX8_weighAll_eq {w lc fc : Nat → Int32} {nl nf s : Nat} (al : Int64) (A : Nat → Int64) (w0 : w 0 = nI nl) (w1 : w 1 = nI nf) (hl : nl ≤ 8) (hn : nf ≤ 10) (lo : pb_lawsOK lc nl) (le : pb_eqv w (0 + 5) lc (3 * nl)) (fo : pb_findsOK fc nf) (fe : pb_eqv w (0 + 29) fc (3 * nf)) (hs : s < 1024) : fX8_weighAll al w A (nI s) = some (pb_sum (pb_wtS lc nl fc nf s) 128, pb_fill (pb_wtS lc nl fc nf s) A 128) := by
  unfold fX8_weighAll
  generalize hW : pb_wtS lc nl fc nf s = W
  rw [show ((0 : Int32), (0 : Int64), A) = ((fun k => (nI k, pb_sum W k, pb_fill W A k)) 0 : Int32 × Int64 × (Nat → Int64)) from Prod.ext rfl (Prod.ext rfl (by funext j; simp [pb_fill]))]
  rw [pb_lp_iter (fun k => (nI k, pb_sum W k, pb_fill W A k)) 128 (nI 128, pb_sum W 128, pb_fill W A 128) ?_ ?_ pb_FU (pb_FU_gt (by omega))]
  · rfl
  · intro k hk
    have h0 : ¬ (128 : Int32) ≤ nI k := nI_ge (b := 128) hk (by decide)
    simp only [fX8_weighAll_L7]
    rw [if_neg h0, fX8_weighed_eq w0 w1 hl hn lo le fo fe hk hs, hW, Option.bind_some, if_pos (pb_okT (by omega) (by omega)), nI_clamp (by omega), Option.bind_some, pb_fill_step, if_pos (pb_okT (by omega) (by omega))]
    have e : pb_fill W A (k + 1) k = W k := if_pos (by omega)
    rw [e, nI_1]
    rfl
  · simp only [fX8_weighAll_L7]
    rw [if_pos (show (128 : Int32) ≤ nI 128 from nI_le (Nat.le_refl 128) (by omega))]
/-- the class: the finds of one fact -/
def pb_pf (fc : Nat → Int32) (f : Nat) (so : Int32) (k : Nat) : Int64 := if fc (3 * k) = nI f then (if fc (3 * k + 1) = so then fc (3 * k + 2) else 10 - fc (3 * k + 2)).toInt64 else 1
theorem fX2_productFor_eq {M so : Int32} {fc : Nat → Int32} {nf n f : Nat} (hn : 3 * nf ≤ n) (hb : n < 1000) : fX2_productFor 3 M n (nI nf) fc (nI f) so = some (pb_prod (pb_pf fc f so) nf) := by
  unfold fX2_productFor
  rw [show ((1 : Int64), (0 : Int32)) = ((fun k => (pb_prod (pb_pf fc f so) k, nI k)) 0 : Int64 × Int32) from rfl]
  rw [pb_lp_iter (fun k => (pb_prod (pb_pf fc f so) k, nI k)) nf (pb_prod (pb_pf fc f so) nf, nI nf) ?_ ?_ pb_FU (pb_FU_gt (by omega))]
  · rfl
  · intro k hk
    have c0 : fX6_cell 3 M n (nI nf) fc (nI k) 0 = some (fc (3 * k)) := fX6_cell3 (c := 0) hk (by omega) hn hb
    have c1 : fX6_cell 3 M n (nI nf) fc (nI k) 1 = some (fc (3 * k + 1)) := fX6_cell3 (c := 1) hk (by omega) hn hb
    have c2 : fX6_cell 3 M n (nI nf) fc (nI k) 2 = some (fc (3 * k + 2)) := fX6_cell3 (c := 2) hk (by omega) hn hb
    simp only [fX2_productFor_L5]
    rw [if_neg (nI_ge hk (by omega)), c0, Option.bind_some, c1, c2]
    simp only [Option.bind_some, pb_prod, pb_pf, nI_1]
    by_cases h1 : fc (3 * k) = nI f
    · rw [if_pos h1, if_pos h1]
      by_cases h2 : fc (3 * k + 1) = so
      · rw [if_pos h2, if_pos h2]
      · rw [if_neg h2, if_neg h2]
    · rw [if_neg h1, if_neg h1, Int64.mul_one]
  · simp only [fX2_productFor_L5]
    rw [if_pos (nI_le (Nat.le_refl _) (by omega))]
def pb_bN (b : Bool) : Int32 := if b then 1 else 0
theorem pb_pf_all {fc : Nat → Int32} {nf q : Nat} (ho : pb_findsOK fc nf) : pb_prod (fun f => pb_prod (pb_pf fc f (pb_bN (q.testBit f))) nf) 7 = pb_prod (pb_share fc q) nf := by
  induction nf with
  | zero => rw [show (fun f => pb_prod (pb_pf fc f (pb_bN (q.testBit f))) 0) = fun _ => (1 : Int64) from rfl, pb_prod_one]; rfl
  | succ n ih =>
    have ih := ih (fun k hk => ho k (by omega))
    have e : (fun f => pb_prod (pb_pf fc f (pb_bN (q.testBit f))) (n + 1)) = fun f => pb_prod (pb_pf fc f (pb_bN (q.testBit f))) n * pb_pf fc f (pb_bN (q.testBit f)) n := rfl
    rw [e, pb_prod_mul, ih]
    show _ = pb_prod (pb_share fc q) n * pb_share fc q n
    congr 1
    obtain ⟨⟨a, ha, ea⟩, ⟨vv, hv, ev⟩, ⟨r, hr, er⟩⟩ := ho n (by omega)
    have hsh : pb_share fc q n = (if q.testBit a = decide (nI vv = 1) then nI r else 10 - nI r).toInt64 := by
      unfold pb_share pb_shr
      rw [ea, ev, er, nI_clamp (by omega)]
    rw [pb_prod_congr (b := fun k => if k = a then pb_share fc q n else 1) (fun f hf => ?_), pb_prod_at, if_pos ha]
    unfold pb_pf
    rw [ea, ev, er]
    by_cases h : f = a
    · subst h
      rw [if_pos rfl, if_pos rfl, hsh]
      congr 1
      rcases (show vv = 0 ∨ vv = 1 by omega) with rfl | rfl <;> cases q.testBit f <;> rfl
    · rw [if_neg (fun e => h ((nI_eq (by omega) (by omega)).mp e).symm), if_neg h]
