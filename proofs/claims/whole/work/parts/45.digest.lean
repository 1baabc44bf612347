/-! ===== cells of a table, the digest ===== -/
theorem fX8_isBet_eq {w : Nat → Int32} {nb : Nat} {p : Int32} (hw : w 2 = nI nb) (hn : nb < 2 ^ 30) : fX8_isBet w p = some (pb_bI (pb_w p 0 (nI nb - 1))) := by
  unfold fX8_isBet
  rw [hw, fX8_in_eq' p 0 (nI nb - 1) (by decide) rfl, Option.bind_some, pb_isB_ite]
theorem fX6_cell5 {M : Int32} {n k d c : Nat} {f : Nat → Int32} (hd : d < k) (hc : c < 5) (hn : 5 * k ≤ n) (hb : n < 1000) : fX6_cell 5 M n (nI k) f (nI d) (nI c) = some (f (5 * d + c)) := by
  unfold fX6_cell
  have e1 : nI d * 5 + nI c = nI (5 * d + c) := by rw [show nI d * 5 = nI (d * 5) from pk_mul d 5, nI_add]; exact pb_fe (by omega)
  rw [if_neg (nI_pos (by omega)), if_neg (nI_ge hd (by omega)), if_neg (nI_pos (by omega)), if_pos (show nI c < 5 from nI_lt (b := 5) hc (by decide)), e1, if_pos (pb_okT (by omega) (by omega)), nI_clamp (by omega)]
theorem fX6_cell3 {M : Int32} {n k d c : Nat} {f : Nat → Int32} (hd : d < k) (hc : c < 3) (hn : 3 * k ≤ n) (hb : n < 1000) : fX6_cell 3 M n (nI k) f (nI d) (nI c) = some (f (3 * d + c)) := by
  unfold fX6_cell
  have e1 : nI d * 3 + nI c = nI (3 * d + c) := by rw [show nI d * 3 = nI (d * 3) from pk_mul d 3, nI_add]; exact pb_fe (by omega)
  rw [if_neg (nI_pos (by omega)), if_neg (nI_ge hd (by omega)), if_neg (nI_pos (by omega)), if_pos (show nI c < 3 from nI_lt (b := 3) hc (by decide)), e1, if_pos (pb_okT (by omega) (by omega)), nI_clamp (by omega)]
def pb_mixf (f : Nat → Int32) (h : Int64) : Nat → Int64
  | 0 => h
  | n + 1 => 31 * pb_mixf f h n + (f n).toInt64
theorem pb_mixf_congr {f g : Nat → Int32} {h : Int64} {n : Nat} (e : ∀ j, j < n → f j = g j) : pb_mixf f h n = pb_mixf g h n := by
  induction n with
  | zero => rfl
  | succ n ih => rw [pb_mixf, pb_mixf, ih (fun j hj => e j (by omega)), e n (by omega)]
theorem fX6_mixInto_eq {W M : Nat} {m : Int32} {k : Nat} (f : Nat → Int32) (h : Int64) (hk : k * W ≤ M) (hM : M < 1000) : fX6_mixInto (nI W) m M (nI k) f h = some (pb_mixf f h (k * W)) := by
  unfold fX6_mixInto
  rw [show (h, (0 : Int32)) = ((fun j => (pb_mixf f h j, nI j)) 0 : Int64 × Int32) from rfl]
  rw [pb_lp_iter (fun j => (pb_mixf f h j, nI j)) (k * W) (pb_mixf f h (k * W), nI (k * W)) ?_ ?_ pb_FU (pb_FU_gt (by omega))]
  · rfl
  · intro j hj
    simp only [fX6_mixInto_L5]
    rw [pk_mul, if_neg (nI_ge hj (by omega)), show Int32.ofNat M = nI M from rfl, if_neg (nI_ge (by omega) (by omega)), if_pos (pb_okT (by omega) (by omega)), nI_clamp (by omega)]
    simp only [Option.bind_some]
    rw [nI_1]
    rfl
  · simp only [fX6_mixInto_L5]
    rw [pk_mul, if_pos (nI_le (Nat.le_refl _) (by omega))]
theorem fX8_mix_eq {b n : Nat} (w : Nat → Int32) (h : Int64) (hb : b + n ≤ 1508) : fX8_mix h w (nI b) (nI n) = some (pb_mixf (fun j => w (b + j)) h n) := by
  unfold fX8_mix
  rw [show ((0 : Int32), h) = ((fun j => (nI j, pb_mixf (fun j => w (b + j)) h j)) 0 : Int32 × Int64) from rfl]
  rw [pb_lp_iter (fun j => (nI j, pb_mixf (fun j => w (b + j)) h j)) n (nI n, pb_mixf (fun j => w (b + j)) h n) ?_ ?_ pb_FU (pb_FU_gt (by omega))]
  · rfl
  · intro j hj
    simp only [fX8_mix_L2]
    rw [if_neg (nI_ge hj (by omega)), nI_add, if_pos (pb_okT (by omega) (by omega)), nI_clamp (by omega)]
    simp only [Option.bind_some]
    rw [nI_1]
    rfl
  · simp only [fX8_mix_L2]
    rw [if_pos (nI_le (Nat.le_refl _) (by omega))]
/-- what is counted -/
def pb_cnt (ns nl nf nb np n : Nat) : Nat → Int32 := fun k => if k = 0 then nI nl else if k = 1 then nI nf else if k = 2 then nI nb else if k = 3 then nI np else if k = 4 then nI ns else nI n
def pb_D (l f b p : Nat → Int32) (nl nf nb np : Nat) (h x y : Int64) : Int64 := 31 * (31 * pb_mixf p (pb_mixf b (pb_mixf f (pb_mixf l h (3 * nl)) (3 * nf)) (5 * nb)) (5 * np) + x) + y
theorem pb_D_congr {l f b p l2 f2 b2 p2 : Nat → Int32} {nl nf nb np : Nat} {h x y : Int64} (e1 : ∀ j, j < 3 * nl → l j = l2 j) (e2 : ∀ j, j < 3 * nf → f j = f2 j) (e3 : ∀ j, j < 5 * nb → b j = b2 j) (e4 : ∀ j, j < 5 * np → p j = p2 j) : pb_D l f b p nl nf nb np h x y = pb_D l2 f2 b2 p2 nl nf nb np h x y := by
  unfold pb_D
  rw [pb_mixf_congr e1, pb_mixf_congr e2, pb_mixf_congr e3, pb_mixf_congr e4]
theorem fX7_digest_eq {ns nl nf nb np n : Nat} (lc fc bc pc : Nat → Int32) (a b : Int64) (n1 : nl ≤ 8) (n2 : nf ≤ 10) (n3 : nb ≤ 8) (n4 : np ≤ 6) : fX7_digest (nI ns) (nI nl) lc (nI nf) fc (nI nb) bc (nI np) pc (nI n) a b = some (pb_D lc fc bc pc nl nf nb np (pb_mixf (pb_cnt ns nl nf nb np n) 1031 6) a b) := by
  unfold pb_D
  unfold fX7_digest
  rw [show ((1031 : Int64), (0 : Int32)) = ((fun j => (pb_mixf (pb_cnt ns nl nf nb np n) 1031 j, nI j)) 0 : Int64 × Int32) from rfl]
  rw [pb_lp_iter (fun j => (pb_mixf (pb_cnt ns nl nf nb np n) 1031 j, nI j)) 6 (pb_mixf (pb_cnt ns nl nf nb np n) 1031 6, nI 6) ?_ ?_ pb_FU (pb_FU_gt (by omega))]
  · simp only [Option.bind_some, fX7_digest_E6]
    have e1 := fun h => fX6_mixInto_eq (W := 3) (M := 24) (m := 8) (k := nl) lc h (by omega) (by omega)
    have e2 := fun h => fX6_mixInto_eq (W := 3) (M := 30) (m := 10) (k := nf) fc h (by omega) (by omega)
    have e3 := fun h => fX6_mixInto_eq (W := 5) (M := 40) (m := 8) (k := nb) bc h (by omega) (by omega)
    have e4 := fun h => fX6_mixInto_eq (W := 5) (M := 30) (m := 6) (k := np) pc h (by omega) (by omega)
    rw [Nat.mul_comm 3 nl, Nat.mul_comm 3 nf, Nat.mul_comm 5 nb, Nat.mul_comm 5 np]
    refine (congrArg (fun o => Option.bind o _) (e1 _)).trans ?_
    refine (congrArg (fun o => Option.bind o _) (e2 _)).trans ?_
    refine (congrArg (fun o => Option.bind o _) (e3 _)).trans ?_
    refine (congrArg (fun o => Option.bind o _) (e4 _)).trans ?_
    rfl
  · intro j hj
    rcases (show j = 0 ∨ j = 1 ∨ j = 2 ∨ j = 3 ∨ j = 4 ∨ j = 5 by omega) with rfl | rfl | rfl | rfl | rfl | rfl <;> rfl
  · rfl
theorem fX8_digest_eq {ns nl nf nb np n : Nat} (w : Nat → Int32) (h0 a b : Int64) (w0 : w 0 = nI nl) (w1 : w (0 + 1) = nI nf) (w2 : w (0 + 2) = nI nb) (w3 : w (0 + 3) = nI np) (w4 : w (0 + 4) = nI ns) (n1 : nl ≤ 8) (n2 : nf ≤ 10) (n3 : nb ≤ 8) (n4 : np ≤ 6) : fX8_digest (nI n) a b h0 w = some (pb_D (fun j => w (5 + j)) (fun j => w (29 + j)) (fun j => w (59 + j)) (fun j => w (99 + j)) nl nf nb np (pb_mixf (pb_cnt ns nl nf nb np n) 1031 6) a b, pb_D (fun j => w (5 + j)) (fun j => w (29 + j)) (fun j => w (59 + j)) (fun j => w (99 + j)) nl nf nb np (pb_mixf (pb_cnt ns nl nf nb np n) 1031 6) a b) := by
  unfold pb_D
  unfold fX8_digest
  rw [show ((0 : Int32), (1031 : Int64)) = ((fun j => (nI j, pb_mixf (pb_cnt ns nl nf nb np n) 1031 j)) 0 : Int32 × Int64) from rfl]
  rw [pb_lp_iter (fun j => (nI j, pb_mixf (pb_cnt ns nl nf nb np n) 1031 j)) 6 (nI 6, pb_mixf (pb_cnt ns nl nf nb np n) 1031 6) ?_ ?_ pb_FU (pb_FU_gt (by omega))]
  · simp only [Option.bind_some, fX8_digest_E9]
    rw [w0, show w 1 = nI nf from w1, show w 2 = nI nb from w2, show w 3 = nI np from w3, show (3 : Int32) * nI nl = nI (3 * nl) from pk_mul 3 nl, show (3 : Int32) * nI nf = nI (3 * nf) from pk_mul 3 nf, show (5 : Int32) * nI nb = nI (5 * nb) from pk_mul 5 nb, show (5 : Int32) * nI np = nI (5 * np) from pk_mul 5 np]
    refine (congrArg (fun o => Option.bind o _) (fX8_mix_eq (b := 5) w _ (by omega))).trans ?_
    refine (congrArg (fun o => Option.bind o _) (fX8_mix_eq (b := 29) w _ (by omega))).trans ?_
    refine (congrArg (fun o => Option.bind o _) (fX8_mix_eq (b := 59) w _ (by omega))).trans ?_
    refine (congrArg (fun o => Option.bind o _) (fX8_mix_eq (b := 99) w _ (by omega))).trans ?_
    rfl
  · intro j hj
    have hcnt : ∀ j, j < 6 → fX8_countOf (nI n) w (nI j) = some (pb_cnt ns nl nf nb np n j) := by
      intro j hj
      rcases (show j = 0 ∨ j = 1 ∨ j = 2 ∨ j = 3 ∨ j = 4 ∨ j = 5 by omega) with rfl | rfl | rfl | rfl | rfl | rfl
      · exact congrArg some w0
      · exact congrArg some w1
      · exact congrArg some w2
      · exact congrArg some w3
      · exact congrArg some w4
      · rfl
    have h6 : ¬ (6 : Int32) ≤ nI j := nI_ge (b := 6) hj (by decide)
    simp only [fX8_digest_L9]
    rw [if_neg h6, hcnt j hj]
    simp only [Option.bind_some]
    rw [nI_1]
    rfl
  · rfl
