/-! ===== finds told, dropped, undone ===== -/
theorem pb_St_find {w : Nat → Int32} {nf : Nat} {steps ls : Int32} {lc fc : Nat → Int32} {bs : Int32} {bc : Nat → Int32} {ps : Int32} {pc sc ss : Nat → Int32} {a v r : Int32} (h : pb_St w 0 steps ls lc (nI nf) fc bs bc ps pc sc ss) (hnf : nf < 10) (ha : pb_lt a 7) (hv : pb_lt v 2) (hr : pb_lt r 11) : pb_St (upd (pb_put3 w (0 + 29 + 3 * nf) a v r) (0 + 1) (nI (nf + 1))) 0 steps ls lc (nI (nf + 1)) (pb_put3 fc (3 * nf) a v r) bs bc ps pc sc ss := by
  obtain ⟨nl, nf', nb, np, ns, ⟨n1, n2, n3, n4, n5⟩, ⟨e1, e2, e3, e4, e5⟩, ⟨w0, w1, w3, w4, w5⟩, ⟨l1, l2⟩, ⟨f1, f2⟩, ⟨b1, b2⟩, ⟨p1, p2⟩, hs⟩ := h
  have : nf = nf' := (nI_eq (by omega) (by omega)).mp e2
  subst this
  have out : ∀ j, j ≠ 1 → (j < 29 + 3 * nf ∨ 32 + 3 * nf ≤ j) → upd (pb_put3 w (0 + 29 + 3 * nf) a v r) (0 + 1) (nI (nf + 1)) j = w j := fun j h0 h5 => by
    rw [pk_un (by omega), pb_put3_out (by omega)]
  refine ⟨nl, nf + 1, nb, np, ns, ⟨n1, by omega, n3, n4, n5⟩, ⟨e1, rfl, e3, e4, e5⟩, ⟨?_, pk_us, ?_, ?_, ?_⟩, ⟨l1, ?_⟩, ⟨?_, ?_⟩, ⟨b1, ?_⟩, ⟨p1, ?_⟩, ?_⟩
  · rw [out _ (by omega) (by omega)]; exact w0
  · rw [out _ (by omega) (by omega)]; exact w3
  · rw [out _ (by omega) (by omega)]; exact w4
  · rw [out _ (by omega) (by omega)]; exact w5
  · exact pb_eqv_keep l2 (fun j h1 h2 => out j (by omega) (by omega))
  · intro i hi
    by_cases h0 : i < nf
    · rw [pb_put3_out (by omega), pb_put3_out (by omega), pb_put3_out (by omega)]; exact f1 i h0
    · have : i = nf := by omega
      subst this
      rw [pb_put3_0, pb_put3_1, pb_put3_2]
      exact ⟨ha, hv, hr⟩
  · exact pb_eqv_keep (pb_eqv3 f2) (fun j h1 h2 => pk_un (by omega))
  · exact pb_eqv_keep b2 (fun j h1 h2 => out j (by omega) (by omega))
  · exact pb_eqv_keep p2 (fun j h1 h2 => out j (by omega) (by omega))
  · intro i hi
    obtain ⟨n, a1, a2, a3, a4, a5⟩ := hs i hi
    exact ⟨n, a1, a2, by rw [out _ (by omega) (by omega)]; exact a3, a4, pb_eqv_keep a5 (fun j h1 h2 => out j (by omega) (by omega))⟩
theorem fX6_has_eq {wd m : Int32} {n d : Nat} (h : d < n) (hn : n < 2 ^ 31) : fX6_has wd m (nI n) (nI d) = some 1 := by
  unfold fX6_has
  rw [if_neg (nI_pos (by omega)), if_neg (nI_ge h hn)]
theorem fX6_has_w {wd m : Int32} {n : Nat} (p : Int32) (hn : n < 2 ^ 30) : fX6_has wd m (nI n) p = some (pb_bI (pb_w p 0 (nI n - 1))) := by
  unfold fX6_has pb_w
  have hs : (nI n - 1).toInt = (n : Int) - 1 := pk_sub_toInt (a := n) (b := 1) hn (by omega)
  have hn2 : (nI n).toInt = (n : Int) := nI_toInt (by omega)
  by_cases h1 : p < 0
  · rw [if_pos h1, decide_eq_false (fun h => absurd h1 (pb_nlt.mpr h.1))]; rfl
  · rw [if_neg h1]
    by_cases h2 : nI n ≤ p
    · rw [if_pos h2, decide_eq_false (fun h => ?_)]
      · rfl
      · have h3 := h.2
        rw [Int32.le_iff_toInt_le] at h2 h3
        omega
    · have h4 : p ≤ nI n - 1 := by
        have h3 := h2
        rw [Int32.le_iff_toInt_le] at h3 ⊢
        omega
      rw [if_neg h2, decide_eq_true ⟨pb_nlt.mp h1, h4⟩]
      rfl
theorem pb_w_row {p : Int32} {n : Nat} (hn : n < 2 ^ 30) (h : pb_w p 0 (nI n - 1) = true) : ∃ d : Nat, d < n ∧ p = nI d := by
  have h1 : (0 : Int32) ≤ p ∧ p ≤ nI n - 1 := of_decide_eq_true h
  have hs : (nI n - 1).toInt = (n : Int) - 1 := pk_sub_toInt (a := n) (b := 1) hn (by omega)
  obtain ⟨j, hj, rfl⟩ := nI_of (pb_nlt.mpr h1.1)
  refine ⟨j, ?_, rfl⟩
  have h3 := h1.2
  rw [Int32.le_iff_toInt_le, hs, nI_toInt hj] at h3
  omega
/-- one row is taken out: the class -/
theorem fX6_takeOut_eq {M : Int32} {n nf d : Nat} {fc : Nat → Int32} (hd : d < nf) (hn : 3 * nf ≤ n) (hb : n < 1000) : fX6_takeOut 3 M n (nI nf) fc (nI d) = some (nI (nf - 1), va_cpy fc fc (3 * d + 3) (3 * d) (3 * (nf - d - 1))) := by
  unfold fX6_takeOut fX6_takeOut_J53
  rw [fX6_has_eq hd (by omega), Option.bind_some, if_neg pb_ne10]
  simp only [Option.bind_some]
  have e1 : nI d * 3 = nI (3 * d) := by rw [Nat.mul_comm]; exact pk_mul d 3
  have e2 : (nI nf - nI d - 1) * 3 = nI (3 * (nf - d - 1)) := by
    rw [pk_sub (by omega), show nI (nf - d) - 1 = nI (nf - d - 1) from pk_sub (b := 1) (by omega), Nat.mul_comm]
    exact pk_mul _ 3
  have e3 : nI (3 * d) + 3 = nI (3 * d + 3) := nI_add _ 3
  have e4 : nI nf - 1 = nI (nf - 1) := pk_sub (b := 1) (by omega)
  rw [e1, e2, e3, e4]
  by_cases h0 : nf - d - 1 = 0
  · rw [h0, Nat.mul_zero, if_pos (show nI 0 ≤ 0 by decide), Option.bind_some, pb_cpy_0]
  · rw [if_neg (nI_nle (by omega) (by omega))]
    have hc : pb_cok (nI (3 * d + 3)) (nI (3 * d)) (nI (3 * (nf - d - 1))) n n = true := by
      unfold pb_cok
      refine decide_eq_true ⟨nI_pos (by omega), nI_pos (by omega), nI_pos (by omega), ?_, ?_⟩
      · rw [nI_clamp (by omega), nI_clamp (by omega)]; omega
      · rw [nI_clamp (by omega), nI_clamp (by omega)]; omega
    rw [if_pos hc, Option.bind_some, nI_clamp (by omega), nI_clamp (by omega), nI_clamp (by omega)]
/-- the model's numbers move up -/
theorem fX8_drop_loop (w : Nat → Int32) {d : Nat} (hd : d ≤ 9) : pb_lp (fun y => fX8_drop_L34 y.1 y.2) pb_FU (nI (29 + 3 * d), w) = some (nI 56, va_cpy w w (29 + 3 * d + 3) (29 + 3 * d) (27 - 3 * d)) := by
  rw [show (nI (29 + 3 * d), w) = ((fun k => (nI (29 + 3 * d + k), va_cpy w w (29 + 3 * d + 3) (29 + 3 * d) k)) 0 : Int32 × (Nat → Int32)) from Prod.ext rfl (pb_cpy_0 w w _ _).symm]
  refine pb_lp_iter (fun k => (nI (29 + 3 * d + k), va_cpy w w (29 + 3 * d + 3) (29 + 3 * d) k)) (27 - 3 * d) _ ?_ ?_ pb_FU (pb_FU_gt (by omega))
  · intro k hk
    simp only [fX8_drop_L34]
    have h0 : ¬ (56 : Int32) ≤ nI (29 + 3 * d + k) := nI_ge (b := 56) (by omega) (by decide)
    rw [if_neg h0, show nI (29 + 3 * d + k) + 3 = nI (29 + 3 * d + 3 + k) by rw [show nI (29 + 3 * d + k) + 3 = nI (29 + 3 * d + k + 3) from nI_add _ 3]; exact pb_fe (by omega), if_pos (pb_okT (by omega) (by omega)), if_pos (pb_okT (by omega) (by omega)), nI_clamp (by omega), nI_clamp (by omega)]
    simp only [Option.bind_some]
    rw [nI_1, pb_cpy_step (by omega)]
    rfl
  · simp only [fX8_drop_L34]
    rw [show 29 + 3 * d + (27 - 3 * d) = 56 by omega, if_pos (show (56 : Int32) ≤ nI 56 from nI_le (Nat.le_refl 56) (by omega))]
theorem pb_St_drop {w : Nat → Int32} {nf d : Nat} {steps ls : Int32} {lc fc : Nat → Int32} {bs : Int32} {bc : Nat → Int32} {ps : Int32} {pc sc ss : Nat → Int32} (h : pb_St w 0 steps ls lc (nI nf) fc bs bc ps pc sc ss) (hnf : nf ≤ 10) (hd : d < nf) : pb_St (upd (va_cpy w w (29 + 3 * d + 3) (29 + 3 * d) (27 - 3 * d)) 1 (nI (nf - 1))) 0 steps ls lc (nI (nf - 1)) (va_cpy fc fc (3 * d + 3) (3 * d) (3 * (nf - d - 1))) bs bc ps pc sc ss := by
  obtain ⟨nl, nf', nb, np, ns, ⟨n1, n2, n3, n4, n5⟩, ⟨e1, e2, e3, e4, e5⟩, ⟨w0, w1, w3, w4, w5⟩, ⟨l1, l2⟩, ⟨f1, f2⟩, ⟨b1, b2⟩, ⟨p1, p2⟩, hs⟩ := h
  have : nf = nf' := (nI_eq (by omega) (by omega)).mp e2
  subst this
  generalize hW : upd (va_cpy w w (29 + 3 * d + 3) (29 + 3 * d) (27 - 3 * d)) 1 (nI (nf - 1)) = W
  generalize hF : va_cpy fc fc (3 * d + 3) (3 * d) (3 * (nf - d - 1)) = F
  have out : ∀ j, j ≠ 1 → (j < 29 + 3 * d ∨ 56 ≤ j) → W j = w j := fun j h0 h5 => by
    rw [← hW, pk_un (by omega), pk_cpy_out (by omega)]
  have inn : ∀ j, 29 + 3 * d ≤ j → j < 56 → W j = w (j + 3) := fun j h0 h5 => by
    rw [← hW, pk_un (by omega), pk_cpy_in (by omega) (by omega)]
    exact pb_fe (by omega)
  have fout : ∀ j, j < 3 * d → F j = fc j := fun j h0 => by rw [← hF, pk_cpy_out (by omega)]
  have finn : ∀ j, 3 * d ≤ j → j < 3 * (nf - 1) → F j = fc (j + 3) := fun j h0 h5 => by
    rw [← hF, pk_cpy_in (by omega) (by omega)]
    exact pb_fe (by omega)
  refine ⟨nl, nf - 1, nb, np, ns, ⟨n1, by omega, n3, n4, n5⟩, ⟨e1, rfl, e3, e4, e5⟩, ⟨?_, ?_, ?_, ?_, ?_⟩, ⟨l1, pb_eqv_keep l2 (fun j h1 h2 => out j (by omega) (by omega))⟩, ⟨?_, ?_⟩, ⟨b1, pb_eqv_keep b2 (fun j h1 h2 => out j (by omega) (by omega))⟩, ⟨p1, pb_eqv_keep p2 (fun j h1 h2 => out j (by omega) (by omega))⟩, ?_⟩
  · rw [out _ (by omega) (by omega)]; exact w0
  · rw [← hW]; exact pk_us
  · rw [out _ (by omega) (by omega)]; exact w3
  · rw [out _ (by omega) (by omega)]; exact w4
  · rw [out _ (by omega) (by omega)]; exact w5
  · intro k hk
    by_cases h0 : k < d
    · rw [fout _ (by omega), fout _ (by omega), fout _ (by omega)]; exact f1 k (by omega)
    · rw [finn _ (by omega) (by omega), finn _ (by omega) (by omega), finn _ (by omega) (by omega)]
      exact f1 (k + 1) (by omega)
  · intro j hj
    by_cases h0 : j < 3 * d
    · rw [out _ (by omega) (by omega), fout _ h0]; exact f2 j (by omega)
    · rw [inn _ (by omega) (by omega), finn _ (by omega) (by omega)]
      exact f2 (j + 3) (by omega)
  · intro i hi
    obtain ⟨n, a1, a2, a3, a4, a5⟩ := hs i hi
    exact ⟨n, a1, a2, by rw [out _ (by omega) (by omega)]; exact a3, a4, pb_eqv_keep a5 (fun j h1 h2 => out j (by omega) (by omega))⟩
/-- one step back: the class -/
theorem fX5_stepBack_eq {x : Nat} {fs : Int32} {fc sc ss : Nat → Int32} (h : x < 8) : fX5_stepBack (nI (x + 1)) fs fc sc ss = some (nI x, ss x, va_cpy sc fc (30 * x) 0 30) := by
  unfold fX5_stepBack
  have h1 : (1 : Int32) ≤ nI (x + 1) := nI_le (a := 1) (by omega) (by omega)
  have hm : (30 : Int32) * nI x = nI (30 * x) := pk_mul 30 x
  have hc : pb_cok (nI (30 * x)) 0 30 240 30 = true := by
    unfold pb_cok
    refine decide_eq_true ⟨nI_pos (by omega), by decide, by decide, ?_, by decide⟩
    rw [nI_clamp (by omega)]
    show 30 * x + 30 ≤ 240
    omega
  rw [if_pos h1, nI_pred]
  simp only [Option.bind_some]
  rw [hm, if_pos hc, if_pos (pb_okT (by omega) (by omega)), nI_clamp (by omega), nI_clamp (by omega)]
  rfl
/-- one step back: the model -/
def pb_back1 (w : Nat → Int32) (x : Nat) : Nat → Int32 := upd (upd w 4 (nI x)) 1 (w (129 + 31 * x))
theorem fX8_undo_eq (w f : Nat → Int32) {x : Nat} (h : x < 8) (hw : w 4 = nI (x + 1)) : fX8_undo w f = some (w (129 + 31 * x), va_cpy (pb_back1 w x) (pb_back1 w x) (129 + 31 * x + 1) 29 30, f) := by
  unfold fX8_undo
  have hne : ¬ w 4 = 0 := by rw [hw]; exact nI_ne0 (by omega) (by omega)
  rw [if_neg hne, hw, nI_pred]
  simp only [Option.bind_some]
  have e : (129 : Int32) + 31 * upd w 4 (nI x) 4 = nI (129 + 31 * x) := by
    rw [pk_us, show (31 : Int32) * nI x = nI (31 * x) from pk_mul 31 x]
    exact nI_add 129 (31 * x)
  rw [e, if_pos (pb_okT (by omega) (by omega)), nI_clamp (by omega), pk_un (show 129 + 31 * x ≠ 4 by omega)]
  generalize hu : upd (upd w 4 (nI x)) 1 (w (129 + 31 * x)) = u
  have hb : pb_back1 w x = u := hu
  rw [hb]
  rw [show ((0 : Int32), u) = ((fun k => (nI k, va_cpy u u (129 + 31 * x + 1) 29 k)) 0 : Int32 × (Nat → Int32)) from Prod.ext rfl (pb_cpy_0 u u _ _).symm]
  rw [pb_lp_iter (fun k => (nI k, va_cpy u u (129 + 31 * x + 1) 29 k)) 30 (nI 30, va_cpy u u (129 + 31 * x + 1) 29 30) ?_ ?_ pb_FU (pb_FU_gt (by omega))]
  · simp only [Option.bind_some, fX8_undo_E52]
    rw [pk_cpy_out (by omega), ← hu, pk_us]
  · intro k hk
    simp only [fX8_undo_L52]
    have h0 : ¬ (30 : Int32) ≤ nI k := nI_ge (b := 30) hk (by decide)
    rw [if_neg h0, show (29 : Int32) + nI k = nI (29 + k) from nI_add 29 k, show nI (129 + 31 * x) + 1 = nI (129 + 31 * x + 1) from nI_1 _, nI_add, if_pos (pb_okT (by omega) (by omega)), if_pos (pb_okT (by omega) (by omega)), nI_clamp (by omega), nI_clamp (by omega)]
    simp only [Option.bind_some]
    rw [nI_1, pb_cpy_step (by omega)]
  · simp only [fX8_undo_L52]
    rw [if_pos (show (30 : Int32) ≤ nI 30 from nI_le (Nat.le_refl 30) (by omega))]
theorem pb_St_undo {w : Nat → Int32} {x : Nat} {ls : Int32} {lc : Nat → Int32} {fs : Int32} {fc : Nat → Int32} {bs : Int32} {bc : Nat → Int32} {ps : Int32} {pc sc ss : Nat → Int32} (h : pb_St w 0 (nI (x + 1)) ls lc fs fc bs bc ps pc sc ss) (hx : x < 8) : pb_St (va_cpy (pb_back1 w x) (pb_back1 w x) (129 + 31 * x + 1) 29 30) 0 (nI x) ls lc (ss x) (va_cpy sc fc (30 * x) 0 30) bs bc ps pc sc ss := by
  obtain ⟨nl, nf, nb, np, ns, ⟨n1, n2, n3, n4, n5⟩, ⟨e1, e2, e3, e4, e5⟩, ⟨w0, w1, w3, w4, w5⟩, ⟨l1, l2⟩, ⟨f1, f2⟩, ⟨b1, b2⟩, ⟨p1, p2⟩, hs⟩ := h
  have : x + 1 = ns := (nI_eq (by omega) (by omega)).mp e5
  subst this
  generalize hW : va_cpy (pb_back1 w x) (pb_back1 w x) (129 + 31 * x + 1) 29 30 = W
  have out : ∀ j, j ≠ 1 → j ≠ 4 → (j < 29 ∨ 59 ≤ j) → W j = w j := fun j h0 h4 h5 => by
    rw [← hW, pk_cpy_out (by omega)]
    unfold pb_back1
    rw [pk_un (by omega), pk_un (by omega)]
  have inn : ∀ j, j < 30 → W (29 + j) = w (129 + 31 * x + 1 + j) := fun j h0 => by
    rw [← hW, pk_cpy_in (by omega) (by omega)]
    unfold pb_back1
    rw [pk_un (by omega), pk_un (by omega)]
    exact pb_fe (by omega)
  obtain ⟨n, a1, a2, a3, a4, a5⟩ := hs x (by omega)
  have ec : ∀ j, j < 30 → va_cpy sc fc (30 * x) 0 30 j = sc (30 * x + j) := fun j hj => by
    rw [pk_cpy_in (by omega) (by omega)]
    exact pb_fe (by omega)
  refine ⟨nl, n, nb, np, x, ⟨n1, a1, n3, n4, by omega⟩, ⟨e1, a2, e3, e4, rfl⟩, ⟨?_, ?_, ?_, ?_, ?_⟩, ⟨l1, pb_eqv_keep l2 (fun j h1 h2 => out j (by omega) (by omega) (by omega))⟩, ⟨pb_findsOK_congr (fun j hj => ec j (by omega)) a4, ?_⟩, ⟨b1, pb_eqv_keep b2 (fun j h1 h2 => out j (by omega) (by omega) (by omega))⟩, ⟨p1, pb_eqv_keep p2 (fun j h1 h2 => out j (by omega) (by omega) (by omega))⟩, ?_⟩
  · rw [out _ (by omega) (by omega) (by omega)]; exact w0
  · rw [← hW, pk_cpy_out (by omega)]
    unfold pb_back1
    rw [pk_us, ← a3]
    exact pb_fe (by omega)
  · rw [out _ (by omega) (by omega) (by omega)]; exact w3
  · rw [out _ (by omega) (by omega) (by omega)]; exact w4
  · rw [← hW, pk_cpy_out (by omega)]
    unfold pb_back1
    rw [pk_un (by omega), pk_us]
  · intro j hj
    rw [Nat.zero_add, inn j (by omega), ec j (by omega)]
    have := a5 j hj
    rw [Nat.zero_add] at this
    exact this
  · intro i hi
    obtain ⟨n, a1, a2, a3, a4, a5⟩ := hs i (by omega)
    exact ⟨n, a1, a2, by rw [out _ (by omega) (by omega) (by omega)]; exact a3, a4, pb_eqv_keep a5 (fun j h1 h2 => out j (by omega) (by omega) (by omega))⟩
