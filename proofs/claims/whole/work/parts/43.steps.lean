/-! ===== parts of the numbers copied; what may be undone ===== -/
theorem pb_fe {α : Type} {f : Nat → α} {a b : Nat} (h : a = b) : f a = f b := by rw [h]
theorem pb_findsOK_congr {f g : Nat → Int32} {n : Nat} (h : ∀ j, j < 3 * n → f j = g j) (hg : pb_findsOK g n) : pb_findsOK f n := by
  intro k hk
  rw [h _ (by omega), h _ (by omega), h _ (by omega)]
  exact hg k hk
theorem pb_cpy_0 {α : Type} (w g : Nat → α) (sp dp : Nat) : va_cpy w g sp dp 0 = g := by
  funext j
  simp only [va_cpy]
  rw [if_neg (by omega)]
theorem pb_cpy_step {w : Nat → Int32} {sp dp k : Nat} (h : dp ≤ sp ∨ sp + k < dp) : upd (va_cpy w w sp dp k) (dp + k) (va_cpy w w sp dp k (sp + k)) = va_cpy w w sp dp (k + 1) := by
  funext j
  have e : va_cpy w w sp dp k (sp + k) = w (sp + k) := pk_cpy_out (by omega)
  rw [e]
  by_cases hj : j = dp + k
  · subst hj
    rw [pk_us, pk_cpy_in (by omega) (by omega)]
    exact pb_fe (by omega)
  · rw [pk_un hj]
    by_cases h2 : dp ≤ j ∧ j < dp + k
    · rw [pk_cpy_in h2.1 h2.2, pk_cpy_in h2.1 (by omega)]
    · rw [pk_cpy_out (by omega), pk_cpy_out (by omega)]
theorem fX8_copy_eq (w : Nat → Int32) (sp dp : Nat) (h1 : sp + 377 ≤ 1508) (h2 : dp + 377 ≤ 1508) (h : dp ≤ sp ∨ sp + 377 ≤ dp) : fX8_copy w (nI sp) (nI dp) = some (va_cpy w w sp dp 377) := by
  unfold fX8_copy
  rw [show ((0 : Int32), w) = ((fun k => (nI k, va_cpy w w sp dp k)) 0 : Int32 × (Nat → Int32)) from Prod.ext rfl (pb_cpy_0 w w sp dp).symm]
  rw [pb_lp_iter (fun k => (nI k, va_cpy w w sp dp k)) 377 (nI 377, va_cpy w w sp dp 377) ?_ ?_ pb_FU (pb_FU_gt (by omega))]
  · rfl
  · intro k hk
    simp only [fX8_copy_L2]
    have h0 : ¬ (377 : Int32) ≤ nI k := nI_ge (b := 377) hk (by decide)
    rw [if_neg h0, nI_add, nI_add, if_pos (pb_okT (by omega) (by omega)), if_pos (pb_okT (by omega) (by omega)), nI_clamp (by omega), nI_clamp (by omega)]
    simp only [Option.bind_some]
    rw [nI_1, pb_cpy_step (by omega)]
  · simp only [fX8_copy_L2]
    rw [if_pos (show (377 : Int32) ≤ nI 377 from nI_le (Nat.le_refl 377) (by omega))]
/-- the class's 'ahead of a step' -/
theorem fX5_keepStep_lt {ns : Nat} {fs : Int32} {fc sc ss : Nat → Int32} (h : ns < 8) : fX5_keepStep (nI ns) fs fc sc ss = some (nI (ns + 1), va_cpy fc sc 0 (30 * ns) 30, upd ss ns fs) := by
  have h8 : nI ns < 8 := nI_lt (b := 8) h (by decide)
  have hm : (30 : Int32) * nI ns = nI (30 * ns) := pk_mul 30 ns
  have hc : pb_cok 0 (nI (30 * ns)) 30 30 240 = true := by
    unfold pb_cok
    refine decide_eq_true ⟨by decide, nI_pos (by omega), by decide, by decide, ?_⟩
    rw [nI_clamp (by omega)]
    show 30 * ns + 30 ≤ 240
    omega
  unfold fX5_keepStep fX5_keepStep_J47
  rw [if_pos h8]
  simp only [Option.bind_some]
  rw [hm, if_pos hc, if_pos (pb_okT (by omega) (by omega)), nI_clamp (by omega), nI_clamp (by omega), nI_1]
  rfl
theorem fX5_keepStep_8 {fs : Int32} {fc sc ss : Nat → Int32} : fX5_keepStep (nI 8) fs fc sc ss = some (nI 8, va_cpy fc (va_cpy sc sc 30 0 210) 0 210 30, upd (va_cpy ss ss 1 0 7) 7 fs) := by
  have h8 : ¬ nI 8 < 8 := by decide
  have hc : pb_cok 0 (30 * 7) 30 30 240 = true := by decide
  unfold fX5_keepStep fX5_keepStep_J47
  rw [if_neg h8]
  simp only [Option.bind_some]
  rw [if_pos hc, if_pos (by decide : pb_ok 7 8 = true)]
  rfl
theorem fX8_minds_J (w : Nat → Int32) {ns : Nat} (h : ns < 8) (hw : w 4 = nI ns) : fX8_minds_J59 w = some (upd (va_cpy (upd w (129 + 31 * ns) (w 1)) (upd w (129 + 31 * ns) (w 1)) 29 (129 + 31 * ns + 1) 30) 4 (nI (ns + 1))) := by
  unfold fX8_minds_J59
  simp only [Option.bind_some]
  have e : (129 : Int32) + 31 * w 4 = nI (129 + 31 * ns) := by
    rw [hw, show (31 : Int32) * nI ns = nI (31 * ns) from pk_mul 31 ns]
    exact nI_add 129 (31 * ns)
  rw [e, if_pos (pb_okT (by omega) (by omega)), nI_clamp (by omega)]
  generalize hu : upd w (129 + 31 * ns) (w 1) = u
  have hu4 : u 4 = nI ns := by rw [← hu, pk_un (by omega)]; exact hw
  rw [show ((0 : Int32), u) = ((fun k => (nI k, va_cpy u u 29 (129 + 31 * ns + 1) k)) 0 : Int32 × (Nat → Int32)) from Prod.ext rfl (pb_cpy_0 u u _ _).symm]
  rw [pb_lp_iter (fun k => (nI k, va_cpy u u 29 (129 + 31 * ns + 1) k)) 30 (nI 30, va_cpy u u 29 (129 + 31 * ns + 1) 30) ?_ ?_ pb_FU (pb_FU_gt (by omega))]
  · simp only [Option.bind_some, fX8_minds_E87]
    rw [pk_cpy_out (by omega), hu4, nI_1]
  · intro k hk
    simp only [fX8_minds_L87]
    have h0 : ¬ (30 : Int32) ≤ nI k := nI_ge (b := 30) hk (by decide)
    rw [if_neg h0, show (29 : Int32) + nI k = nI (29 + k) from nI_add 29 k, show nI (129 + 31 * ns) + 1 = nI (129 + 31 * ns + 1) from nI_1 _, nI_add, if_pos (pb_okT (by omega) (by omega)), if_pos (pb_okT (by omega) (by omega)), nI_clamp (by omega), nI_clamp (by omega)]
    simp only [Option.bind_some]
    rw [nI_1, pb_cpy_step (by omega)]
  · simp only [fX8_minds_L87]
    rw [if_pos (show (30 : Int32) ≤ nI 30 from nI_le (Nat.le_refl 30) (by omega))]
theorem fX8_minds_lt (w : Nat → Int32) {ns : Nat} (h : ns < 8) (hw : w 4 = nI ns) : fX8_minds w = some (upd (va_cpy (upd w (129 + 31 * ns) (w 1)) (upd w (129 + 31 * ns) (w 1)) 29 (129 + 31 * ns + 1) 30) 4 (nI (ns + 1))) := by
  unfold fX8_minds
  have hne : ¬ w 4 = 8 := by rw [hw]; exact fun e => absurd ((nI_eq (a := ns) (b := 8) (by omega) (by decide)).mp e) (by omega)
  rw [if_neg hne, Option.bind_some]
  exact fX8_minds_J w h hw
/-- the first of eight is forgotten -/
def pb_shift (w : Nat → Int32) : Nat → Int32 := upd (va_cpy w w 160 129 217) 4 (nI 7)
theorem fX8_minds_8 (w : Nat → Int32) (hw : w 4 = nI 8) : fX8_minds w = fX8_minds_J59 (pb_shift w) := by
  unfold fX8_minds
  rw [if_pos (show w 4 = 8 from hw)]
  rw [show ((0 : Int32), w) = ((fun k => (nI k, va_cpy w w 160 129 k)) 0 : Int32 × (Nat → Int32)) from Prod.ext rfl (pb_cpy_0 w w _ _).symm]
  rw [pb_lp_iter (fun k => (nI k, va_cpy w w 160 129 k)) 217 (nI 217, va_cpy w w 160 129 217) ?_ ?_ pb_FU (pb_FU_gt (by omega))]
  · simp only [Option.bind_some, fX8_minds_E13]
    rw [pk_cpy_out (by omega), hw]
    rfl
  · intro k hk
    simp only [fX8_minds_L13]
    have h0 : ¬ (217 : Int32) ≤ nI k := nI_ge (b := 217) hk (by decide)
    rw [if_neg h0, show (129 : Int32) + nI k = nI (129 + k) from nI_add 129 k, show nI (129 + k) + 31 = nI (160 + k) by rw [show nI (129 + k) + 31 = nI (129 + k + 31) from nI_add _ 31]; congr 1; omega, if_pos (pb_okT (by omega) (by omega)), if_pos (pb_okT (by omega) (by omega)), nI_clamp (by omega), nI_clamp (by omega)]
    simp only [Option.bind_some]
    rw [nI_1, pb_cpy_step (by omega)]
  · simp only [fX8_minds_L13]
    rw [if_pos (show (217 : Int32) ≤ nI 217 from nI_le (Nat.le_refl 217) (by omega))]
theorem pb_St_shift {w : Nat → Int32} {ls : Int32} {lc : Nat → Int32} {fs : Int32} {fc : Nat → Int32} {bs : Int32} {bc : Nat → Int32} {ps : Int32} {pc sc ss : Nat → Int32} (h : pb_St w 0 (nI 8) ls lc fs fc bs bc ps pc sc ss) : pb_St (pb_shift w) 0 (nI 7) ls lc fs fc bs bc ps pc (va_cpy sc sc 30 0 210) (va_cpy ss ss 1 0 7) := by
  obtain ⟨nl, nf, nb, np, ns, ⟨n1, n2, n3, n4, n5⟩, ⟨e1, e2, e3, e4, e5⟩, ⟨w0, w1, w3, w4, w5⟩, ⟨l1, l2⟩, ⟨f1, f2⟩, ⟨b1, b2⟩, ⟨p1, p2⟩, hs⟩ := h
  have : ns = 8 := ((nI_eq (by decide) (by omega)).mp e5).symm
  subst this
  have out : ∀ j, j ≠ 4 → (j < 129 ∨ 346 ≤ j) → pb_shift w j = w j := fun j h4 h5 => by
    unfold pb_shift
    rw [pk_un (by omega), pk_cpy_out (by omega)]
  have inn : ∀ j, 129 ≤ j → j < 346 → pb_shift w j = w (j + 31) := fun j h4 h5 => by
    unfold pb_shift
    rw [pk_un (by omega), pk_cpy_in (by omega) (by omega)]
    exact pb_fe (by omega)
  refine ⟨nl, nf, nb, np, 7, ⟨n1, n2, n3, n4, by omega⟩, ⟨e1, e2, e3, e4, rfl⟩, ⟨?_, ?_, ?_, ?_, pk_us⟩, ⟨l1, pb_eqv_keep l2 (fun j h1 h2 => out j (by omega) (by omega))⟩, ⟨f1, pb_eqv_keep f2 (fun j h1 h2 => out j (by omega) (by omega))⟩, ⟨b1, pb_eqv_keep b2 (fun j h1 h2 => out j (by omega) (by omega))⟩, ⟨p1, pb_eqv_keep p2 (fun j h1 h2 => out j (by omega) (by omega))⟩, ?_⟩
  · rw [out _ (by omega) (by omega)]; exact w0
  · rw [out _ (by omega) (by omega)]; exact w1
  · rw [out _ (by omega) (by omega)]; exact w3
  · rw [out _ (by omega) (by omega)]; exact w4
  · intro i hi
    obtain ⟨n, a1, a2, a3, a4, a5⟩ := hs (i + 1) (by omega)
    have ec : ∀ j, j < 30 → va_cpy sc sc 30 0 210 (30 * i + j) = sc (30 * (i + 1) + j) := fun j hj => by
      rw [pk_cpy_in (by omega) (by omega)]
      exact pb_fe (by omega)
    refine ⟨n, a1, ?_, ?_, ?_, ?_⟩
    · rw [pk_cpy_in (by omega) (by omega)]
      exact (pb_fe (by omega)).trans a2
    · rw [inn _ (by omega) (by omega)]
      exact (pb_fe (by omega)).trans a3
    · exact pb_findsOK_congr (fun j hj => ec j (by omega)) a4
    · intro j hj
      show pb_shift w _ = va_cpy sc sc 30 0 210 (30 * i + j)
      rw [inn _ (by omega) (by omega), ec _ (by omega)]
      refine Eq.trans ?_ (a5 j hj)
      exact pb_fe (by omega)
theorem pb_St_push {w : Nat → Int32} {ns : Nat} {ls : Int32} {lc : Nat → Int32} {fs : Int32} {fc : Nat → Int32} {bs : Int32} {bc : Nat → Int32} {ps : Int32} {pc sc ss : Nat → Int32} (h : pb_St w 0 (nI ns) ls lc fs fc bs bc ps pc sc ss) (hns : ns < 8) : pb_St (upd (va_cpy (upd w (129 + 31 * ns) (w 1)) (upd w (129 + 31 * ns) (w 1)) 29 (129 + 31 * ns + 1) 30) 4 (nI (ns + 1))) 0 (nI (ns + 1)) ls lc fs fc bs bc ps pc (va_cpy fc sc 0 (30 * ns) 30) (upd ss ns fs) := by
  obtain ⟨nl, nf, nb, np, ns', ⟨n1, n2, n3, n4, n5⟩, ⟨e1, e2, e3, e4, e5⟩, ⟨w0, w1, w3, w4, w5⟩, ⟨l1, l2⟩, ⟨f1, f2⟩, ⟨b1, b2⟩, ⟨p1, p2⟩, hs⟩ := h
  have : ns = ns' := (nI_eq (by omega) (by omega)).mp e5
  subst this
  generalize hW : upd (va_cpy (upd w (129 + 31 * ns) (w 1)) (upd w (129 + 31 * ns) (w 1)) 29 (129 + 31 * ns + 1) 30) 4 (nI (ns + 1)) = W
  have out : ∀ j, j ≠ 4 → (j < 129 + 31 * ns ∨ 129 + 31 * ns + 31 ≤ j) → W j = w j := fun j h4 h5 => by
    rw [← hW, pk_un (by omega), pk_cpy_out (by omega), pk_un (by omega)]
  have top : W (129 + 31 * ns) = w 1 := by rw [← hW, pk_un (by omega), pk_cpy_out (by omega), pk_us]
  have inn : ∀ j, j < 30 → W (129 + 31 * ns + 1 + j) = w (29 + j) := fun j hj => by
    rw [← hW, pk_un (by omega), pk_cpy_in (by omega) (by omega), pk_un (by omega)]
    exact pb_fe (by omega)
  refine ⟨nl, nf, nb, np, ns + 1, ⟨n1, n2, n3, n4, by omega⟩, ⟨e1, e2, e3, e4, rfl⟩, ⟨?_, ?_, ?_, ?_, ?_⟩, ⟨l1, pb_eqv_keep l2 (fun j h1 h2 => out j (by omega) (by omega))⟩, ⟨f1, pb_eqv_keep f2 (fun j h1 h2 => out j (by omega) (by omega))⟩, ⟨b1, pb_eqv_keep b2 (fun j h1 h2 => out j (by omega) (by omega))⟩, ⟨p1, pb_eqv_keep p2 (fun j h1 h2 => out j (by omega) (by omega))⟩, ?_⟩
  · rw [out _ (by omega) (by omega)]; exact w0
  · rw [out _ (by omega) (by omega)]; exact w1
  · rw [out _ (by omega) (by omega)]; exact w3
  · rw [out _ (by omega) (by omega)]; exact w4
  · rw [← hW]; exact pk_us
  · intro i hi
    by_cases hlt : i < ns
    · obtain ⟨n, a1, a2, a3, a4, a5⟩ := hs i hlt
      have ec : ∀ j, j < 30 → va_cpy fc sc 0 (30 * ns) 30 (30 * i + j) = sc (30 * i + j) := fun j hj => pk_cpy_out (by omega)
      refine ⟨n, a1, ?_, ?_, ?_, ?_⟩
      · rw [pk_un (by omega)]; exact a2
      · rw [out _ (by omega) (by omega)]; exact a3
      · exact pb_findsOK_congr (fun j hj => ec j (by omega)) a4
      · intro j hj
        show W _ = va_cpy fc sc 0 (30 * ns) 30 (30 * i + j)
        rw [out _ (by omega) (by omega), ec _ (by omega)]
        exact a5 j hj
    · have : i = ns := by omega
      subst this
      have ec : ∀ j, j < 30 → va_cpy fc sc 0 (30 * i) 30 (30 * i + j) = fc j := fun j hj => by
        rw [pk_cpy_in (by omega) (by omega)]
        exact pb_fe (by omega)
      refine ⟨nf, n2, ?_, ?_, ?_, ?_⟩
      · rw [pk_us]; exact e2
      · rw [Nat.zero_add, top]; exact w1
      · exact pb_findsOK_congr (fun j hj => ec j (by omega)) f1
      · intro j hj
        show W _ = va_cpy fc sc 0 (30 * i) 30 (30 * i + j)
        rw [Nat.zero_add, inn j (by omega), ec _ (by omega)]
        have := f2 j hj
        rw [Nat.zero_add] at this
        exact this
/-- ahead of a step, both sides -/
theorem pb_St_keep {w : Nat → Int32} {steps ls : Int32} {lc : Nat → Int32} {fs : Int32} {fc : Nat → Int32} {bs : Int32} {bc : Nat → Int32} {ps : Int32} {pc sc ss : Nat → Int32} (h : pb_St w 0 steps ls lc fs fc bs bc ps pc sc ss) : ∃ (w2 : Nat → Int32) (st2 : Int32) (sc2 ss2 : Nat → Int32), fX8_minds w = some w2 ∧ fX5_keepStep steps fs fc sc ss = some (st2, sc2, ss2) ∧ pb_St w2 0 st2 ls lc fs fc bs bc ps pc sc2 ss2 ∧ ∀ j, 377 ≤ j → w2 j = w j := by
  obtain ⟨ns, hns, rfl, w4⟩ : ∃ ns, ns ≤ 8 ∧ steps = nI ns ∧ w 4 = nI ns := by
    obtain ⟨nl, nf, nb, np, ns, ⟨n1, n2, n3, n4, n5⟩, ⟨e1, e2, e3, e4, e5⟩, ⟨w0, w1, w3, w4, w5⟩, -⟩ := h
    exact ⟨ns, n5, e5, w5⟩
  by_cases h8 : ns < 8
  · refine ⟨_, _, _, _, fX8_minds_lt w h8 w4, fX5_keepStep_lt h8, pb_St_push h h8, fun j hj => ?_⟩
    rw [pk_un (by omega), pk_cpy_out (by omega), pk_un (by omega)]
  · have : ns = 8 := by omega
    subst this
    have hsh := pb_St_shift h
    have s4 : pb_shift w 4 = nI 7 := pk_us
    refine ⟨_, _, _, _, (fX8_minds_8 w w4).trans (fX8_minds_J (pb_shift w) (ns := 7) (by omega) s4), fX5_keepStep_8, pb_St_push hsh (by omega), fun j hj => ?_⟩
    rw [pk_un (by omega), pk_cpy_out (by omega), pk_un (by omega)]
    unfold pb_shift
    rw [pk_un (by omega), pk_cpy_out (by omega)]
