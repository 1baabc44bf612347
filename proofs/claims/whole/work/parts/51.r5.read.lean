/-! ===== a past told by a text: the two readers side by side ===== -/
theorem fX_read_sim {B T pc sc ss w nums nums2 lc0 fc0 bc0 : Nat → Int32} {n : Nat} (pl bh so at0 st0 iw0 ig0 d0 d1 d2 d3 d4 : Int32) (hn : n ≤ 150) (hT : ∀ j, j < n → T j = B j) : (∃ s' a b c ls lc fs fc bs bc at' iw ig w' nm, fX3_readInto (nI n) pl bh so B nums d0 d1 lc0 d2 fc0 d3 bc0 d4 = some (-1, nI s', a, b, c, 0, ls, lc, fs, fc, bs, bc, 0) ∧ fX8_read (nI n) at0 st0 iw0 ig0 w T nums2 = some (-10 - nI s', at', nI s', iw, ig, w', nm) ∧ ∀ j, j < 1131 → w' j = w j) ∨ (∃ i a b c d nl lc nf fc nb bc at' st' iw ig w' nm, i < 1000 ∧ fX3_readInto (nI n) pl bh so B nums d0 d1 lc0 d2 fc0 d3 bc0 d4 = some (nI i, a, b, c, d, 0, nI nl, lc, nI nf, fc, nI nb, bc, 0) ∧ fX8_read (nI n) at0 st0 iw0 ig0 w T nums2 = some (nI i, at', st', iw, ig, va_cpy w' w' 1131 0 377, nm) ∧ pb_St (pb_sh w') 0 0 (nI nl) lc (nI nf) fc (nI nb) bc 0 pc sc ss ∧ ∀ j, j < 1131 → w' j = w j) := by
  have eb : fX8_begins w 1131 = some (pb_zero w 1131 377) := fX8_begins_eq w 1131 (by omega)
  have hz0 : ∀ j, j < 1131 → pb_zero w 1131 377 j = w j := fun j hj => if_neg (by omega)
  have hD0 : pb_St (pb_sh (pb_zero w 1131 377)) 0 0 0 lc0 0 fc0 0 bc0 0 pc sc ss := pb_St_frame (pb_St_zero w) (fun j h1 h2 => by
    show pb_zero w 1131 377 (1131 + j) = pb_zero w 0 377 j
    unfold pb_zero
    rw [if_pos (by omega), if_pos (by omega)])
  obtain ⟨s0, e0, a0, f0, z0, _, _, _, _, eM0, _⟩ := fX_token (p := 0) pl so st0 iw0 ig0 hn hT (Nat.zero_le _)
  have eM1 : fX8_token (nI n) 0 st0 iw0 ig0 T = some (nI e0, nI s0, pb_bI a0, pb_bI f0) := eM0
  obtain ⟨r, s, e1, e2, hQ⟩ := pb_lp_sim (b1 := fun y => fX3_readInto_L11 (nI n) B (0, 0, 0, 0, 0) y.1 y.2.1 y.2.2.1 y.2.2.2.1 y.2.2.2.2.1 y.2.2.2.2.2.1 y.2.2.2.2.2.2.1 y.2.2.2.2.2.2.2.1 y.2.2.2.2.2.2.2.2.1 y.2.2.2.2.2.2.2.2.2.1 y.2.2.2.2.2.2.2.2.2.2) (b2 := fun y => fX8_read_L18 (nI n) T y.1 y.2.1 y.2.2.1 y.2.2.2.1 y.2.2.2.2.1 y.2.2.2.2.2.1 y.2.2.2.2.2.2) (fun N x y => ∃ i p pl so nu nl lc nf fc nb bc at' st' iw' ig' w' nm st1 iw1 ig1, p ≤ n ∧ i ≤ p ∧ N = n - p ∧ nl ≤ 8 ∧ nf ≤ 10 ∧ nb ≤ 8 ∧ x = (nI i, pl, nI p, so, nu, nI nl, lc, nI nf, fc, nI nb, bc) ∧ y = (nI i, at', st', iw', ig', w', nm) ∧ fX8_token (nI n) (nI p) st1 iw1 ig1 T = some (at', st', iw', ig') ∧ pb_St (pb_sh w') 0 0 (nI nl) lc (nI nf) fc (nI nb) bc 0 pc sc ss ∧ ∀ j, j < 1131 → w' j = w j) (fun r s => (∃ s' a b c ls lc fs fc bs bc at' iw ig w' nm, r = Sum.inr (-1, nI s', a, b, c, 0, ls, lc, fs, fc, bs, bc, 0) ∧ s = Sum.inr (-10 - nI s', at', nI s', iw, ig, w', nm) ∧ ∀ j, j < 1131 → w' j = w j) ∨ ∃ i a b c d nl lc nf fc nb bc at' st' iw ig w' nm, i < 1000 ∧ r = Sum.inr (nI i, a, b, c, d, 0, nI nl, lc, nI nf, fc, nI nb, bc, 0) ∧ s = Sum.inl (nI i, at', st', iw, ig, w', nm) ∧ pb_St (pb_sh w') 0 0 (nI nl) lc (nI nf) fc (nI nb) bc 0 pc sc ss ∧ ∀ j, j < 1131 → w' j = w j) (by
    rintro N x y ⟨i, p, pl, so, nu, nl, lc, nf, fc, nb, bc, at', st', iw', ig', w', nm, st1, iw1, ig1, hp, hip, rfl, hl8, hf10, hb8, rfl, rfl, htok, hD, hfr⟩
    obtain ⟨s, e, a, f, z, h1, h2, h3, eC, eM, htk⟩ := fX_token pl so st1 iw1 ig1 hn hT hp
    rw [eM] at htok
    obtain ⟨rfl, rfl, rfl, rfl⟩ : nI e = at' ∧ nI s = st' ∧ pb_bI a = iw' ∧ pb_bI f = ig' := by
      have := Option.some.inj htok
      simp only [Prod.mk.injEq] at this
      exact this
    have hi0 : nI i = 0 ↔ i = 0 := nI_eq (b := 0) (by omega) (by omega)
    have h150 : ¬ (150 : Int32) < nI i := nI_nlt (b := i) (a := 150) (by omega) (by omega)
    have efi : (if nI i = 0 then some 1 else some 0 : Option Int32) = some (pb_bI (decide (i = 0))) := by
      by_cases h : i = 0
      · rw [if_pos (hi0.mpr h), decide_eq_true h]; rfl
      · rw [if_neg (fun hh => h (hi0.mp hh)), decide_eq_false h]; rfl
    obtain ⟨ok, s', e', z', nu', ls', lc', fs', fc', bs', bc', iw2, ig2, w2, nm2, g1, g2, g3, g4, g5, g6⟩ := fX_item (nums := nu) (nums2 := nm) (i := i) hn hT h2 h3 htk (by omega) hl8 hf10 hb8 hD
    simp only [fX3_readInto_L11, fX8_read_L18]
    rw [if_neg h150, eC, Option.bind_some]
    dsimp only
    by_cases hz : z = 0
    · have hsn : s = n := by
        rcases htk with ⟨h, _⟩ | ⟨_, _, _, _, h, _⟩ | ⟨_, _, _, _, h, _⟩ | ⟨_, _, _, _, h⟩
        · exact h
        · rw [hz] at h; exact absurd h (by decide)
        · rw [hz] at h; split at h <;> exact absurd h (by decide)
        · rw [hz] at h; split at h <;> exact absurd h (by decide)
      have ha : a = false := by
        rcases htk with ⟨_, _, h, _⟩ | ⟨_, _, _, _, h, _⟩ | ⟨_, _, h, _⟩ | ⟨_, _, h, _⟩
        · exact h
        · rw [hz] at h; exact absurd h (by decide)
        · exact h
        · exact h
      have hnlt : ¬ nI s < nI n := nI_nlt (by omega) (by omega)
      rw [if_pos hz, if_neg hnlt]
      right
      by_cases hii : i = 0
      · rw [if_pos (hi0.mpr hii), if_pos (hi0.mpr hii), Option.bind_some, Sum.elim_inl]
        unfold fX8_read_J33 fX8_takesItem
        rw [ha, pb_bI_f, fX8_wordNow_0, Option.bind_some, if_pos rfl, Option.bind_some]
        exact ⟨_, _, rfl, rfl, Or.inl ⟨s, _, _, _, _, _, _, _, _, _, _, _, _, _, _, rfl, rfl, hfr⟩⟩
      · have hni : ¬ nI i = 0 := fun h => hii (hi0.mp h)
        rw [if_neg hni, if_neg hni, Option.bind_some, Sum.elim_inr]
        exact ⟨_, _, rfl, rfl, Or.inr ⟨i, _, _, _, _, nl, lc, nf, fc, nb, bc, _, _, _, _, w', _, by omega, rfl, rfl, hD, hfr⟩⟩
    · have hsn : s < n ∧ s < e := by
        rcases htk with ⟨_, _, _, _, h⟩ | ⟨q1, q2, _⟩ | ⟨q1, q2, _⟩ | ⟨q1, q2, _⟩
        · exact absurd h hz
        · exact ⟨q1, q2⟩
        · exact ⟨q1, q2⟩
        · exact ⟨q1, by omega⟩
      rw [if_neg hz, efi, Option.bind_some, if_pos (nI_lt hsn.1 (by omega)), Option.bind_some, Sum.elim_inl]
      unfold fX3_readInto_J50 fX8_read_J33
      dsimp only
      rw [g3, g4, Option.bind_some, Option.bind_some]
      dsimp only
      have hfr2 : ∀ j, j < 1131 → w2 j = w j := fun j hj => (g5 j hj).trans (hfr j hj)
      cases ok with
      | false =>
        right
        rw [pb_bI_f, if_pos rfl, if_pos rfl]
        exact ⟨_, _, rfl, rfl, Or.inl ⟨s', _, _, _, _, _, _, _, _, _, _, _, _, _, _, rfl, rfl, hfr2⟩⟩
      | true =>
        obtain ⟨q1, nl', nf', nb', q2, q3, q4, rfl, rfl, rfl, q5⟩ := g6 rfl
        obtain ⟨s3, e3, a3, f3, z3, _, _, _, _, eM3, _⟩ := fX_token (p := e') 0 0 (nI s') iw2 ig2 hn hT g2
        left
        rw [pb_bI_t, if_neg pb_ne10, if_neg pb_ne10, eM3, Option.bind_some, nI_1]
        exact ⟨_, _, n - e', by omega, rfl, rfl, i + 1, e', nI s', z', nu', nl', lc', nf', fc', nb', bc', _, _, _, _, w2, nm2, _, _, _, g2, by omega, rfl, q2, q3, q4, rfl, rfl, eM3, q5, hfr2⟩) pb_FU n (0, pl, 0, so, nums, 0, lc0, 0, fc0, 0, bc0) (0, nI e0, nI s0, pb_bI a0, pb_bI f0, pb_zero w 1131 377, nums2) ⟨0, 0, pl, so, nums, 0, lc0, 0, fc0, 0, bc0, _, _, _, _, _, nums2, st0, iw0, ig0, Nat.zero_le _, by omega, rfl, by omega, by omega, by omega, rfl, rfl, eM0, hD0, hz0⟩ (pb_FU_gt (by omega))
  have eR : fX3_readInto (nI n) pl bh so B nums d0 d1 lc0 d2 fc0 d3 bc0 d4 = (some r).bind (fun z => Sum.elim (fun q => fX3_readInto_E11 (0, 0, 0, 0, 0) q.1 q.2.1 q.2.2.1 q.2.2.2.1 q.2.2.2.2.1 q.2.2.2.2.2.1 q.2.2.2.2.2.2.1 q.2.2.2.2.2.2.2.1 q.2.2.2.2.2.2.2.2.1 q.2.2.2.2.2.2.2.2.2.1 q.2.2.2.2.2.2.2.2.2.2) (fun r => some r) z) := by
    unfold fX3_readInto
    rw [show fX5_empty d0 d1 d2 d3 d4 = some (0, 0, 0, 0, 0) from rfl, Option.bind_some, ← e1]
  have eM : fX8_read (nI n) at0 st0 iw0 ig0 w T nums2 = (some s).bind (fun z => Sum.elim (fun q => fX8_read_E18 q.1 q.2.1 q.2.2.1 q.2.2.2.1 q.2.2.2.2.1 q.2.2.2.2.2.1 q.2.2.2.2.2.2) (fun r => some r) z) := by
    unfold fX8_read
    rw [eb, Option.bind_some, eM1, Option.bind_some, ← e2]
  rw [eR, eM, Option.bind_some, Option.bind_some]
  rcases hQ with ⟨s', a, b, c, ls, lc, fs, fc, bs, bc, at', iw, ig, w', nm, rfl, rfl, hfr⟩ | ⟨i, a, b, c, d, nl, lc, nf, fc, nb, bc, at', st', iw, ig, w', nm, hi, rfl, rfl, hD, hfr⟩
  · exact Or.inl ⟨s', a, b, c, ls, lc, fs, fc, bs, bc, at', iw, ig, w', nm, rfl, rfl, hfr⟩
  · have ec : fX8_copy w' 1131 0 = some (va_cpy w' w' 1131 0 377) := fX8_copy_eq w' 1131 0 (by omega) (by omega) (by omega)
    refine Or.inr ⟨i, a, b, c, d, nl, lc, nf, fc, nb, bc, at', st', iw, ig, w', nm, hi, rfl, ?_, hD, hfr⟩
    rw [Sum.elim_inl]
    unfold fX8_read_E18
    rw [ec, Option.bind_some]
