/-! ===== items of a text ===== -/
def pb_sh (w : Nat → Int32) : Nat → Int32 := fun j => w (1131 + j)
theorem pb_sh_upd (w : Nat → Int32) (a : Nat) (x : Int32) : pb_sh (upd w (1131 + a) x) = upd (pb_sh w) a x := by
  funext j
  show (if 1131 + j = 1131 + a then x else w (1131 + j)) = if j = a then x else w (1131 + j)
  by_cases h : j = a
  · rw [if_pos (by omega), if_pos h]
  · rw [if_neg (by omega), if_neg h]
theorem pb_sh_put3 (w : Nat → Int32) (a : Nat) (x y z : Int32) : pb_sh (pb_put3 w (1131 + a) x y z) = pb_put3 (pb_sh w) a x y z := by
  unfold pb_put3
  rw [Nat.add_assoc 1131 a 1, Nat.add_assoc 1131 a 2, pb_sh_upd, pb_sh_upd, pb_sh_upd]
theorem pb_sh_put5 (w : Nat → Int32) (a : Nat) (x y z u v : Int32) : pb_sh (pb_put5 w (1131 + a) x y z u v) = pb_put5 (pb_sh w) a x y z u v := by
  unfold pb_put5
  rw [Nat.add_assoc 1131 a 3, Nat.add_assoc 1131 a 4, pb_sh_upd, pb_sh_upd, pb_sh_put3]
theorem pb_St_rule_R {w : Nat → Int32} {nl : Nat} {lc : Nat → Int32} {fs : Int32} {fc : Nat → Int32} {bs : Int32} {bc : Nat → Int32} {ps : Int32} {pc sc ss : Nat → Int32} {k a b : Int32} (h : pb_St (pb_sh w) 0 0 (nI nl) lc fs fc bs bc ps pc sc ss) (hnl : nl < 8) (hk : pb_lt k 4) (ha : pb_lt a 7) (hb : pb_lt b 7) : pb_St (pb_sh (upd (pb_put3 w (1131 + 5 + 3 * nl) k a b) (1131 + 0) (nI (nl + 1)))) 0 0 (nI (nl + 1)) (pb_put3 lc (3 * nl) k a b) fs fc bs bc ps pc sc ss := by
  have h4 : pb_sh w 4 = 0 := by
    obtain ⟨_, _, _, _, ns, _, ⟨_, _, _, _, e⟩, ⟨_, _, _, _, e2⟩, _⟩ := h
    rw [show pb_sh w 4 = nI ns from e2, ← e]
  have e4 : upd (pb_sh w) 4 0 = pb_sh w := by
    funext j
    show (if j = 4 then 0 else pb_sh w j) = pb_sh w j
    by_cases hj : j = 4
    · subst hj; rw [if_pos rfl, h4]
    · rw [if_neg hj]
  have h2 := pb_St_rule h hnl hk ha hb
  rw [e4, Nat.zero_add] at h2
  rw [pb_sh_upd, Nat.add_assoc 1131 5, pb_sh_put3]
  exact h2
theorem pb_St_find_R {w : Nat → Int32} {nf : Nat} {ls : Int32} {lc fc : Nat → Int32} {bs : Int32} {bc : Nat → Int32} {ps : Int32} {pc sc ss : Nat → Int32} {a v r : Int32} (h : pb_St (pb_sh w) 0 0 ls lc (nI nf) fc bs bc ps pc sc ss) (hnf : nf < 10) (ha : pb_lt a 7) (hv : pb_lt v 2) (hr : pb_lt r 11) : pb_St (pb_sh (upd (pb_put3 w (1131 + 29 + 3 * nf) a v r) (1131 + 1) (nI (nf + 1)))) 0 0 ls lc (nI (nf + 1)) (pb_put3 fc (3 * nf) a v r) bs bc ps pc sc ss := by
  have h2 := pb_St_find h hnf ha hv hr
  rw [Nat.zero_add, Nat.zero_add] at h2
  rw [pb_sh_upd, Nat.add_assoc 1131 29, pb_sh_put3]
  exact h2
theorem pb_St_bet_R {w : Nat → Int32} {nb : Nat} {ls : Int32} {lc : Nat → Int32} {fs : Int32} {fc : Nat → Int32} {bc : Nat → Int32} {ps : Int32} {pc sc ss : Nat → Int32} {k a b s o : Int32} (h : pb_St (pb_sh w) 0 0 ls lc fs fc (nI nb) bc ps pc sc ss) (hnb : nb < 8) (hk : pb_lt k 6) (ha : pb_lt a 7) (hb : pb_lt b 7) (hs0 : ∃ t : Nat, 1 ≤ t ∧ t ≤ 99 ∧ s = nI t) (ho : pb_lt o 100) : pb_St (pb_sh (upd (pb_put5 w (1131 + 59 + 5 * nb) k a b s o) (1131 + 2) (nI (nb + 1)))) 0 0 ls lc fs fc (nI (nb + 1)) (pb_put5 bc (5 * nb) k a b s o) ps pc sc ss := by
  have h2 := pb_St_bet h hnb hk ha hb hs0 ho
  rw [Nat.zero_add, Nat.zero_add] at h2
  rw [pb_sh_upd, Nat.add_assoc 1131 59, pb_sh_put5]
  exact h2
theorem fX8_wordNow_0 (n : Int32) (x y : Int32) (T : Nat → Int32) : fX8_wordNow n x y 0 T = some (-1) := rfl
theorem fX8_wordNow_eq {B T : Nat → Int32} {n s e : Nat} (hn : n ≤ 150) (hT : ∀ j, j < n → T j = B j) (hse : s ≤ e) (hen : e ≤ n) : fX8_wordNow (nI n) (nI e) (nI s) 1 T = some (if pb_nm B (pb_chr 0) s e 4 = true then 0 else if pb_nm B (pb_chr 1) s e 4 = true then 1 else if pb_nm B (pb_chr 2) s e 4 = true then 2 else if pb_nm B (pb_chr 3) s e 3 = true then 3 else -1) := by
  have n0 : fX8_isNamed (nI n) (nI e) (nI s) 1 T 112 97 115 116 = some (pb_bI (pb_nm B (pb_chr 0) s e 4)) := fX8_isNamed_eq (C := pb_chr 0) (m := 4) hn hT hse hen (Or.inr ⟨by decide, by decide, rfl⟩)
  have n1 : fX8_isNamed (nI n) (nI e) (nI s) 1 T 114 117 108 101 = some (pb_bI (pb_nm B (pb_chr 1) s e 4)) := fX8_isNamed_eq (C := pb_chr 1) (m := 4) hn hT hse hen (Or.inr ⟨by decide, by decide, rfl⟩)
  have n2 : fX8_isNamed (nI n) (nI e) (nI s) 1 T 102 105 110 100 = some (pb_bI (pb_nm B (pb_chr 2) s e 4)) := fX8_isNamed_eq (C := pb_chr 2) (m := 4) hn hT hse hen (Or.inr ⟨by decide, by decide, rfl⟩)
  have n3 : fX8_isNamed (nI n) (nI e) (nI s) 1 T 98 101 116 0 = some (pb_bI (pb_nm B (pb_chr 3) s e 3)) := fX8_isNamed_eq (C := pb_chr 3) (m := 3) hn hT hse hen (Or.inl ⟨rfl, rfl⟩)
  unfold fX8_wordNow
  rw [n0, n1, n2, n3]
  cases pb_nm B (pb_chr 0) s e 4 <;> cases pb_nm B (pb_chr 1) s e 4 <;> cases pb_nm B (pb_chr 2) s e 4 <;> cases pb_nm B (pb_chr 3) s e 3 <;> rfl
theorem pb_lt_le {x h : Nat} (hx : x ≤ h) : pb_lt (nI x) (h + 1) := ⟨x, by omega, rfl⟩
theorem fX_item {B T nums nums2 lc fc bc pc sc ss w : Nat → Int32} {n s e nl nf nb i : Nat} {a f : Bool} {z : Int32} (hn : n ≤ 150) (hT : ∀ j, j < n → T j = B j) (hse : s ≤ e) (hen : e ≤ n) (htk : pb_tk B n s e a f z) (hi : i < 1000) (hl8 : nl ≤ 8) (hf10 : nf ≤ 10) (hb8 : nb ≤ 8) (hD : pb_St (pb_sh w) 0 0 (nI nl) lc (nI nf) fc (nI nb) bc 0 pc sc ss) : ∃ ok s' e' z' nu ls' lc' fs' fc' bs' bc' iw' ig' w' nm', s' ≤ n ∧ e' ≤ n ∧ fX3_readItem (nI n) (nI s) (nI e) z B nums (nI nl) lc (nI nf) fc (nI nb) bc (pb_bI (decide (i = 0))) = some (pb_bI ok, nI s', nI e', z', nu, ls', lc', fs', fc', bs', bc') ∧ fX8_takesItem (nI n) (nI e) (nI s) (pb_bI a) (pb_bI f) w T nums2 (nI i) = some (pb_bI ok, nI e', nI s', iw', ig', w', nm') ∧ (∀ j, j < 1131 → w' j = w j) ∧ (ok = true → e < e' ∧ ∃ nl' nf' nb', nl' ≤ 8 ∧ nf' ≤ 10 ∧ nb' ≤ 8 ∧ ls' = nI nl' ∧ fs' = nI nf' ∧ bs' = nI nb' ∧ pb_St (pb_sh w') 0 0 (nI nl') lc' (nI nf') fc' (nI nb') bc' 0 pc sc ss) := by
  have hi0 : nI i = 0 ↔ i = 0 := nI_eq (b := 0) (by omega) (by omega)
  obtain ⟨hwl, hwf, hwb⟩ : w (1131 + 0) = nI nl ∧ w (1131 + 1) = nI nf ∧ w (1131 + 2) = nI nb := by
    obtain ⟨l, f', b', _, _, _, ⟨e1, e2, e3, _, _⟩, ⟨w1, w2, w3, _, _⟩, _⟩ := hD
    rw [e1, e2, e3]
    exact ⟨w1, w2, w3⟩
  have hs0 : s ≤ n := by omega
  have hfail : ∀ {X : Option (Int32 × Int32 × Int32 × Int32 × (Nat → Int32) × Int32 × (Nat → Int32) × Int32 × (Nat → Int32) × Int32 × (Nat → Int32))} {Y : Option (Int32 × Int32 × Int32 × Int32 × Int32 × (Nat → Int32) × (Nat → Int32))}, X = some (0, nI s, nI e, z, nums, nI nl, lc, nI nf, fc, nI nb, bc) → Y = some (0, nI e, nI s, pb_bI a, pb_bI f, w, nums2) → ∃ ok s' e' z' nu ls' lc' fs' fc' bs' bc' iw' ig' w' nm', s' ≤ n ∧ e' ≤ n ∧ X = some (pb_bI ok, nI s', nI e', z', nu, ls', lc', fs', fc', bs', bc') ∧ Y = some (pb_bI ok, nI e', nI s', iw', ig', w', nm') ∧ (∀ j, j < 1131 → w' j = w j) ∧ (ok = true → e < e' ∧ ∃ nl' nf' nb', nl' ≤ 8 ∧ nf' ≤ 10 ∧ nb' ≤ 8 ∧ ls' = nI nl' ∧ fs' = nI nf' ∧ bs' = nI nb' ∧ pb_St (pb_sh w') 0 0 (nI nl') lc' (nI nf') fc' (nI nb') bc' 0 pc sc ss) := by
    intro X Y hX hY
    exact ⟨false, s, e, z, nums, nI nl, lc, nI nf, fc, nI nb, bc, pb_bI a, pb_bI f, w, nums2, hs0, hen, hX, hY, fun _ _ => rfl, fun h => absurd h (by decide)⟩
  by_cases hz : z = 1
  case neg =>
    have ha : a = false := by
      rcases htk with ⟨_, _, h, _⟩ | ⟨_, _, _, _, h, _⟩ | ⟨_, _, h, _⟩ | ⟨_, _, h, _⟩
      · exact h
      · exact absurd h hz
      · exact h
      · exact h
    apply hfail
    · unfold fX3_readItem
      rw [if_neg hz]
    · unfold fX8_takesItem
      rw [ha, pb_bI_f, fX8_wordNow_0, Option.bind_some, if_pos rfl]
  have haf : a = true ∧ f = false := by
    rcases htk with ⟨_, _, _, _, h⟩ | ⟨_, _, h1, h2, _⟩ | ⟨_, _, _, _, h, _⟩ | ⟨_, _, _, _, h⟩
    · rw [hz] at h; exact absurd h (by decide)
    · exact ⟨h1, h2⟩
    · rw [hz] at h; split at h <;> exact absurd h (by decide)
    · rw [hz] at h; split at h <;> exact absurd h (by decide)
  obtain ⟨rfl, rfl⟩ := haf
  subst hz
  have c0 : fX3_isWord 4 (pb_chr 0) (nI n) (nI s) (nI e) B = some (pb_bI (pb_nm B (pb_chr 0) s e 4)) := fX3_isWord_eq hn (by omega) hse hen
  have c1 : fX3_isWord 4 (pb_chr 1) (nI n) (nI s) (nI e) B = some (pb_bI (pb_nm B (pb_chr 1) s e 4)) := fX3_isWord_eq hn (by omega) hse hen
  have c2 : fX3_isWord 4 (pb_chr 2) (nI n) (nI s) (nI e) B = some (pb_bI (pb_nm B (pb_chr 2) s e 4)) := fX3_isWord_eq hn (by omega) hse hen
  have c3 : fX3_isWord 3 (pb_chr 3) (nI n) (nI s) (nI e) B = some (pb_bI (pb_nm B (pb_chr 3) s e 3)) := fX3_isWord_eq hn (by omega) hse hen
  have eW := fX8_wordNow_eq hn hT hse hen
  rw [show (pb_bI true) = (1 : Int32) from rfl] at hfail ⊢
  cases h0 : pb_nm B (pb_chr 0) s e 4 with
  | true =>
    have eW0 : fX8_wordNow (nI n) (nI e) (nI s) 1 T = some 0 := by rw [eW, h0]; rfl
    by_cases hii : i = 0
    · -- the first item
      obtain ⟨s', e', z', ok, iw2, ig2, g1, g2, g3, g4, g5, g6, g7⟩ := fX_stop (w := w) (nums := nums2) (nI s) 1 (nI s) 1 (pb_bI false) hn hT hen
      refine ⟨ok, s', e', z', nums, nI nl, lc, nI nf, fc, nI nb, bc, iw2, ig2, w, nums2, g1, g2, ?_, ?_, fun _ _ => rfl, fun hok => ⟨g4 hok, nl, nf, nb, hl8, hf10, hb8, rfl, rfl, rfl, hD⟩⟩
      · unfold fX3_readItem
        rw [if_pos rfl, c0, Option.bind_some, h0, decide_eq_true hii, if_pos rfl, pb_bI_t, if_neg pb_ne10, g5, Option.bind_some]
        dsimp only
        by_cases h3 : z' = 3
        · rw [if_pos h3, g6.mp h3]; rfl
        · rw [if_neg h3]
          have : ok = false := by
            cases ok with
            | false => rfl
            | true => exact absurd (g6.mpr rfl) h3
          rw [this]; rfl
      · unfold fX8_takesItem
        rw [eW0, Option.bind_some, if_neg (show ¬ (0 : Int32) = -1 by decide), if_pos rfl, Option.bind_some]
        unfold fX8_takesItem_J19
        rw [if_pos (hi0.mpr hii), Option.bind_some]
        unfold fX8_takesItem_J28
        rw [if_pos rfl, if_pos rfl, Option.bind_some]
        exact g7
    · apply hfail
      · unfold fX3_readItem
        rw [if_pos rfl, c0, Option.bind_some, h0, decide_eq_false hii, pb_bI_f, pb_bI_t, if_neg (show ¬ (0 : Int32) = 1 by decide)]
      · unfold fX8_takesItem
        rw [eW0, Option.bind_some, if_neg (show ¬ (0 : Int32) = -1 by decide), if_pos rfl, Option.bind_some]
        unfold fX8_takesItem_J19
        rw [if_neg (fun h => hii (hi0.mp h)), Option.bind_some]
        unfold fX8_takesItem_J28
        rw [if_neg pb_ne10]
  | false =>
    by_cases hii : i = 0
    · apply hfail
      · unfold fX3_readItem
        rw [if_pos rfl, c0, Option.bind_some, h0, decide_eq_true hii, pb_bI_f, pb_bI_t, if_neg pb_ne10]
      · unfold fX8_takesItem
        rw [eW, h0, Option.bind_some, if_neg (show ¬ false = true by decide)]
        have hx : ∀ x : Int32, ¬ x = 0 → (if x = -1 then some (0, nI e, nI s, 1, pb_bI false, w, nums2) else Option.bind (if x = 0 then some 1 else some 0 : Option Int32) (fun y => fX8_takesItem_J19 (nI n) (nI e) (nI s) 1 (pb_bI false) w T nums2 (nI i) x y)) = some (0, nI e, nI s, 1, pb_bI false, w, nums2) := by
          intro x hx0
          by_cases h : x = -1
          · rw [if_pos h]
          · rw [if_neg h, if_neg hx0, Option.bind_some]
            unfold fX8_takesItem_J19
            rw [if_pos (hi0.mpr hii), Option.bind_some]
            unfold fX8_takesItem_J28
            rw [if_neg (show ¬ (0 : Int32) = 1 by decide)]
        apply hx
        cases pb_nm B (pb_chr 1) s e 4 <;> cases pb_nm B (pb_chr 2) s e 4 <;> cases pb_nm B (pb_chr 3) s e 3 <;> decide
    · have hni : ¬ nI i = 0 := fun h => hii (hi0.mp h)
      cases h1 : pb_nm B (pb_chr 1) s e 4 with
      | true =>
        have eW1 : fX8_wordNow (nI n) (nI e) (nI s) 1 T = some 1 := by rw [eW, h0, h1]; rfl
        obtain ⟨s', e', z', ok, cs, cc, nu, b, at1, st1, iw1, ig1, w1, nm1, iw2, ig2, g1, g2, g3, g4, g5, g6, g7, g8⟩ := fX_row_rule (nums := nums) (nums2 := nums2) (lc := lc) 1 1 (pb_bI false) hn hT hs0 hen hl8 hwl
        refine ⟨ok, s', e', z', nu, cs, cc, nI nf, fc, nI nb, bc, iw2, ig2, w1, nm1, g1, g2, ?_, ?_, g7, fun hok => ?_⟩
        · unfold fX3_readItem
          rw [if_pos rfl, c0, Option.bind_some, h0, decide_eq_false hii, if_pos rfl, pb_bI_f, if_pos rfl, c1, Option.bind_some, h1, pb_bI_t, if_neg pb_ne10, g3, Option.bind_some]
          dsimp only
          rw [pb_isB_ite]
        · unfold fX8_takesItem
          rw [eW1, Option.bind_some, if_neg (show ¬ (1 : Int32) = -1 by decide), if_neg pb_ne10, Option.bind_some]
          unfold fX8_takesItem_J19
          rw [if_neg hni, Option.bind_some]
          unfold fX8_takesItem_J28
          rw [if_pos rfl, if_neg pb_ne10, if_pos rfl, g4, Option.bind_some]
          dsimp only
          rcases g5 with rfl | rfl
          · rw [if_pos rfl, Option.bind_some]
            exact g6
          · rw [if_neg pb_ne10, Option.bind_some]
            exact g6
        · obtain ⟨k1, k2, x0, x1, x2, _, u0, _, u1, _, u2, rfl, rfl, rfl⟩ := g8 hok
          exact ⟨k1, nl + 1, nf, nb, by omega, hf10, hb8, rfl, rfl, rfl, pb_St_rule_R hD k2 (pb_lt_le u0) (pb_lt_le u1) (pb_lt_le u2)⟩
      | false =>
        cases h2 : pb_nm B (pb_chr 2) s e 4 with
        | true =>
          have eW1 : fX8_wordNow (nI n) (nI e) (nI s) 1 T = some 2 := by rw [eW, h0, h1, h2]; rfl
          obtain ⟨s', e', z', ok, cs, cc, nu, b, at1, st1, iw1, ig1, w1, nm1, iw2, ig2, g1, g2, g3, g4, g5, g6, g7, g8⟩ := fX_row_find (nums := nums) (nums2 := nums2) (lc := fc) 1 1 (pb_bI false) hn hT hs0 hen hf10 hwf
          refine ⟨ok, s', e', z', nu, nI nl, lc, cs, cc, nI nb, bc, iw2, ig2, w1, nm1, g1, g2, ?_, ?_, g7, fun hok => ?_⟩
          · unfold fX3_readItem
            rw [if_pos rfl, c0, Option.bind_some, h0, decide_eq_false hii, if_pos rfl, pb_bI_f, if_pos rfl, c1, Option.bind_some, h1, pb_bI_f, if_pos rfl, c2, Option.bind_some, h2, pb_bI_t, if_neg pb_ne10, g3, Option.bind_some]
            dsimp only
            rw [pb_isB_ite]
          · unfold fX8_takesItem
            rw [eW1, Option.bind_some, if_neg (show ¬ (2 : Int32) = -1 by decide), if_neg (show ¬ (2 : Int32) = 0 by decide), Option.bind_some]
            unfold fX8_takesItem_J19
            rw [if_neg hni, Option.bind_some]
            unfold fX8_takesItem_J28
            rw [if_pos rfl, if_neg (show ¬ (2 : Int32) = 0 by decide), if_neg (show ¬ (2 : Int32) = 1 by decide), if_pos rfl, g4, Option.bind_some]
            dsimp only
            rcases g5 with rfl | rfl
            · rw [if_pos rfl, Option.bind_some]
              exact g6
            · rw [if_neg pb_ne10, Option.bind_some]
              exact g6
          · obtain ⟨k1, k2, x0, x1, x2, _, u0, _, u1, _, u2, rfl, rfl, rfl⟩ := g8 hok
            exact ⟨k1, nl, nf + 1, nb, hl8, by omega, hb8, rfl, rfl, rfl, pb_St_find_R hD k2 (pb_lt_le u0) (pb_lt_le u1) (pb_lt_le u2)⟩
        | false =>
          cases h3 : pb_nm B (pb_chr 3) s e 3 with
          | true =>
            have eW1 : fX8_wordNow (nI n) (nI e) (nI s) 1 T = some 3 := by rw [eW, h0, h1, h2, h3]; rfl
            obtain ⟨s', e', z', ok, cs, cc, nu, b, at1, st1, iw1, ig1, w1, nm1, iw2, ig2, g1, g2, g3, g4, g5, g6, g7, g8⟩ := fX_row_bet (nums := nums) (nums2 := nums2) (lc := bc) 1 1 (pb_bI false) hn hT hs0 hen hb8 hwb
            refine ⟨ok, s', e', z', nu, nI nl, lc, nI nf, fc, cs, cc, iw2, ig2, w1, nm1, g1, g2, ?_, ?_, g7, fun hok => ?_⟩
            · unfold fX3_readItem
              rw [if_pos rfl, c0, Option.bind_some, h0, decide_eq_false hii, if_pos rfl, pb_bI_f, if_pos rfl, c1, Option.bind_some, h1, pb_bI_f, if_pos rfl, c2, Option.bind_some, h2, pb_bI_f, if_pos rfl, c3, Option.bind_some, h3, pb_bI_t, if_neg pb_ne10, g3, Option.bind_some]
              dsimp only
              cases ok with
              | false => rfl
              | true => rfl
            · unfold fX8_takesItem
              rw [eW1, Option.bind_some, if_neg (show ¬ (3 : Int32) = -1 by decide), if_neg (show ¬ (3 : Int32) = 0 by decide), Option.bind_some]
              unfold fX8_takesItem_J19
              rw [if_neg hni, Option.bind_some]
              unfold fX8_takesItem_J28
              rw [if_pos rfl, if_neg (show ¬ (3 : Int32) = 0 by decide), if_neg (show ¬ (3 : Int32) = 1 by decide), if_neg (show ¬ (3 : Int32) = 2 by decide), g4, Option.bind_some]
              dsimp only
              rcases g5 with rfl | rfl
              · rw [if_pos rfl, Option.bind_some]
                exact g6
              · rw [if_neg pb_ne10, Option.bind_some]
                exact g6
            · obtain ⟨k1, k2, x0, x1, x2, x3, x4, _, u0, _, u1, _, u2, v3, u3, _, u4, rfl, rfl, rfl⟩ := g8 hok
              exact ⟨k1, nl, nf, nb + 1, hl8, hf10, by omega, rfl, rfl, rfl, pb_St_bet_R hD k2 (pb_lt_le u0) (pb_lt_le u1) (pb_lt_le u2) ⟨x3, v3, u3, rfl⟩ (pb_lt_le u4)⟩
          | false =>
            have eW1 : fX8_wordNow (nI n) (nI e) (nI s) 1 T = some (-1) := by rw [eW, h0, h1, h2, h3]; rfl
            apply hfail
            · unfold fX3_readItem
              rw [if_pos rfl, c0, Option.bind_some, h0, decide_eq_false hii, if_pos rfl, pb_bI_f, if_pos rfl, c1, Option.bind_some, h1, pb_bI_f, if_pos rfl, c2, Option.bind_some, h2, pb_bI_f, if_pos rfl, c3, Option.bind_some, h3, pb_bI_f, if_pos rfl]
            · unfold fX8_takesItem
              rw [eW1, Option.bind_some, if_pos rfl]
