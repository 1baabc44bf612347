/-! ===== rows of a text ===== -/
theorem pb_lp_goF {σ ρ : Type} {body : σ → Option (σ ⊕ ρ)} {x y : σ} {r : Option ρ} {F G : Nat} (hF : F = G + 1) (h : body x = some (Sum.inl y)) (h2 : pb_lp body G y = r) : pb_lp body F x = r := by
  subst hF
  rw [pb_lp, h]
  exact h2
theorem pb_lp_endF {σ ρ : Type} {body : σ → Option (σ ⊕ ρ)} {x : σ} {r : ρ} {F G : Nat} (hF : F = G + 1) (h : body x = some (Sum.inr r)) : pb_lp body F x = some r := by
  subst hF
  rw [pb_lp, h]
  rfl
theorem fX_stop {B T w nums : Nat → Int32} {n p : Nat} (pl so st iw ig : Int32) (hn : n ≤ 150) (hT : ∀ j, j < n → T j = B j) (hp : p ≤ n) : ∃ s e z ok iw2 ig2, s ≤ n ∧ e ≤ n ∧ p ≤ e ∧ (ok = true → p < e) ∧ fX3_takeToken (nI n) pl (nI p) so B = some (nI s, nI e, z) ∧ (z = 3 ↔ ok = true) ∧ fX8_takesItem_J79 (nI n) T 1 (nI p) st iw ig w nums = some (pb_bI ok, nI e, nI s, iw2, ig2, w, nums) := by
  obtain ⟨s, e, wd, f, z, h1, h2, h3, e1, e2, htk⟩ := fX_token pl so st iw ig hn hT hp
  have hst := pb_tk_stop htk
  have hlt : z = 3 → p < e := by
    intro hz
    rcases htk with ⟨_, _, _, _, ez⟩ | ⟨_, _, _, _, ez, _⟩ | ⟨_, hse, _, _, _, _⟩ | ⟨_, hse, _, _, _⟩
    · rw [hz] at ez; exact absurd ez (by decide)
    · rw [hz] at ez; exact absurd ez (by decide)
    · omega
    · omega
  have ej : fX8_takesItem_J79 (nI n) T 1 (nI p) st iw ig w nums = if pb_by B n s = 59 then some (1, nI e, nI s, pb_bI wd, pb_bI f, w, nums) else some (0, nI e, nI s, pb_bI wd, pb_bI f, w, nums) := by
    unfold fX8_takesItem_J79
    rw [if_neg pb_ne10, e2, Option.bind_some]
    dsimp only
    rw [fX8_byteAt_eq hn (by omega) hT, Option.bind_some]
  by_cases hz : z = 3
  · refine ⟨s, e, z, true, pb_bI wd, pb_bI f, by omega, h3, by omega, fun _ => hlt hz, e1, ⟨fun _ => rfl, fun _ => hz⟩, ?_⟩
    rw [ej, if_pos (hst.mp hz)]
    rfl
  · refine ⟨s, e, z, false, pb_bI wd, pb_bI f, by omega, h3, by omega, fun h => absurd h (by decide), e1, ⟨fun h => absurd h hz, fun h => absurd h (by decide)⟩, ?_⟩
    rw [ej, if_neg (fun h => hz (hst.mpr h))]
    rfl
theorem fX_row_rule {B T nums nums2 lc w : Nat → Int32} {n s0 p k : Nat} (so iw ig : Int32) (hn : n ≤ 150) (hT : ∀ j, j < n → T j = B j) (hs0 : s0 ≤ n) (hp : p ≤ n) (hk : k ≤ 8) (hw : w (1131 + 0) = nI k) : ∃ s e z ok cs cc nu b at1 st1 iw1 ig1 w1 nm1 iw2 ig2, s ≤ n ∧ e ≤ n ∧ fX3_readRow 3 (pb_most 0) 3 8 24 (nI n) (nI s0) (nI p) so B nums (nI k) lc = some (pb_bI ok, nI s, nI e, z, nu, cs, cc) ∧ fX8_takesRule (nI n) (nI p) (nI s0) iw ig w T nums2 = some (b, at1, st1, iw1, ig1, w1, nm1) ∧ (b = 0 ∨ b = 1) ∧ fX8_takesItem_J79 (nI n) T b at1 st1 iw1 ig1 w1 nm1 = some (pb_bI ok, nI e, nI s, iw2, ig2, w1, nm1) ∧ (∀ j, j < 1131 → w1 j = w j) ∧ (ok = true → p < e ∧ k < 8 ∧ ∃ x0 x1 x2 : Nat, 0 ≤ x0 ∧ x0 ≤ 3 ∧ 0 ≤ x1 ∧ x1 ≤ 6 ∧ 0 ≤ x2 ∧ x2 ≤ 6 ∧ cs = nI (k + 1) ∧ cc = pb_put3 lc (3 * k) (nI x0) (nI x1) (nI x2) ∧ w1 = upd (pb_put3 w (1131 + 5 + 3 * k) (nI x0) (nI x1) (nI x2)) (1131 + 0) (nI (k + 1))) := by
  have hw8 : w 1131 = nI k := hw
  by_cases h8 : k = 8
  case pos =>
    subst h8
    have eF : fX6_isFull 3 8 (nI 8) = some 1 := fX6_isFull_full (M := 8) (by omega)
    refine ⟨s0, p, so, false, nI 8, lc, nums, 0, nI p, nI s0, iw, ig, w, nums2, iw, ig, hs0, hp, ?_, ?_, Or.inl rfl, rfl, fun _ _ => rfl, fun h => absurd h (by decide)⟩
    · unfold fX3_readRow
      rw [eF, Option.bind_some, if_neg pb_ne10]
      rfl
    · unfold fX8_takesRule
      rw [hw8, if_pos (show nI 8 = 8 from rfl)]
  have hlt : k < 8 := by omega
  have eF : fX6_isFull 3 8 (nI k) = some 0 := fX6_isFull_eq (M := 8) hlt (by omega)
  have hne : ¬ w 1131 = 8 := by
    rw [hw8]
    exact fun e => h8 ((nI_eq (a := k) (b := 8) (by omega) (by decide)).mp e)
  unfold fX3_readRow fX8_takesRule
  rw [eF, Option.bind_some, if_pos rfl, if_neg hne]
  obtain ⟨s1, e0, z0, a0, f0, hs1, hpe0, he0, hcol⟩ := fX_number (M := pb_most 0) (nums := nums) (nums2 := nums2) (cc := lc) (n := n) (p := p) (k := 0) (m := 3) (lo := 0) (h := 3) (nI s0) so (nI s0) iw ig (nI k) hn hT (by omega) (by omega) (by omega) rfl (by omega) rfl
  rcases hcol with ⟨x0, hlo0, hhi0, hadv0, c0, t0⟩ | ⟨c0, nm, t0⟩
  case inr =>
    have t0 : fX8_takes (nI n) (nI p) (nI s0) iw ig T nums2 0 0 3 = some (0, nI e0, nI s1, pb_bI a0, pb_bI f0, nm) := t0
    have hlp : pb_lp (fun y => fX3_readRow_L11 3 (pb_most 0) (nI n) B (nI k) lc y.1 y.2.1 y.2.2.1 y.2.2.2.1 y.2.2.2.2) pb_FU (0, nI s0, nI p, so, nums) = some (Sum.inr (0, nI s1, nI e0, z0, nums, nI k, lc)) := pb_lp_endF (G := 99999) rfl c0
    refine ⟨s1, e0, z0, false, nI k, lc, nums, 0, nI e0, nI s1, pb_bI a0, pb_bI f0, w, nm, pb_bI a0, pb_bI f0, hs1, he0, ?_, ?_, Or.inl rfl, rfl, fun _ _ => rfl, fun h => absurd h (by decide)⟩
    · rw [hlp, Option.bind_some]
      rfl
    · rw [t0, Option.bind_some]
      rfl
  have t0 : fX8_takes (nI n) (nI p) (nI s0) iw ig T nums2 0 0 3 = some (1, nI e0, nI s1, pb_bI a0, pb_bI f0, (upd nums2 0 (nI x0))) := t0
  obtain ⟨s2, e1, z1, a1, f1, hs2, hpe1, he1, hcol⟩ := fX_number (M := pb_most 0) (nums := (upd nums 0 (nI x0))) (nums2 := (upd nums2 0 (nI x0))) (cc := lc) (n := n) (p := e0) (k := 1) (m := 3) (lo := 0) (h := 6) (nI s1) z0 (nI s1) (pb_bI a0) (pb_bI f0) (nI k) hn hT (by omega) (by omega) (by omega) rfl (by omega) rfl
  rcases hcol with ⟨x1, hlo1, hhi1, hadv1, c1, t1⟩ | ⟨c1, nm, t1⟩
  case inr =>
    have t1 : fX8_takes (nI n) (nI e0) (nI s1) (pb_bI a0) (pb_bI f0) T (upd nums2 0 (nI x0)) 1 0 6 = some (0, nI e1, nI s2, pb_bI a1, pb_bI f1, nm) := t1
    have hlp : pb_lp (fun y => fX3_readRow_L11 3 (pb_most 0) (nI n) B (nI k) lc y.1 y.2.1 y.2.2.1 y.2.2.2.1 y.2.2.2.2) pb_FU (0, nI s0, nI p, so, nums) = some (Sum.inr (0, nI s2, nI e1, z1, (upd nums 0 (nI x0)), nI k, lc)) := pb_lp_goF (G := 99999) rfl c0 (pb_lp_endF (G := 99998) rfl c1)
    refine ⟨s2, e1, z1, false, nI k, lc, (upd nums 0 (nI x0)), 0, nI e1, nI s2, pb_bI a1, pb_bI f1, w, nm, pb_bI a1, pb_bI f1, hs2, he1, ?_, ?_, Or.inl rfl, rfl, fun _ _ => rfl, fun h => absurd h (by decide)⟩
    · rw [hlp, Option.bind_some]
      rfl
    · rw [t0, Option.bind_some]
      dsimp only
      rw [if_neg pb_ne10, t1, Option.bind_some]
      rfl
  have t1 : fX8_takes (nI n) (nI e0) (nI s1) (pb_bI a0) (pb_bI f0) T (upd nums2 0 (nI x0)) 1 0 6 = some (1, nI e1, nI s2, pb_bI a1, pb_bI f1, (upd (upd nums2 0 (nI x0)) 1 (nI x1))) := t1
  obtain ⟨s3, e2, z2, a2, f2, hs3, hpe2, he2, hcol⟩ := fX_number (M := pb_most 0) (nums := (upd (upd nums 0 (nI x0)) 1 (nI x1))) (nums2 := (upd (upd nums2 0 (nI x0)) 1 (nI x1))) (cc := lc) (n := n) (p := e1) (k := 2) (m := 3) (lo := 0) (h := 6) (nI s2) z1 (nI s2) (pb_bI a1) (pb_bI f1) (nI k) hn hT (by omega) (by omega) (by omega) rfl (by omega) rfl
  rcases hcol with ⟨x2, hlo2, hhi2, hadv2, c2, t2⟩ | ⟨c2, nm, t2⟩
  case inr =>
    have t2 : fX8_takes (nI n) (nI e1) (nI s2) (pb_bI a1) (pb_bI f1) T (upd (upd nums2 0 (nI x0)) 1 (nI x1)) 2 0 6 = some (0, nI e2, nI s3, pb_bI a2, pb_bI f2, nm) := t2
    have hlp : pb_lp (fun y => fX3_readRow_L11 3 (pb_most 0) (nI n) B (nI k) lc y.1 y.2.1 y.2.2.1 y.2.2.2.1 y.2.2.2.2) pb_FU (0, nI s0, nI p, so, nums) = some (Sum.inr (0, nI s3, nI e2, z2, (upd (upd nums 0 (nI x0)) 1 (nI x1)), nI k, lc)) := pb_lp_goF (G := 99999) rfl c0 (pb_lp_goF (G := 99998) rfl c1 (pb_lp_endF (G := 99997) rfl c2))
    refine ⟨s3, e2, z2, false, nI k, lc, (upd (upd nums 0 (nI x0)) 1 (nI x1)), 0, nI e2, nI s3, pb_bI a2, pb_bI f2, w, nm, pb_bI a2, pb_bI f2, hs3, he2, ?_, ?_, Or.inl rfl, rfl, fun _ _ => rfl, fun h => absurd h (by decide)⟩
    · rw [hlp, Option.bind_some]
      rfl
    · rw [t0, Option.bind_some]
      dsimp only
      rw [if_neg pb_ne10, t1, Option.bind_some]
      dsimp only
      rw [if_neg pb_ne10, t2, Option.bind_some]
      rfl
  have t2 : fX8_takes (nI n) (nI e1) (nI s2) (pb_bI a1) (pb_bI f1) T (upd (upd nums2 0 (nI x0)) 1 (nI x1)) 2 0 6 = some (1, nI e2, nI s3, pb_bI a2, pb_bI f2, (upd (upd (upd nums2 0 (nI x0)) 1 (nI x1)) 2 (nI x2))) := t2
  have cE : fX3_readRow_L11 3 (pb_most 0) (nI n) B (nI k) lc (nI 3) (nI s3) (nI e2) z2 (upd (upd (upd nums 0 (nI x0)) 1 (nI x1)) 2 (nI x2)) = some (Sum.inr (Sum.inl (nI 3, nI s3, nI e2, z2, (upd (upd (upd nums 0 (nI x0)) 1 (nI x1)) 2 (nI x2))))) := by
    unfold fX3_readRow_L11
    exact if_pos (show Int32.ofNat 3 ≤ nI 3 from Int32.le_refl _)
  have hlp : pb_lp (fun y => fX3_readRow_L11 3 (pb_most 0) (nI n) B (nI k) lc y.1 y.2.1 y.2.2.1 y.2.2.2.1 y.2.2.2.2) pb_FU (0, nI s0, nI p, so, nums) = some (Sum.inl (nI 3, nI s3, nI e2, z2, (upd (upd (upd nums 0 (nI x0)) 1 (nI x1)) 2 (nI x2)))) := pb_lp_goF (G := 99999) rfl c0 (pb_lp_goF (G := 99998) rfl c1 (pb_lp_goF (G := 99997) rfl c2 (pb_lp_endF (G := 99996) rfl cE)))
  obtain ⟨s, e, z, ok, iw2, ig2, hs, he, hpe, hadv, q1, hz, q2⟩ := fX_stop (w := upd (pb_put3 w (1131 + 5 + 3 * k) (nI x0) (nI x1) (nI x2)) (1131 + 0) (nI (k + 1))) (nums := (upd (upd (upd nums2 0 (nI x0)) 1 (nI x1)) 2 (nI x2))) (nI s3) z2 (nI s3) (pb_bI a2) (pb_bI f2) hn hT he2
  have ea : fX6_addThree 3 8 24 (nI k) lc ((upd (upd (upd nums 0 (nI x0)) 1 (nI x1)) 2 (nI x2)) 0) ((upd (upd (upd nums 0 (nI x0)) 1 (nI x1)) 2 (nI x2)) 1) ((upd (upd (upd nums 0 (nI x0)) 1 (nI x1)) 2 (nI x2)) 2) = some (nI (k + 1), pb_put3 lc (3 * k) (nI x0) (nI x1) (nI x2)) := fX6_addThree_eq (M := 8) hlt (by omega) (by omega)
  have em : fX8_adds w 1131 0 5 ((upd (upd (upd nums2 0 (nI x0)) 1 (nI x1)) 2 (nI x2)) 0) ((upd (upd (upd nums2 0 (nI x0)) 1 (nI x1)) 2 (nI x2)) 1) ((upd (upd (upd nums2 0 (nI x0)) 1 (nI x1)) 2 (nI x2)) 2) = some (nI k, upd (pb_put3 w (1131 + 5 + 3 * k) (nI x0) (nI x1) (nI x2)) (1131 + 0) (nI (k + 1))) := fX8_adds_eq (r := 1131) (many := 0) (first := 5) (k := k) hw (by omega) (by omega)
  have hneg : ¬ nI k < 0 := nI_pos (by omega)
  refine ⟨s, e, z, ok, if z = 3 then nI (k + 1) else nI k, if z = 3 then pb_put3 lc (3 * k) (nI x0) (nI x1) (nI x2) else lc, (upd (upd (upd nums 0 (nI x0)) 1 (nI x1)) 2 (nI x2)), 1, nI e2, nI s3, pb_bI a2, pb_bI f2, upd (pb_put3 w (1131 + 5 + 3 * k) (nI x0) (nI x1) (nI x2)) (1131 + 0) (nI (k + 1)), (upd (upd (upd nums2 0 (nI x0)) 1 (nI x1)) 2 (nI x2)), iw2, ig2, hs, he, ?_, ?_, Or.inr rfl, q2, ?_, ?_⟩
  · rw [hlp, Option.bind_some]
    show fX3_readRow_E11 3 3 8 24 (nI n) B (nI k) lc (nI 3) (nI s3) (nI e2) z2 (upd (upd (upd nums 0 (nI x0)) 1 (nI x1)) 2 (nI x2)) = _
    unfold fX3_readRow_E11
    rw [q1, Option.bind_some]
    dsimp only
    by_cases h3 : z = 3
    · rw [if_pos h3, if_pos h3, if_pos h3, if_pos (show Int32.ofNat 3 = 3 from rfl), ea, Option.bind_some, hz.mp h3]
      rfl
    · rw [if_neg h3, if_neg h3, if_neg h3]
      have : ok = false := by
        cases ok with
        | false => rfl
        | true => exact absurd (hz.mpr rfl) h3
      rw [this]
      rfl
  · rw [t0, Option.bind_some]
    dsimp only
    rw [if_neg pb_ne10, t1, Option.bind_some]
    dsimp only
    rw [if_neg pb_ne10, t2, Option.bind_some]
    dsimp only
    rw [if_neg pb_ne10, em, Option.bind_some]
    dsimp only
    rw [if_neg hneg]
  · intro j hj
    show upd (pb_put3 _ _ _ _ _) _ _ j = _
    rw [pk_un (by omega), pb_put3_out (by omega)]
  · intro hok
    have h3 := hz.mpr hok
    have := hadv hok
    exact ⟨by omega, hlt, x0, x1, x2, hlo0, hhi0, hlo1, hhi1, hlo2, hhi2, if_pos h3, if_pos h3, rfl⟩
theorem fX_row_find {B T nums nums2 lc w : Nat → Int32} {n s0 p k : Nat} (so iw ig : Int32) (hn : n ≤ 150) (hT : ∀ j, j < n → T j = B j) (hs0 : s0 ≤ n) (hp : p ≤ n) (hk : k ≤ 10) (hw : w (1131 + 1) = nI k) : ∃ s e z ok cs cc nu b at1 st1 iw1 ig1 w1 nm1 iw2 ig2, s ≤ n ∧ e ≤ n ∧ fX3_readRow 3 (pb_most 1) 3 10 30 (nI n) (nI s0) (nI p) so B nums (nI k) lc = some (pb_bI ok, nI s, nI e, z, nu, cs, cc) ∧ fX8_takesFind (nI n) (nI p) (nI s0) iw ig w T nums2 = some (b, at1, st1, iw1, ig1, w1, nm1) ∧ (b = 0 ∨ b = 1) ∧ fX8_takesItem_J79 (nI n) T b at1 st1 iw1 ig1 w1 nm1 = some (pb_bI ok, nI e, nI s, iw2, ig2, w1, nm1) ∧ (∀ j, j < 1131 → w1 j = w j) ∧ (ok = true → p < e ∧ k < 10 ∧ ∃ x0 x1 x2 : Nat, 0 ≤ x0 ∧ x0 ≤ 6 ∧ 0 ≤ x1 ∧ x1 ≤ 1 ∧ 0 ≤ x2 ∧ x2 ≤ 10 ∧ cs = nI (k + 1) ∧ cc = pb_put3 lc (3 * k) (nI x0) (nI x1) (nI x2) ∧ w1 = upd (pb_put3 w (1131 + 29 + 3 * k) (nI x0) (nI x1) (nI x2)) (1131 + 1) (nI (k + 1))) := by
  have hw8 : w 1132 = nI k := hw
  by_cases h8 : k = 10
  case pos =>
    subst h8
    have eF : fX6_isFull 3 10 (nI 10) = some 1 := fX6_isFull_full (M := 10) (by omega)
    refine ⟨s0, p, so, false, nI 10, lc, nums, 0, nI p, nI s0, iw, ig, w, nums2, iw, ig, hs0, hp, ?_, ?_, Or.inl rfl, rfl, fun _ _ => rfl, fun h => absurd h (by decide)⟩
    · unfold fX3_readRow
      rw [eF, Option.bind_some, if_neg pb_ne10]
      rfl
    · unfold fX8_takesFind
      rw [hw8, if_pos (show nI 10 = 10 from rfl)]
  have hlt : k < 10 := by omega
  have eF : fX6_isFull 3 10 (nI k) = some 0 := fX6_isFull_eq (M := 10) hlt (by omega)
  have hne : ¬ w 1132 = 10 := by
    rw [hw8]
    exact fun e => h8 ((nI_eq (a := k) (b := 10) (by omega) (by decide)).mp e)
  unfold fX3_readRow fX8_takesFind
  rw [eF, Option.bind_some, if_pos rfl, if_neg hne]
  obtain ⟨s1, e0, z0, a0, f0, hs1, hpe0, he0, hcol⟩ := fX_number (M := pb_most 1) (nums := nums) (nums2 := nums2) (cc := lc) (n := n) (p := p) (k := 0) (m := 3) (lo := 0) (h := 6) (nI s0) so (nI s0) iw ig (nI k) hn hT (by omega) (by omega) (by omega) rfl (by omega) rfl
  rcases hcol with ⟨x0, hlo0, hhi0, hadv0, c0, t0⟩ | ⟨c0, nm, t0⟩
  case inr =>
    have t0 : fX8_takes (nI n) (nI p) (nI s0) iw ig T nums2 0 0 6 = some (0, nI e0, nI s1, pb_bI a0, pb_bI f0, nm) := t0
    have hlp : pb_lp (fun y => fX3_readRow_L11 3 (pb_most 1) (nI n) B (nI k) lc y.1 y.2.1 y.2.2.1 y.2.2.2.1 y.2.2.2.2) pb_FU (0, nI s0, nI p, so, nums) = some (Sum.inr (0, nI s1, nI e0, z0, nums, nI k, lc)) := pb_lp_endF (G := 99999) rfl c0
    refine ⟨s1, e0, z0, false, nI k, lc, nums, 0, nI e0, nI s1, pb_bI a0, pb_bI f0, w, nm, pb_bI a0, pb_bI f0, hs1, he0, ?_, ?_, Or.inl rfl, rfl, fun _ _ => rfl, fun h => absurd h (by decide)⟩
    · rw [hlp, Option.bind_some]
      rfl
    · rw [t0, Option.bind_some]
      rfl
  have t0 : fX8_takes (nI n) (nI p) (nI s0) iw ig T nums2 0 0 6 = some (1, nI e0, nI s1, pb_bI a0, pb_bI f0, (upd nums2 0 (nI x0))) := t0
  obtain ⟨s2, e1, z1, a1, f1, hs2, hpe1, he1, hcol⟩ := fX_number (M := pb_most 1) (nums := (upd nums 0 (nI x0))) (nums2 := (upd nums2 0 (nI x0))) (cc := lc) (n := n) (p := e0) (k := 1) (m := 3) (lo := 0) (h := 1) (nI s1) z0 (nI s1) (pb_bI a0) (pb_bI f0) (nI k) hn hT (by omega) (by omega) (by omega) rfl (by omega) rfl
  rcases hcol with ⟨x1, hlo1, hhi1, hadv1, c1, t1⟩ | ⟨c1, nm, t1⟩
  case inr =>
    have t1 : fX8_takes (nI n) (nI e0) (nI s1) (pb_bI a0) (pb_bI f0) T (upd nums2 0 (nI x0)) 1 0 1 = some (0, nI e1, nI s2, pb_bI a1, pb_bI f1, nm) := t1
    have hlp : pb_lp (fun y => fX3_readRow_L11 3 (pb_most 1) (nI n) B (nI k) lc y.1 y.2.1 y.2.2.1 y.2.2.2.1 y.2.2.2.2) pb_FU (0, nI s0, nI p, so, nums) = some (Sum.inr (0, nI s2, nI e1, z1, (upd nums 0 (nI x0)), nI k, lc)) := pb_lp_goF (G := 99999) rfl c0 (pb_lp_endF (G := 99998) rfl c1)
    refine ⟨s2, e1, z1, false, nI k, lc, (upd nums 0 (nI x0)), 0, nI e1, nI s2, pb_bI a1, pb_bI f1, w, nm, pb_bI a1, pb_bI f1, hs2, he1, ?_, ?_, Or.inl rfl, rfl, fun _ _ => rfl, fun h => absurd h (by decide)⟩
    · rw [hlp, Option.bind_some]
      rfl
    · rw [t0, Option.bind_some]
      dsimp only
      rw [if_neg pb_ne10, t1, Option.bind_some]
      rfl
  have t1 : fX8_takes (nI n) (nI e0) (nI s1) (pb_bI a0) (pb_bI f0) T (upd nums2 0 (nI x0)) 1 0 1 = some (1, nI e1, nI s2, pb_bI a1, pb_bI f1, (upd (upd nums2 0 (nI x0)) 1 (nI x1))) := t1
  obtain ⟨s3, e2, z2, a2, f2, hs3, hpe2, he2, hcol⟩ := fX_number (M := pb_most 1) (nums := (upd (upd nums 0 (nI x0)) 1 (nI x1))) (nums2 := (upd (upd nums2 0 (nI x0)) 1 (nI x1))) (cc := lc) (n := n) (p := e1) (k := 2) (m := 3) (lo := 0) (h := 10) (nI s2) z1 (nI s2) (pb_bI a1) (pb_bI f1) (nI k) hn hT (by omega) (by omega) (by omega) rfl (by omega) rfl
  rcases hcol with ⟨x2, hlo2, hhi2, hadv2, c2, t2⟩ | ⟨c2, nm, t2⟩
  case inr =>
    have t2 : fX8_takes (nI n) (nI e1) (nI s2) (pb_bI a1) (pb_bI f1) T (upd (upd nums2 0 (nI x0)) 1 (nI x1)) 2 0 10 = some (0, nI e2, nI s3, pb_bI a2, pb_bI f2, nm) := t2
    have hlp : pb_lp (fun y => fX3_readRow_L11 3 (pb_most 1) (nI n) B (nI k) lc y.1 y.2.1 y.2.2.1 y.2.2.2.1 y.2.2.2.2) pb_FU (0, nI s0, nI p, so, nums) = some (Sum.inr (0, nI s3, nI e2, z2, (upd (upd nums 0 (nI x0)) 1 (nI x1)), nI k, lc)) := pb_lp_goF (G := 99999) rfl c0 (pb_lp_goF (G := 99998) rfl c1 (pb_lp_endF (G := 99997) rfl c2))
    refine ⟨s3, e2, z2, false, nI k, lc, (upd (upd nums 0 (nI x0)) 1 (nI x1)), 0, nI e2, nI s3, pb_bI a2, pb_bI f2, w, nm, pb_bI a2, pb_bI f2, hs3, he2, ?_, ?_, Or.inl rfl, rfl, fun _ _ => rfl, fun h => absurd h (by decide)⟩
    · rw [hlp, Option.bind_some]
      rfl
    · rw [t0, Option.bind_some]
      dsimp only
      rw [if_neg pb_ne10, t1, Option.bind_some]
      dsimp only
      rw [if_neg pb_ne10, t2, Option.bind_some]
      rfl
  have t2 : fX8_takes (nI n) (nI e1) (nI s2) (pb_bI a1) (pb_bI f1) T (upd (upd nums2 0 (nI x0)) 1 (nI x1)) 2 0 10 = some (1, nI e2, nI s3, pb_bI a2, pb_bI f2, (upd (upd (upd nums2 0 (nI x0)) 1 (nI x1)) 2 (nI x2))) := t2
  have cE : fX3_readRow_L11 3 (pb_most 1) (nI n) B (nI k) lc (nI 3) (nI s3) (nI e2) z2 (upd (upd (upd nums 0 (nI x0)) 1 (nI x1)) 2 (nI x2)) = some (Sum.inr (Sum.inl (nI 3, nI s3, nI e2, z2, (upd (upd (upd nums 0 (nI x0)) 1 (nI x1)) 2 (nI x2))))) := by
    unfold fX3_readRow_L11
    exact if_pos (show Int32.ofNat 3 ≤ nI 3 from Int32.le_refl _)
  have hlp : pb_lp (fun y => fX3_readRow_L11 3 (pb_most 1) (nI n) B (nI k) lc y.1 y.2.1 y.2.2.1 y.2.2.2.1 y.2.2.2.2) pb_FU (0, nI s0, nI p, so, nums) = some (Sum.inl (nI 3, nI s3, nI e2, z2, (upd (upd (upd nums 0 (nI x0)) 1 (nI x1)) 2 (nI x2)))) := pb_lp_goF (G := 99999) rfl c0 (pb_lp_goF (G := 99998) rfl c1 (pb_lp_goF (G := 99997) rfl c2 (pb_lp_endF (G := 99996) rfl cE)))
  obtain ⟨s, e, z, ok, iw2, ig2, hs, he, hpe, hadv, q1, hz, q2⟩ := fX_stop (w := upd (pb_put3 w (1131 + 29 + 3 * k) (nI x0) (nI x1) (nI x2)) (1131 + 1) (nI (k + 1))) (nums := (upd (upd (upd nums2 0 (nI x0)) 1 (nI x1)) 2 (nI x2))) (nI s3) z2 (nI s3) (pb_bI a2) (pb_bI f2) hn hT he2
  have ea : fX6_addThree 3 10 30 (nI k) lc ((upd (upd (upd nums 0 (nI x0)) 1 (nI x1)) 2 (nI x2)) 0) ((upd (upd (upd nums 0 (nI x0)) 1 (nI x1)) 2 (nI x2)) 1) ((upd (upd (upd nums 0 (nI x0)) 1 (nI x1)) 2 (nI x2)) 2) = some (nI (k + 1), pb_put3 lc (3 * k) (nI x0) (nI x1) (nI x2)) := fX6_addThree_eq (M := 10) hlt (by omega) (by omega)
  have em : fX8_adds w 1131 1 29 ((upd (upd (upd nums2 0 (nI x0)) 1 (nI x1)) 2 (nI x2)) 0) ((upd (upd (upd nums2 0 (nI x0)) 1 (nI x1)) 2 (nI x2)) 1) ((upd (upd (upd nums2 0 (nI x0)) 1 (nI x1)) 2 (nI x2)) 2) = some (nI k, upd (pb_put3 w (1131 + 29 + 3 * k) (nI x0) (nI x1) (nI x2)) (1131 + 1) (nI (k + 1))) := fX8_adds_eq (r := 1131) (many := 1) (first := 29) (k := k) hw (by omega) (by omega)
  have hneg : ¬ nI k < 0 := nI_pos (by omega)
  refine ⟨s, e, z, ok, if z = 3 then nI (k + 1) else nI k, if z = 3 then pb_put3 lc (3 * k) (nI x0) (nI x1) (nI x2) else lc, (upd (upd (upd nums 0 (nI x0)) 1 (nI x1)) 2 (nI x2)), 1, nI e2, nI s3, pb_bI a2, pb_bI f2, upd (pb_put3 w (1131 + 29 + 3 * k) (nI x0) (nI x1) (nI x2)) (1131 + 1) (nI (k + 1)), (upd (upd (upd nums2 0 (nI x0)) 1 (nI x1)) 2 (nI x2)), iw2, ig2, hs, he, ?_, ?_, Or.inr rfl, q2, ?_, ?_⟩
  · rw [hlp, Option.bind_some]
    show fX3_readRow_E11 3 3 10 30 (nI n) B (nI k) lc (nI 3) (nI s3) (nI e2) z2 (upd (upd (upd nums 0 (nI x0)) 1 (nI x1)) 2 (nI x2)) = _
    unfold fX3_readRow_E11
    rw [q1, Option.bind_some]
    dsimp only
    by_cases h3 : z = 3
    · rw [if_pos h3, if_pos h3, if_pos h3, if_pos (show Int32.ofNat 3 = 3 from rfl), ea, Option.bind_some, hz.mp h3]
      rfl
    · rw [if_neg h3, if_neg h3, if_neg h3]
      have : ok = false := by
        cases ok with
        | false => rfl
        | true => exact absurd (hz.mpr rfl) h3
      rw [this]
      rfl
  · rw [t0, Option.bind_some]
    dsimp only
    rw [if_neg pb_ne10, t1, Option.bind_some]
    dsimp only
    rw [if_neg pb_ne10, t2, Option.bind_some]
    dsimp only
    rw [if_neg pb_ne10, em, Option.bind_some]
    dsimp only
    rw [if_neg hneg]
  · intro j hj
    show upd (pb_put3 _ _ _ _ _) _ _ j = _
    rw [pk_un (by omega), pb_put3_out (by omega)]
  · intro hok
    have h3 := hz.mpr hok
    have := hadv hok
    exact ⟨by omega, hlt, x0, x1, x2, hlo0, hhi0, hlo1, hhi1, hlo2, hhi2, if_pos h3, if_pos h3, rfl⟩
theorem fX_row_bet {B T nums nums2 lc w : Nat → Int32} {n s0 p k : Nat} (so iw ig : Int32) (hn : n ≤ 150) (hT : ∀ j, j < n → T j = B j) (hs0 : s0 ≤ n) (hp : p ≤ n) (hk : k ≤ 8) (hw : w (1131 + 2) = nI k) : ∃ s e z ok cs cc nu b at1 st1 iw1 ig1 w1 nm1 iw2 ig2, s ≤ n ∧ e ≤ n ∧ fX3_readRow 5 (pb_most 2) 5 8 40 (nI n) (nI s0) (nI p) so B nums (nI k) lc = some (pb_bI ok, nI s, nI e, z, nu, cs, cc) ∧ fX8_takesBet (nI n) (nI p) (nI s0) iw ig w T nums2 = some (b, at1, st1, iw1, ig1, w1, nm1) ∧ (b = 0 ∨ b = 1) ∧ fX8_takesItem_J79 (nI n) T b at1 st1 iw1 ig1 w1 nm1 = some (pb_bI ok, nI e, nI s, iw2, ig2, w1, nm1) ∧ (∀ j, j < 1131 → w1 j = w j) ∧ (ok = true → p < e ∧ k < 8 ∧ ∃ x0 x1 x2 x3 x4 : Nat, 0 ≤ x0 ∧ x0 ≤ 5 ∧ 0 ≤ x1 ∧ x1 ≤ 6 ∧ 0 ≤ x2 ∧ x2 ≤ 6 ∧ 1 ≤ x3 ∧ x3 ≤ 99 ∧ 0 ≤ x4 ∧ x4 ≤ 99 ∧ cs = nI (k + 1) ∧ cc = pb_put5 lc (5 * k) (nI x0) (nI x1) (nI x2) (nI x3) (nI x4) ∧ w1 = upd (pb_put5 w (1131 + 59 + 5 * k) (nI x0) (nI x1) (nI x2) (nI x3) (nI x4)) (1131 + 2) (nI (k + 1))) := by
  have hw8 : w 1133 = nI k := hw
  by_cases h8 : k = 8
  case pos =>
    subst h8
    have eF : fX6_isFull 5 8 (nI 8) = some 1 := fX6_isFull_full (M := 8) (by omega)
    refine ⟨s0, p, so, false, nI 8, lc, nums, 0, nI p, nI s0, iw, ig, w, nums2, iw, ig, hs0, hp, ?_, ?_, Or.inl rfl, rfl, fun _ _ => rfl, fun h => absurd h (by decide)⟩
    · unfold fX3_readRow
      rw [eF, Option.bind_some, if_neg pb_ne10]
      rfl
    · unfold fX8_takesBet
      rw [hw8, if_pos (show nI 8 = 8 from rfl)]
  have hlt : k < 8 := by omega
  have eF : fX6_isFull 5 8 (nI k) = some 0 := fX6_isFull_eq (M := 8) hlt (by omega)
  have hne : ¬ w 1133 = 8 := by
    rw [hw8]
    exact fun e => h8 ((nI_eq (a := k) (b := 8) (by omega) (by decide)).mp e)
  unfold fX3_readRow fX8_takesBet
  rw [eF, Option.bind_some, if_pos rfl, if_neg hne]
  obtain ⟨s1, e0, z0, a0, f0, hs1, hpe0, he0, hcol⟩ := fX_number (M := pb_most 2) (nums := nums) (nums2 := nums2) (cc := lc) (n := n) (p := p) (k := 0) (m := 5) (lo := 0) (h := 5) (nI s0) so (nI s0) iw ig (nI k) hn hT (by omega) (by omega) (by omega) rfl (by omega) rfl
  rcases hcol with ⟨x0, hlo0, hhi0, hadv0, c0, t0⟩ | ⟨c0, nm, t0⟩
  case inr =>
    have t0 : fX8_takes (nI n) (nI p) (nI s0) iw ig T nums2 0 0 5 = some (0, nI e0, nI s1, pb_bI a0, pb_bI f0, nm) := t0
    have hlp : pb_lp (fun y => fX3_readRow_L11 5 (pb_most 2) (nI n) B (nI k) lc y.1 y.2.1 y.2.2.1 y.2.2.2.1 y.2.2.2.2) pb_FU (0, nI s0, nI p, so, nums) = some (Sum.inr (0, nI s1, nI e0, z0, nums, nI k, lc)) := pb_lp_endF (G := 99999) rfl c0
    refine ⟨s1, e0, z0, false, nI k, lc, nums, 0, nI e0, nI s1, pb_bI a0, pb_bI f0, w, nm, pb_bI a0, pb_bI f0, hs1, he0, ?_, ?_, Or.inl rfl, rfl, fun _ _ => rfl, fun h => absurd h (by decide)⟩
    · rw [hlp, Option.bind_some]
      rfl
    · rw [t0, Option.bind_some]
      rfl
  have t0 : fX8_takes (nI n) (nI p) (nI s0) iw ig T nums2 0 0 5 = some (1, nI e0, nI s1, pb_bI a0, pb_bI f0, (upd nums2 0 (nI x0))) := t0
  obtain ⟨s2, e1, z1, a1, f1, hs2, hpe1, he1, hcol⟩ := fX_number (M := pb_most 2) (nums := (upd nums 0 (nI x0))) (nums2 := (upd nums2 0 (nI x0))) (cc := lc) (n := n) (p := e0) (k := 1) (m := 5) (lo := 0) (h := 6) (nI s1) z0 (nI s1) (pb_bI a0) (pb_bI f0) (nI k) hn hT (by omega) (by omega) (by omega) rfl (by omega) rfl
  rcases hcol with ⟨x1, hlo1, hhi1, hadv1, c1, t1⟩ | ⟨c1, nm, t1⟩
  case inr =>
    have t1 : fX8_takes (nI n) (nI e0) (nI s1) (pb_bI a0) (pb_bI f0) T (upd nums2 0 (nI x0)) 1 0 6 = some (0, nI e1, nI s2, pb_bI a1, pb_bI f1, nm) := t1
    have hlp : pb_lp (fun y => fX3_readRow_L11 5 (pb_most 2) (nI n) B (nI k) lc y.1 y.2.1 y.2.2.1 y.2.2.2.1 y.2.2.2.2) pb_FU (0, nI s0, nI p, so, nums) = some (Sum.inr (0, nI s2, nI e1, z1, (upd nums 0 (nI x0)), nI k, lc)) := pb_lp_goF (G := 99999) rfl c0 (pb_lp_endF (G := 99998) rfl c1)
    refine ⟨s2, e1, z1, false, nI k, lc, (upd nums 0 (nI x0)), 0, nI e1, nI s2, pb_bI a1, pb_bI f1, w, nm, pb_bI a1, pb_bI f1, hs2, he1, ?_, ?_, Or.inl rfl, rfl, fun _ _ => rfl, fun h => absurd h (by decide)⟩
    · rw [hlp, Option.bind_some]
      rfl
    · rw [t0, Option.bind_some]
      dsimp only
      rw [if_neg pb_ne10, t1, Option.bind_some]
      rfl
  have t1 : fX8_takes (nI n) (nI e0) (nI s1) (pb_bI a0) (pb_bI f0) T (upd nums2 0 (nI x0)) 1 0 6 = some (1, nI e1, nI s2, pb_bI a1, pb_bI f1, (upd (upd nums2 0 (nI x0)) 1 (nI x1))) := t1
  obtain ⟨s3, e2, z2, a2, f2, hs3, hpe2, he2, hcol⟩ := fX_number (M := pb_most 2) (nums := (upd (upd nums 0 (nI x0)) 1 (nI x1))) (nums2 := (upd (upd nums2 0 (nI x0)) 1 (nI x1))) (cc := lc) (n := n) (p := e1) (k := 2) (m := 5) (lo := 0) (h := 6) (nI s2) z1 (nI s2) (pb_bI a1) (pb_bI f1) (nI k) hn hT (by omega) (by omega) (by omega) rfl (by omega) rfl
  rcases hcol with ⟨x2, hlo2, hhi2, hadv2, c2, t2⟩ | ⟨c2, nm, t2⟩
  case inr =>
    have t2 : fX8_takes (nI n) (nI e1) (nI s2) (pb_bI a1) (pb_bI f1) T (upd (upd nums2 0 (nI x0)) 1 (nI x1)) 2 0 6 = some (0, nI e2, nI s3, pb_bI a2, pb_bI f2, nm) := t2
    have hlp : pb_lp (fun y => fX3_readRow_L11 5 (pb_most 2) (nI n) B (nI k) lc y.1 y.2.1 y.2.2.1 y.2.2.2.1 y.2.2.2.2) pb_FU (0, nI s0, nI p, so, nums) = some (Sum.inr (0, nI s3, nI e2, z2, (upd (upd nums 0 (nI x0)) 1 (nI x1)), nI k, lc)) := pb_lp_goF (G := 99999) rfl c0 (pb_lp_goF (G := 99998) rfl c1 (pb_lp_endF (G := 99997) rfl c2))
    refine ⟨s3, e2, z2, false, nI k, lc, (upd (upd nums 0 (nI x0)) 1 (nI x1)), 0, nI e2, nI s3, pb_bI a2, pb_bI f2, w, nm, pb_bI a2, pb_bI f2, hs3, he2, ?_, ?_, Or.inl rfl, rfl, fun _ _ => rfl, fun h => absurd h (by decide)⟩
    · rw [hlp, Option.bind_some]
      rfl
    · rw [t0, Option.bind_some]
      dsimp only
      rw [if_neg pb_ne10, t1, Option.bind_some]
      dsimp only
      rw [if_neg pb_ne10, t2, Option.bind_some]
      rfl
  have t2 : fX8_takes (nI n) (nI e1) (nI s2) (pb_bI a1) (pb_bI f1) T (upd (upd nums2 0 (nI x0)) 1 (nI x1)) 2 0 6 = some (1, nI e2, nI s3, pb_bI a2, pb_bI f2, (upd (upd (upd nums2 0 (nI x0)) 1 (nI x1)) 2 (nI x2))) := t2
  obtain ⟨s4, e3, z3, a3, f3, hs4, hpe3, he3, hcol⟩ := fX_number (M := pb_most 2) (nums := (upd (upd (upd nums 0 (nI x0)) 1 (nI x1)) 2 (nI x2))) (nums2 := (upd (upd (upd nums2 0 (nI x0)) 1 (nI x1)) 2 (nI x2))) (cc := lc) (n := n) (p := e2) (k := 3) (m := 5) (lo := 1) (h := 99) (nI s3) z2 (nI s3) (pb_bI a2) (pb_bI f2) (nI k) hn hT (by omega) (by omega) (by omega) rfl (by omega) rfl
  rcases hcol with ⟨x3, hlo3, hhi3, hadv3, c3, t3⟩ | ⟨c3, nm, t3⟩
  case inr =>
    have t3 : fX8_takes (nI n) (nI e2) (nI s3) (pb_bI a2) (pb_bI f2) T (upd (upd (upd nums2 0 (nI x0)) 1 (nI x1)) 2 (nI x2)) 3 1 99 = some (0, nI e3, nI s4, pb_bI a3, pb_bI f3, nm) := t3
    have hlp : pb_lp (fun y => fX3_readRow_L11 5 (pb_most 2) (nI n) B (nI k) lc y.1 y.2.1 y.2.2.1 y.2.2.2.1 y.2.2.2.2) pb_FU (0, nI s0, nI p, so, nums) = some (Sum.inr (0, nI s4, nI e3, z3, (upd (upd (upd nums 0 (nI x0)) 1 (nI x1)) 2 (nI x2)), nI k, lc)) := pb_lp_goF (G := 99999) rfl c0 (pb_lp_goF (G := 99998) rfl c1 (pb_lp_goF (G := 99997) rfl c2 (pb_lp_endF (G := 99996) rfl c3)))
    refine ⟨s4, e3, z3, false, nI k, lc, (upd (upd (upd nums 0 (nI x0)) 1 (nI x1)) 2 (nI x2)), 0, nI e3, nI s4, pb_bI a3, pb_bI f3, w, nm, pb_bI a3, pb_bI f3, hs4, he3, ?_, ?_, Or.inl rfl, rfl, fun _ _ => rfl, fun h => absurd h (by decide)⟩
    · rw [hlp, Option.bind_some]
      rfl
    · rw [t0, Option.bind_some]
      dsimp only
      rw [if_neg pb_ne10, t1, Option.bind_some]
      dsimp only
      rw [if_neg pb_ne10, t2, Option.bind_some]
      dsimp only
      rw [if_neg pb_ne10, t3, Option.bind_some]
      rfl
  have t3 : fX8_takes (nI n) (nI e2) (nI s3) (pb_bI a2) (pb_bI f2) T (upd (upd (upd nums2 0 (nI x0)) 1 (nI x1)) 2 (nI x2)) 3 1 99 = some (1, nI e3, nI s4, pb_bI a3, pb_bI f3, (upd (upd (upd (upd nums2 0 (nI x0)) 1 (nI x1)) 2 (nI x2)) 3 (nI x3))) := t3
  obtain ⟨s5, e4, z4, a4, f4, hs5, hpe4, he4, hcol⟩ := fX_number (M := pb_most 2) (nums := (upd (upd (upd (upd nums 0 (nI x0)) 1 (nI x1)) 2 (nI x2)) 3 (nI x3))) (nums2 := (upd (upd (upd (upd nums2 0 (nI x0)) 1 (nI x1)) 2 (nI x2)) 3 (nI x3))) (cc := lc) (n := n) (p := e3) (k := 4) (m := 5) (lo := 0) (h := 99) (nI s4) z3 (nI s4) (pb_bI a3) (pb_bI f3) (nI k) hn hT (by omega) (by omega) (by omega) rfl (by omega) rfl
  rcases hcol with ⟨x4, hlo4, hhi4, hadv4, c4, t4⟩ | ⟨c4, nm, t4⟩
  case inr =>
    have t4 : fX8_takes (nI n) (nI e3) (nI s4) (pb_bI a3) (pb_bI f3) T (upd (upd (upd (upd nums2 0 (nI x0)) 1 (nI x1)) 2 (nI x2)) 3 (nI x3)) 4 0 99 = some (0, nI e4, nI s5, pb_bI a4, pb_bI f4, nm) := t4
    have hlp : pb_lp (fun y => fX3_readRow_L11 5 (pb_most 2) (nI n) B (nI k) lc y.1 y.2.1 y.2.2.1 y.2.2.2.1 y.2.2.2.2) pb_FU (0, nI s0, nI p, so, nums) = some (Sum.inr (0, nI s5, nI e4, z4, (upd (upd (upd (upd nums 0 (nI x0)) 1 (nI x1)) 2 (nI x2)) 3 (nI x3)), nI k, lc)) := pb_lp_goF (G := 99999) rfl c0 (pb_lp_goF (G := 99998) rfl c1 (pb_lp_goF (G := 99997) rfl c2 (pb_lp_goF (G := 99996) rfl c3 (pb_lp_endF (G := 99995) rfl c4))))
    refine ⟨s5, e4, z4, false, nI k, lc, (upd (upd (upd (upd nums 0 (nI x0)) 1 (nI x1)) 2 (nI x2)) 3 (nI x3)), 0, nI e4, nI s5, pb_bI a4, pb_bI f4, w, nm, pb_bI a4, pb_bI f4, hs5, he4, ?_, ?_, Or.inl rfl, rfl, fun _ _ => rfl, fun h => absurd h (by decide)⟩
    · rw [hlp, Option.bind_some]
      rfl
    · rw [t0, Option.bind_some]
      dsimp only
      rw [if_neg pb_ne10, t1, Option.bind_some]
      dsimp only
      rw [if_neg pb_ne10, t2, Option.bind_some]
      dsimp only
      rw [if_neg pb_ne10, t3, Option.bind_some]
      dsimp only
      rw [if_neg pb_ne10, t4, Option.bind_some]
      rfl
  have t4 : fX8_takes (nI n) (nI e3) (nI s4) (pb_bI a3) (pb_bI f3) T (upd (upd (upd (upd nums2 0 (nI x0)) 1 (nI x1)) 2 (nI x2)) 3 (nI x3)) 4 0 99 = some (1, nI e4, nI s5, pb_bI a4, pb_bI f4, (upd (upd (upd (upd (upd nums2 0 (nI x0)) 1 (nI x1)) 2 (nI x2)) 3 (nI x3)) 4 (nI x4))) := t4
  have cE : fX3_readRow_L11 5 (pb_most 2) (nI n) B (nI k) lc (nI 5) (nI s5) (nI e4) z4 (upd (upd (upd (upd (upd nums 0 (nI x0)) 1 (nI x1)) 2 (nI x2)) 3 (nI x3)) 4 (nI x4)) = some (Sum.inr (Sum.inl (nI 5, nI s5, nI e4, z4, (upd (upd (upd (upd (upd nums 0 (nI x0)) 1 (nI x1)) 2 (nI x2)) 3 (nI x3)) 4 (nI x4))))) := by
    unfold fX3_readRow_L11
    exact if_pos (show Int32.ofNat 5 ≤ nI 5 from Int32.le_refl _)
  have hlp : pb_lp (fun y => fX3_readRow_L11 5 (pb_most 2) (nI n) B (nI k) lc y.1 y.2.1 y.2.2.1 y.2.2.2.1 y.2.2.2.2) pb_FU (0, nI s0, nI p, so, nums) = some (Sum.inl (nI 5, nI s5, nI e4, z4, (upd (upd (upd (upd (upd nums 0 (nI x0)) 1 (nI x1)) 2 (nI x2)) 3 (nI x3)) 4 (nI x4)))) := pb_lp_goF (G := 99999) rfl c0 (pb_lp_goF (G := 99998) rfl c1 (pb_lp_goF (G := 99997) rfl c2 (pb_lp_goF (G := 99996) rfl c3 (pb_lp_goF (G := 99995) rfl c4 (pb_lp_endF (G := 99994) rfl cE)))))
  obtain ⟨s, e, z, ok, iw2, ig2, hs, he, hpe, hadv, q1, hz, q2⟩ := fX_stop (w := upd (pb_put5 w (1131 + 59 + 5 * k) (nI x0) (nI x1) (nI x2) (nI x3) (nI x4)) (1131 + 2) (nI (k + 1))) (nums := (upd (upd (upd (upd (upd nums2 0 (nI x0)) 1 (nI x1)) 2 (nI x2)) 3 (nI x3)) 4 (nI x4))) (nI s5) z4 (nI s5) (pb_bI a4) (pb_bI f4) hn hT he4
  have ea : fX6_addFive 5 8 40 (nI k) lc ((upd (upd (upd (upd (upd nums 0 (nI x0)) 1 (nI x1)) 2 (nI x2)) 3 (nI x3)) 4 (nI x4)) 0) ((upd (upd (upd (upd (upd nums 0 (nI x0)) 1 (nI x1)) 2 (nI x2)) 3 (nI x3)) 4 (nI x4)) 1) ((upd (upd (upd (upd (upd nums 0 (nI x0)) 1 (nI x1)) 2 (nI x2)) 3 (nI x3)) 4 (nI x4)) 2) ((upd (upd (upd (upd (upd nums 0 (nI x0)) 1 (nI x1)) 2 (nI x2)) 3 (nI x3)) 4 (nI x4)) 3) ((upd (upd (upd (upd (upd nums 0 (nI x0)) 1 (nI x1)) 2 (nI x2)) 3 (nI x3)) 4 (nI x4)) 4) = some (nI (k + 1), pb_put5 lc (5 * k) (nI x0) (nI x1) (nI x2) (nI x3) (nI x4)) := fX6_addFive_eq (M := 8) hlt (by omega) (by omega)
  have em : fX8_adds5 w 1131 2 59 ((upd (upd (upd (upd (upd nums2 0 (nI x0)) 1 (nI x1)) 2 (nI x2)) 3 (nI x3)) 4 (nI x4)) 0) ((upd (upd (upd (upd (upd nums2 0 (nI x0)) 1 (nI x1)) 2 (nI x2)) 3 (nI x3)) 4 (nI x4)) 1) ((upd (upd (upd (upd (upd nums2 0 (nI x0)) 1 (nI x1)) 2 (nI x2)) 3 (nI x3)) 4 (nI x4)) 2) ((upd (upd (upd (upd (upd nums2 0 (nI x0)) 1 (nI x1)) 2 (nI x2)) 3 (nI x3)) 4 (nI x4)) 3) ((upd (upd (upd (upd (upd nums2 0 (nI x0)) 1 (nI x1)) 2 (nI x2)) 3 (nI x3)) 4 (nI x4)) 4) = some (nI k, upd (pb_put5 w (1131 + 59 + 5 * k) (nI x0) (nI x1) (nI x2) (nI x3) (nI x4)) (1131 + 2) (nI (k + 1))) := fX8_adds5_eq (r := 1131) (many := 2) (first := 59) (k := k) hw (by omega) (by omega)
  have hneg : ¬ nI k < 0 := nI_pos (by omega)
  refine ⟨s, e, z, ok, if z = 3 then nI (k + 1) else nI k, if z = 3 then pb_put5 lc (5 * k) (nI x0) (nI x1) (nI x2) (nI x3) (nI x4) else lc, (upd (upd (upd (upd (upd nums 0 (nI x0)) 1 (nI x1)) 2 (nI x2)) 3 (nI x3)) 4 (nI x4)), 1, nI e4, nI s5, pb_bI a4, pb_bI f4, upd (pb_put5 w (1131 + 59 + 5 * k) (nI x0) (nI x1) (nI x2) (nI x3) (nI x4)) (1131 + 2) (nI (k + 1)), (upd (upd (upd (upd (upd nums2 0 (nI x0)) 1 (nI x1)) 2 (nI x2)) 3 (nI x3)) 4 (nI x4)), iw2, ig2, hs, he, ?_, ?_, Or.inr rfl, q2, ?_, ?_⟩
  · rw [hlp, Option.bind_some]
    show fX3_readRow_E11 5 5 8 40 (nI n) B (nI k) lc (nI 5) (nI s5) (nI e4) z4 (upd (upd (upd (upd (upd nums 0 (nI x0)) 1 (nI x1)) 2 (nI x2)) 3 (nI x3)) 4 (nI x4)) = _
    unfold fX3_readRow_E11
    rw [q1, Option.bind_some]
    dsimp only
    by_cases h3 : z = 3
    · rw [if_pos h3, if_pos h3, if_pos h3, if_neg (show ¬ Int32.ofNat 5 = 3 by decide), ea, Option.bind_some, hz.mp h3]
      rfl
    · rw [if_neg h3, if_neg h3, if_neg h3]
      have : ok = false := by
        cases ok with
        | false => rfl
        | true => exact absurd (hz.mpr rfl) h3
      rw [this]
      rfl
  · rw [t0, Option.bind_some]
    dsimp only
    rw [if_neg pb_ne10, t1, Option.bind_some]
    dsimp only
    rw [if_neg pb_ne10, t2, Option.bind_some]
    dsimp only
    rw [if_neg pb_ne10, t3, Option.bind_some]
    dsimp only
    rw [if_neg pb_ne10, t4, Option.bind_some]
    dsimp only
    rw [if_neg pb_ne10, em, Option.bind_some]
    dsimp only
    rw [if_neg hneg]
  · intro j hj
    show upd (pb_put5 _ _ _ _ _ _ _) _ _ j = _
    rw [pk_un (by omega), pb_put5_out (by omega)]
  · intro hok
    have h3 := hz.mpr hok
    have := hadv hok
    exact ⟨by omega, hlt, x0, x1, x2, x3, x4, hlo0, hhi0, hlo1, hhi1, hlo2, hhi2, hlo3, hhi3, hlo4, hhi4, if_pos h3, if_pos h3, rfl⟩
