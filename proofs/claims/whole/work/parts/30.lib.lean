/-! ===== loops and numbers, for the pure part ===== -/
theorem pb_lp_iter {σ ρ : Type} {body : σ → Option (σ ⊕ ρ)} (S : Nat → σ) (n : Nat) (r : ρ) (hs : ∀ k, k < n → body (S k) = some (Sum.inl (S (k + 1)))) (he : body (S n) = some (Sum.inr r)) : ∀ f, n < f → pb_lp body f (S 0) = some r := by
  have key : ∀ (m i f : Nat), i + m = n → m < f → pb_lp body f (S i) = some r := by
    intro m
    induction m with
    | zero =>
      intro i f hi hf
      obtain ⟨g, rfl⟩ : ∃ g, f = g + 1 := ⟨f - 1, by omega⟩
      have : i = n := by omega
      subst this
      rw [pb_lp, he]
      rfl
    | succ m ih =>
      intro i f hi hf
      obtain ⟨g, rfl⟩ : ∃ g, f = g + 1 := ⟨f - 1, by omega⟩
      rw [pb_lp, hs i (by omega)]
      exact ih (i + 1) g (by omega) (by omega)
  intro f hf
  exact key n 0 f (by omega) hf
/-- a loop with an invariant and a measure that falls -/
theorem pb_lp_inv {σ ρ : Type} {body : σ → Option (σ ⊕ ρ)} (I : σ → Prop) (μ : σ → Nat) (P : ρ → Prop) (h : ∀ x, I x → (∃ y, body x = some (Sum.inl y) ∧ I y ∧ μ y < μ x) ∨ ∃ r, body x = some (Sum.inr r) ∧ P r) : ∀ (f : Nat) (x : σ), I x → μ x < f → ∃ r, pb_lp body f x = some r ∧ P r := by
  intro f
  induction f with
  | zero => intro x _ hf; omega
  | succ f ih =>
    intro x hI hf
    rcases h x hI with ⟨y, hb, hy, hm⟩ | ⟨r, hb, hr⟩
    · obtain ⟨r, h1, h2⟩ := ih y hy (by omega)
      refine ⟨r, ?_, h2⟩
      rw [pb_lp, hb]
      exact h1
    · refine ⟨r, ?_, hr⟩
      rw [pb_lp, hb]
      rfl
theorem pb_FU_gt {n : Nat} (h : n < 100000) : n < pb_FU := h
theorem pb_li (n : Nat) : (@OfNat.ofNat Int32 n _) = nI (@OfNat.ofNat Nat n (instOfNatNat n)) := rfl
theorem pb_lil (n : Nat) : (@OfNat.ofNat Int64 n _) = lN (@OfNat.ofNat Nat n (instOfNatNat n)) := rfl
theorem pb_ok_nI {a n : Nat} (h : a < 2 ^ 31) : pb_ok (nI a) n = decide (a < n) := by
  unfold pb_ok
  congr 1
  rw [nI_clamp h]
  have := nI_pos h
  simp [this]
theorem pb_okT {a n : Nat} (h : a < n) (hn : n < 2 ^ 31) : pb_ok (nI a) n = true := by
  rw [pb_ok_nI (by omega)]
  exact decide_eq_true h
/-- zeros laid from b on -/
def pb_zero (w : Nat → Int32) (b n : Nat) : Nat → Int32 := fun j => if b ≤ j ∧ j < b + n then 0 else w j
theorem fX8_begins_eq (w : Nat → Int32) (b : Nat) (hb : b + 377 ≤ 1508) : fX8_begins w (nI b) = some (pb_zero w b 377) := by
  unfold fX8_begins
  rw [show ((0 : Int32), w) = ((fun k => (nI k, pb_zero w b k)) 0 : Int32 × (Nat → Int32)) from by
    refine Prod.ext rfl ?_
    funext j
    simp only [pb_zero]
    rw [if_neg (by omega)]]
  rw [pb_lp_iter (fun k => (nI k, pb_zero w b k)) 377 (nI 377, pb_zero w b 377) ?_ ?_ pb_FU (pb_FU_gt (by omega))]
  · rfl
  · intro k hk
    simp only [fX8_begins_L2]
    have h0 : ¬ (377 : Int32) ≤ nI k := nI_ge (b := 377) hk (by decide)
    rw [if_neg h0, nI_add, if_pos (pb_okT (by omega) (by omega)), nI_clamp (by omega)]
    simp only [Option.bind_some]
    rw [nI_1]
    have e : upd (pb_zero w b k) (b + k) 0 = pb_zero w b (k + 1) := by
      funext j
      simp only [upd, pb_zero]
      by_cases h : j = b + k
      · rw [if_pos h, if_pos (by omega)]
      · rw [if_neg h]
        by_cases h2 : b ≤ j ∧ j < b + k
        · rw [if_pos h2, if_pos (by omega)]
        · rw [if_neg h2, if_neg (by omega)]
    rw [e]
  · simp only [fX8_begins_L2]
    rw [if_pos (show (377 : Int32) ≤ nI 377 from nI_le (Nat.le_refl 377) (by omega))]
theorem pb_begins0 : ∃ out, fX8_begins (fun _ => 0) 0 = some out := ⟨_, fX8_begins_eq (fun _ => 0) 0 (by omega)⟩
theorem pb_begins0_eq {out : Nat → Int32} (h : fX8_begins (fun _ => 0) 0 = some out) : out = fun _ => 0 := by
  have h2 := fX8_begins_eq (fun _ => 0) 0 (by omega)
  rw [show nI 0 = 0 from rfl, h] at h2
  cases h2
  funext j
  simp [pb_zero]
