/-! ===== a text, token by token ===== -/
def pb_Run (P : Nat → Bool) (n s e : Nat) : Prop := s ≤ e ∧ e ≤ n ∧ (∀ j, s ≤ j → j < e → P j = true) ∧ (e = n ∨ P e = false)
theorem pb_Run_uniq {P : Nat → Bool} {n s e e' : Nat} (h : pb_Run P n s e) (h' : pb_Run P n s e') : e = e' := by
  obtain ⟨a1, a2, a3, a4⟩ := h
  obtain ⟨b1, b2, b3, b4⟩ := h'
  rcases Nat.lt_trichotomy e e' with hl | hl | hl
  · rcases a4 with a4 | a4
    · omega
    · rw [b3 e a1 hl] at a4; exact absurd a4 (by decide)
  · exact hl
  · rcases b4 with b4 | b4
    · omega
    · rw [a3 e' b1 hl] at b4; exact absurd b4 (by decide)
theorem pb_Run_head {P : Nat → Bool} {n s e : Nat} (hP : P s = true) (h : pb_Run P n (s + 1) e) : pb_Run P n s e := by
  obtain ⟨a1, a2, a3, a4⟩ := h
  refine ⟨by omega, a2, fun j h1 h2 => ?_, a4⟩
  by_cases e : j = s
  · subst e; exact hP
  · exact a3 j (by omega) h2
theorem pb_scan {σ ρ : Type} {body : σ → Option (σ ⊕ ρ)} (S : Nat → σ) (R : Nat → ρ) {P : Nat → Bool} {n : Nat} (hn : n < 1000) (hb : ∀ k, k ≤ n → body (S k) = if (decide (k < n) && P k) = true then some (Sum.inl (S (k + 1))) else some (Sum.inr (R k))) : ∀ p, p ≤ n → ∃ e, pb_lp body pb_FU (S p) = some (R e) ∧ pb_Run P n p e := by
  have key : ∀ m p F, n - p = m → p ≤ n → m < F → ∃ e, pb_lp body F (S p) = some (R e) ∧ pb_Run P n p e := by
    intro m
    induction m with
    | zero =>
      intro p F hm hp hF
      obtain ⟨G, rfl⟩ : ∃ G, F = G + 1 := ⟨F - 1, by omega⟩
      have : p = n := by omega
      subst this
      refine ⟨p, ?_, Nat.le_refl _, Nat.le_refl _, fun j h1 h2 => absurd h2 (by omega), Or.inl rfl⟩
      rw [pb_lp, hb p (Nat.le_refl _), decide_eq_false (by omega)]
      rfl
    | succ m ih =>
      intro p F hm hp hF
      obtain ⟨G, rfl⟩ : ∃ G, F = G + 1 := ⟨F - 1, by omega⟩
      have hlt : p < n := by omega
      cases hP : P p with
      | true =>
        obtain ⟨e, e1, e2⟩ := ih (p + 1) G (by omega) (by omega) (by omega)
        refine ⟨e, ?_, pb_Run_head hP e2⟩
        rw [pb_lp, hb p hp, decide_eq_true hlt, hP]
        exact e1
      | false =>
        refine ⟨p, ?_, Nat.le_refl _, hp, fun j h1 h2 => absurd h2 (by omega), Or.inr hP⟩
        rw [pb_lp, hb p hp, hP, Bool.and_false]
        rfl
  intro p hp
  exact key (n - p) p pb_FU rfl hp (Nat.lt_of_le_of_lt (Nat.sub_le _ _) (pb_FU_gt (by omega)))
def pb_by (B : Nat → Int32) (n k : Nat) : Int32 := if k < n then B k else -1
theorem fX8_byteAt_eq {B T : Nat → Int32} {n k : Nat} (hn : n ≤ 150) (hk : k < 1000) (hT : ∀ j, j < n → T j = B j) : fX8_byteAt (nI n) T (nI k) = some (pb_by B n k) := by
  unfold fX8_byteAt pb_by
  by_cases h : k < n
  · rw [if_neg (nI_ge h (by omega)), if_pos (pb_okT (by omega) (by omega)), nI_clamp (by omega), hT k h, if_pos h]
  · rw [if_pos (nI_le (by omega) (by omega)), if_neg h]
theorem fX3_isLetter_eq (x : Int32) : fX3_isLetter x = some (pb_bI (pb_w x 97 122)) := fX7_isWithin_eq x 97 122
theorem fX3_isFigure_eq (x : Int32) : fX3_isFigure x = some (pb_bI (pb_w x 48 57)) := fX7_isWithin_eq x 48 57
theorem fX8_inL (x : Int32) : fX8_in x.toInt64 97 122 = some (pb_bI (pb_w x 97 122)) := fX8_in_eq' x 97 122 (by decide) (by decide)
theorem fX8_inF (x : Int32) : fX8_in x.toInt64 48 57 = some (pb_bI (pb_w x 48 57)) := fX8_in_eq' x 48 57 (by decide) (by decide)
theorem pb_LF {x : Int32} (h : pb_w x 97 122 = true) : pb_w x 48 57 = false := by
  have h1 : (97 : Int32) ≤ x ∧ x ≤ 122 := of_decide_eq_true h
  refine decide_eq_false (fun h2 => ?_)
  have h3 := Int32.le_trans h1.1 h2.2
  exact absurd h3 (by decide)
theorem fX3_blank {B : Nat → Int32} {n : Nat} (hn : n ≤ 150) : ∀ p, p ≤ n → ∃ e, pb_lp (fun y => fX3_takeToken_L13 (nI n) B y.1 y.2) pb_FU (nI p, nI p) = some (nI e, nI e) ∧ pb_Run (fun j => decide (B j = 32)) n p e := by
  refine pb_scan (body := fun y => fX3_takeToken_L13 (nI n) B y.1 y.2) (fun k => (nI k, nI k)) (fun k => (nI k, nI k)) (by omega) (fun k hk => ?_)
  simp only [fX3_takeToken_L13]
  by_cases h : k < n
  · rw [if_neg (nI_ge h (by omega)), if_pos (pb_okT (by omega) (by omega)), nI_clamp (by omega), Option.bind_some, nI_1, decide_eq_true h]
    by_cases h2 : B k = 32
    · rw [if_pos h2, decide_eq_true h2]; rfl
    · rw [if_neg h2, decide_eq_false h2]; rfl
  · rw [if_pos (nI_le (by omega) (by omega)), decide_eq_false h]; rfl
theorem fX8_blank {B T : Nat → Int32} {n : Nat} (hn : n ≤ 150) (hT : ∀ j, j < n → T j = B j) : ∀ p, p ≤ n → ∃ e, pb_lp (fun y => fX8_token_L0 (nI n) T y) pb_FU (nI p) = some (nI e) ∧ pb_Run (fun j => decide (B j = 32)) n p e := by
  refine pb_scan (body := fun y => fX8_token_L0 (nI n) T y) (fun k => nI k) (fun k => nI k) (by omega) (fun k hk => ?_)
  simp only [fX8_token_L0]
  rw [fX8_byteAt_eq hn (by omega) hT, Option.bind_some, Option.bind_some, nI_1]
  unfold pb_by
  by_cases h : k < n
  · rw [if_pos h, decide_eq_true h]
    by_cases h2 : B k = 32
    · rw [if_pos h2, decide_eq_true h2]; rfl
    · rw [if_neg h2, decide_eq_false h2]; rfl
  · rw [if_neg h, if_neg (by decide), decide_eq_false h]; rfl
theorem fX3_run1 {B : Nat → Int32} {n : Nat} (hn : n ≤ 150) : ∀ p, p ≤ n → ∃ e, fX3_endOfRun (nI n) (nI p) B 1 = some (nI e) ∧ pb_Run (fun j => pb_w (B j) 97 122) n p e := by
  intro p hp
  obtain ⟨e, e1, e2⟩ := pb_scan (body := fun y => fX3_endOfRun_L5 (nI n) B 1 y) (fun k => nI k) (fun k => nI k) (P := fun j => pb_w (B j) 97 122) (n := n) (by omega) (fun k hk => by
    simp only [fX3_endOfRun_L5]
    by_cases h : k < n
    · rw [if_neg (nI_ge h (by omega)), if_pos True.intro, if_pos (pb_okT (by omega) (by omega)), nI_clamp (by omega), fX3_isLetter_eq, Option.bind_some, nI_1, decide_eq_true h]
      cases pb_w (B k) 97 122 <;> rfl
    · rw [if_pos (nI_le (by omega) (by omega)), decide_eq_false h]; rfl) p hp
  refine ⟨e, ?_, e2⟩
  unfold fX3_endOfRun
  rw [e1]
  rfl
theorem fX3_run2 {B : Nat → Int32} {n : Nat} (hn : n ≤ 150) : ∀ p, p ≤ n → ∃ e, fX3_endOfRun (nI n) (nI p) B 2 = some (nI e) ∧ pb_Run (fun j => pb_w (B j) 48 57) n p e := by
  intro p hp
  obtain ⟨e, e1, e2⟩ := pb_scan (body := fun y => fX3_endOfRun_L5 (nI n) B 2 y) (fun k => nI k) (fun k => nI k) (P := fun j => pb_w (B j) 48 57) (n := n) (by omega) (fun k hk => by
    simp only [fX3_endOfRun_L5]
    by_cases h : k < n
    · rw [if_neg (nI_ge h (by omega)), if_neg (show ¬ (2 : Int32) = 1 by decide), if_pos (pb_okT (by omega) (by omega)), nI_clamp (by omega), fX3_isFigure_eq, Option.bind_some, nI_1, decide_eq_true h]
      cases pb_w (B k) 48 57 <;> rfl
    · rw [if_pos (nI_le (by omega) (by omega)), decide_eq_false h]; rfl) p hp
  refine ⟨e, ?_, e2⟩
  unfold fX3_endOfRun
  rw [e1]
  rfl
theorem fX8_run {B T : Nat → Int32} {n : Nat} (w f : Bool) (hn : n ≤ 150) (hT : ∀ j, j < n → T j = B j) : ∀ p, p ≤ n → ∃ e, pb_lp (fun y => fX8_token_L103 (nI n) T (pb_bI w) (pb_bI f) y) pb_FU (nI p) = some (nI e) ∧ pb_Run (fun j => (w && pb_w (B j) 97 122) || (f && pb_w (B j) 48 57)) n p e := by
  refine pb_scan (body := fun y => fX8_token_L103 (nI n) T (pb_bI w) (pb_bI f) y) (fun k => nI k) (fun k => nI k) (by omega) (fun k hk => ?_)
  have hx : (decide (k < n) && ((w && pb_w (B k) 97 122) || (f && pb_w (B k) 48 57))) = ((w && pb_w (pb_by B n k) 97 122) || (f && pb_w (pb_by B n k) 48 57)) := by
    unfold pb_by
    by_cases h : k < n
    · rw [decide_eq_true h, if_pos h]; rfl
    · rw [decide_eq_false h, if_neg h, show pb_w (-1) 97 122 = false by decide, show pb_w (-1) 48 57 = false by decide]
      cases w <;> cases f <;> rfl
  simp only [fX8_token_L103, fX8_token_J159]
  rw [hx, fX8_byteAt_eq hn (by omega) hT]
  simp only [Option.bind_some, fX8_inL, fX8_inF, nI_1]
  generalize pb_w (pb_by B n k) 97 122 = a
  generalize pb_w (pb_by B n k) 48 57 = b
  cases w <;> cases f <;> cases a <;> cases b <;> rfl
/-- a token from s to e: a word, figures, a class's sort -/
def pb_tk (B : Nat → Int32) (n s e : Nat) (w f : Bool) (z : Int32) : Prop := (s = n ∧ e = n ∧ w = false ∧ f = false ∧ z = 0) ∨ (s < n ∧ s < e ∧ w = true ∧ f = false ∧ z = 1 ∧ pb_w (B s) 97 122 = true) ∨ (s < n ∧ s < e ∧ w = false ∧ f = true ∧ z = (if e - s ≤ 2 then 2 else 4) ∧ ∀ j, s ≤ j → j < e → pb_w (B j) 48 57 = true) ∨ (s < n ∧ e = s + 1 ∧ w = false ∧ f = false ∧ z = if B s = 59 then 3 else 4)
theorem pb_tk_stop {B : Nat → Int32} {n s e : Nat} {w f : Bool} {z : Int32} (h : pb_tk B n s e w f z) : z = 3 ↔ pb_by B n s = 59 := by
  unfold pb_by
  rcases h with ⟨h1, _, _, _, rfl⟩ | ⟨h1, _, _, _, rfl, h2⟩ | ⟨h1, h3, _, _, rfl, h2⟩ | ⟨h1, _, _, _, rfl⟩
  · rw [if_neg (by omega)]; exact ⟨fun h => absurd h (by decide), fun h => absurd h (by decide)⟩
  · rw [if_pos h1]
    refine ⟨fun h => absurd h (by decide), fun h => ?_⟩
    rw [h] at h2; exact absurd h2 (by decide)
  · rw [if_pos h1]
    constructor
    · intro h; split at h <;> exact absurd h (by decide)
    · intro h
      have := h2 s (Nat.le_refl _) h3
      rw [h] at this; exact absurd this (by decide)
  · rw [if_pos h1]
    by_cases h : B s = 59
    · rw [if_pos h]; exact ⟨fun _ => h, fun _ => rfl⟩
    · rw [if_neg h]; exact ⟨fun h' => absurd h' (by decide), fun h' => absurd h' h⟩
theorem fX_token {B T : Nat → Int32} {n p : Nat} (pl so st iw ig : Int32) (hn : n ≤ 150) (hT : ∀ j, j < n → T j = B j) (hp : p ≤ n) : ∃ s e w f z, p ≤ s ∧ s ≤ e ∧ e ≤ n ∧ fX3_takeToken (nI n) pl (nI p) so B = some (nI s, nI e, z) ∧ fX8_token (nI n) (nI p) st iw ig T = some (nI e, nI s, pb_bI w, pb_bI f) ∧ pb_tk B n s e w f z := by
  obtain ⟨s, a1, a2⟩ := fX3_blank (B := B) hn p hp
  obtain ⟨s', b1, b2⟩ := fX8_blank hn hT p hp
  have : s' = s := pb_Run_uniq b2 a2
  subst this
  have hs1 := a2.1
  have hs2 := a2.2.1
  have eTok : fX8_token (nI n) (nI p) st iw ig T = fX8_token_J99 (nI n) T (nI s') (pb_bI (pb_w (pb_by B n s') 97 122)) (pb_bI (pb_w (pb_by B n s') 48 57)) (if n ≤ s' then 0 else 1) := by
    unfold fX8_token
    rw [b1, Option.bind_some]
    unfold fX8_token_E0
    rw [fX8_byteAt_eq hn (by omega) hT, Option.bind_some, fX8_inL, Option.bind_some, pb_isB_ite, Option.bind_some, fX8_inF, Option.bind_some, pb_isB_ite]
    by_cases h : n ≤ s'
    · rw [if_pos (nI_le h (by omega)), if_pos h, Option.bind_some]
    · rw [if_neg (nI_ge (by omega) (by omega)), if_neg h, Option.bind_some]
  have eCl : fX3_takeToken (nI n) pl (nI p) so B = fX3_takeToken_E13 (nI n) B (nI s') (nI s') := by
    unfold fX3_takeToken
    rw [a1, Option.bind_some]
  rw [eTok, eCl]
  unfold fX3_takeToken_E13 fX8_token_J99 fX8_token_E103
  by_cases hs : s' = n
  · subst hs
    obtain ⟨e, c1, c2⟩ := fX8_run false false hn hT s' (Nat.le_refl _)
    have he : e = s' := by have := c2.1; have := c2.2.1; omega
    subst he
    refine ⟨e, e, false, false, 0, hs1, Nat.le_refl _, Nat.le_refl _, ?_, ?_, Or.inl ⟨rfl, rfl, rfl, rfl, rfl⟩⟩
    · rw [if_neg (nI_nlt (Nat.le_refl _) (by omega))]
    · have eb : pb_by B e e = -1 := if_neg (by omega)
      rw [if_pos (Nat.le_refl _), Int32.add_zero, Option.bind_some, eb, show pb_w (-1) 97 122 = false by decide, show pb_w (-1) 48 57 = false by decide, c1, Option.bind_some]
  · have hlt : s' < n := by omega
    have hok : pb_ok (nI s') 150 = true := pb_okT (by omega) (by omega)
    have eb : pb_by B n s' = B s' := if_pos hlt
    rw [if_pos (nI_lt hlt (by omega)), if_pos hok, nI_clamp (by omega), fX3_isLetter_eq, Option.bind_some, eb, if_neg (show ¬ n ≤ s' by omega), nI_1, Option.bind_some, if_pos hok, fX3_isFigure_eq, Option.bind_some, if_pos hok, Option.bind_some]
    cases hL : pb_w (B s') 97 122 with
    | true =>
      obtain ⟨e, d1, d2⟩ := fX3_run1 (B := B) hn s' hs2
      have hF := pb_LF hL
      obtain ⟨e', c1, c2⟩ := fX8_run true false hn hT (s' + 1) (by omega)
      have c3 : pb_Run (fun j => pb_w (B j) 97 122) n s' e' := pb_Run_head hL (by
        obtain ⟨q1, q2, q3, q4⟩ := c2
        refine ⟨q1, q2, fun j h1 h2 => ?_, ?_⟩
        · have := q3 j h1 h2
          simpa using this
        · rcases q4 with q4 | q4
          · exact Or.inl q4
          · right; simpa using q4)
      have he : e' = e := pb_Run_uniq c3 d2
      subst he
      have := c2.1
      refine ⟨s', e', true, false, 1, hs1, d2.1, d2.2.1, ?_, ?_, Or.inr (Or.inl ⟨hlt, by omega, rfl, rfl, rfl, hL⟩)⟩
      · rw [pb_bI_t, if_neg pb_ne10, d1, Option.bind_some]
      · rw [hF, c1, Option.bind_some]
    | false =>
      cases hF : pb_w (B s') 48 57 with
      | true =>
        obtain ⟨e, d1, d2⟩ := fX3_run2 (B := B) hn s' hs2
        obtain ⟨e', c1, c2⟩ := fX8_run false true hn hT (s' + 1) (by omega)
        have c3 : pb_Run (fun j => pb_w (B j) 48 57) n s' e' := pb_Run_head hF (by
          obtain ⟨q1, q2, q3, q4⟩ := c2
          refine ⟨q1, q2, fun j h1 h2 => ?_, ?_⟩
          · have := q3 j h1 h2
            simpa using this
          · rcases q4 with q4 | q4
            · exact Or.inl q4
            · right; simpa using q4)
        have he : e' = e := pb_Run_uniq c3 d2
        subst he
        have := c2.1
        refine ⟨s', e', false, true, _, hs1, d2.1, d2.2.1, ?_, ?_, Or.inr (Or.inr (Or.inl ⟨hlt, by omega, rfl, rfl, rfl, d2.2.2.1⟩))⟩
        · rw [pb_bI_f, if_pos rfl, pb_bI_t, if_neg pb_ne10, d1, Option.bind_some, pk_sub d2.1]
          have hen := d2.2.1
          by_cases h2 : e' - s' ≤ 2
          · rw [if_pos (show nI (e' - s') ≤ 2 from nI_le (b := 2) h2 (by decide)), if_pos h2]
          · rw [if_neg (show ¬ nI (e' - s') ≤ 2 from nI_ge (a := 2) (by omega) (by omega)), if_neg h2]
        · rw [c1, Option.bind_some]
      | false =>
        obtain ⟨e', c1, c2⟩ := fX8_run false false hn hT (s' + 1) (by omega)
        have he : e' = s' + 1 := by
          obtain ⟨q1, q2, q3, q4⟩ := c2
          rcases Nat.lt_or_ge (s' + 1) e' with h | h
          · exact absurd (q3 (s' + 1) (Nat.le_refl _) h) (by simp)
          · omega
        subst he
        refine ⟨s', s' + 1, false, false, _, hs1, by omega, by omega, ?_, ?_, Or.inr (Or.inr (Or.inr ⟨hlt, rfl, rfl, rfl, rfl⟩))⟩
        · rw [pb_bI_f, if_pos rfl, if_pos rfl]
          by_cases h : B s' = 59
          · rw [if_pos h, if_pos h]
          · rw [if_neg h, if_neg h]
        · rw [c1, Option.bind_some]
