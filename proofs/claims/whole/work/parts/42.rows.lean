/-! ===== rows that come behind others ===== -/
def pb_put3 (f : Nat → Int32) (at0 : Nat) (a b c : Int32) : Nat → Int32 := upd (upd (upd f at0 a) (at0 + 1) b) (at0 + 2) c
def pb_put5 (f : Nat → Int32) (at0 : Nat) (a b c d e : Int32) : Nat → Int32 := upd (upd (pb_put3 f at0 a b c) (at0 + 3) d) (at0 + 4) e
theorem pb_put3_out {f : Nat → Int32} {at0 j : Nat} {a b c : Int32} (h : j < at0 ∨ at0 + 3 ≤ j) : pb_put3 f at0 a b c j = f j := by
  unfold pb_put3
  rw [pk_un (by omega), pk_un (by omega), pk_un (by omega)]
theorem pb_put5_out {f : Nat → Int32} {at0 j : Nat} {a b c d e : Int32} (h : j < at0 ∨ at0 + 5 ≤ j) : pb_put5 f at0 a b c d e j = f j := by
  unfold pb_put5
  rw [pk_un (by omega), pk_un (by omega), pb_put3_out (by omega)]
theorem pb_put3_0 {f : Nat → Int32} {at0 : Nat} {a b c : Int32} : pb_put3 f at0 a b c at0 = a := by
  unfold pb_put3
  rw [pk_un (by omega), pk_un (by omega), pk_us]
theorem pb_put3_1 {f : Nat → Int32} {at0 : Nat} {a b c : Int32} : pb_put3 f at0 a b c (at0 + 1) = b := by
  unfold pb_put3
  rw [pk_un (by omega), pk_us]
theorem pb_put3_2 {f : Nat → Int32} {at0 : Nat} {a b c : Int32} : pb_put3 f at0 a b c (at0 + 2) = c := by
  unfold pb_put3
  rw [pk_us]
theorem pb_put5_k {f : Nat → Int32} {at0 : Nat} {a b c d e : Int32} : pb_put5 f at0 a b c d e at0 = a ∧ pb_put5 f at0 a b c d e (at0 + 1) = b ∧ pb_put5 f at0 a b c d e (at0 + 2) = c ∧ pb_put5 f at0 a b c d e (at0 + 3) = d ∧ pb_put5 f at0 a b c d e (at0 + 4) = e := by
  unfold pb_put5
  refine ⟨?_, ?_, ?_, ?_, ?_⟩
  · rw [pk_un (by omega), pk_un (by omega), pb_put3_0]
  · rw [pk_un (by omega), pk_un (by omega), pb_put3_1]
  · rw [pk_un (by omega), pk_un (by omega), pb_put3_2]
  · rw [pk_un (by omega), pk_us]
  · rw [pk_us]
/-- the same row behind two rows that are the same so far -/
theorem pb_eqv3 {w f : Nat → Int32} {b n : Nat} {x y z : Int32} (h : pb_eqv w b f (3 * n)) : pb_eqv (pb_put3 w (b + 3 * n) x y z) b (pb_put3 f (3 * n) x y z) (3 * (n + 1)) := by
  intro j hj
  by_cases h0 : j < 3 * n
  · rw [pb_put3_out (by omega), pb_put3_out (by omega)]; exact h j h0
  · rcases (show j = 3 * n ∨ j = 3 * n + 1 ∨ j = 3 * n + 2 by omega) with rfl | rfl | rfl
    · rw [pb_put3_0, pb_put3_0]
    · rw [← Nat.add_assoc, pb_put3_1, pb_put3_1]
    · rw [← Nat.add_assoc, pb_put3_2, pb_put3_2]
theorem pb_eqv5 {w f : Nat → Int32} {b n : Nat} {x y z u v : Int32} (h : pb_eqv w b f (5 * n)) : pb_eqv (pb_put5 w (b + 5 * n) x y z u v) b (pb_put5 f (5 * n) x y z u v) (5 * (n + 1)) := by
  intro j hj
  obtain ⟨a0, a1, a2, a3, a4⟩ := pb_put5_k (f := w) (at0 := b + 5 * n) (a := x) (b := y) (c := z) (d := u) (e := v)
  obtain ⟨c0, c1, c2, c3, c4⟩ := pb_put5_k (f := f) (at0 := 5 * n) (a := x) (b := y) (c := z) (d := u) (e := v)
  by_cases h0 : j < 5 * n
  · rw [pb_put5_out (by omega), pb_put5_out (by omega)]; exact h j h0
  · rcases (show j = 5 * n ∨ j = 5 * n + 1 ∨ j = 5 * n + 2 ∨ j = 5 * n + 3 ∨ j = 5 * n + 4 by omega) with rfl | rfl | rfl | rfl | rfl
    · rw [a0, c0]
    · rw [← Nat.add_assoc, a1, c1]
    · rw [← Nat.add_assoc, a2, c2]
    · rw [← Nat.add_assoc, a3, c3]
    · rw [← Nat.add_assoc, a4, c4]
theorem pb_eqv_keep {w w2 f : Nat → Int32} {b n : Nat} (h : pb_eqv w b f n) (hw : ∀ j, b ≤ j → j < b + n → w2 j = w j) : pb_eqv w2 b f n := fun j hj => by rw [hw _ (by omega) (by omega)]; exact h j hj
theorem fX6_isFull_eq {wd : Int32} {k M : Nat} (hk : k < M) (hM : M < 2 ^ 31) : fX6_isFull wd (nI M) (nI k) = some 0 := by
  unfold fX6_isFull
  rw [if_pos (nI_lt hk hM)]
theorem fX6_isFull_full {wd : Int32} {M : Nat} (hM : M < 2 ^ 31) : fX6_isFull wd (nI M) (nI M) = some 1 := by
  unfold fX6_isFull
  rw [if_neg (nI_nlt (Nat.le_refl _) hM)]
theorem fX6_addThree_eq {k M n : Nat} {cells : Nat → Int32} {a b c : Int32} (hk : k < M) (hM : 3 * M ≤ n) (hn : n < 2 ^ 31) : fX6_addThree 3 (nI M) n (nI k) cells a b c = some (nI (k + 1), pb_put3 cells (3 * k) a b c) := by
  unfold fX6_addThree
  rw [fX6_isFull_eq hk (by omega), Option.bind_some, if_pos rfl, if_pos (show (3 : Int32) ≤ 3 by decide), show nI k * 3 = nI (3 * k) by rw [Nat.mul_comm]; exact pk_mul k 3]
  simp only [Option.bind_some]
  rw [show nI (3 * k) + 1 = nI (3 * k + 1) from nI_add _ 1, show nI (3 * k) + 2 = nI (3 * k + 2) from nI_add _ 2, if_pos (pb_okT (by omega) hn), if_pos (pb_okT (by omega) hn), if_pos (pb_okT (by omega) hn), nI_clamp (by omega), nI_clamp (by omega), nI_clamp (by omega), nI_1]
  rfl
theorem fX6_addThree5 {k M n : Nat} {cells : Nat → Int32} {a b c : Int32} (hk : k < M) (hM : 5 * M ≤ n) (hn : n < 2 ^ 31) : fX6_addThree 5 (nI M) n (nI k) cells a b c = some (nI (k + 1), pb_put3 cells (5 * k) a b c) := by
  unfold fX6_addThree
  rw [fX6_isFull_eq hk (by omega), Option.bind_some, if_pos rfl, if_pos (show (3 : Int32) ≤ 5 by decide), show nI k * 5 = nI (5 * k) by rw [Nat.mul_comm]; exact pk_mul k 5]
  simp only [Option.bind_some]
  rw [show nI (5 * k) + 1 = nI (5 * k + 1) from nI_add _ 1, show nI (5 * k) + 2 = nI (5 * k + 2) from nI_add _ 2, if_pos (pb_okT (by omega) hn), if_pos (pb_okT (by omega) hn), if_pos (pb_okT (by omega) hn), nI_clamp (by omega), nI_clamp (by omega), nI_clamp (by omega), nI_1]
  rfl
theorem fX6_addFive_eq {k M n : Nat} {cells : Nat → Int32} {a b c d e : Int32} (hk : k < M) (hM : 5 * M ≤ n) (hn : n < 2 ^ 31) : fX6_addFive 5 (nI M) n (nI k) cells a b c d e = some (nI (k + 1), pb_put5 cells (5 * k) a b c d e) := by
  unfold fX6_addFive
  rw [fX6_isFull_eq hk (by omega), Option.bind_some, if_pos rfl, if_pos (show (5 : Int32) ≤ 5 by decide), fX6_addThree5 hk hM hn, show nI k * 5 = nI (5 * k) by rw [Nat.mul_comm]; exact pk_mul k 5]
  simp only [Option.bind_some]
  rw [show nI (5 * k) + 3 = nI (5 * k + 3) from nI_add _ 3, show nI (5 * k) + 4 = nI (5 * k + 4) from nI_add _ 4, if_pos (pb_okT (by omega) hn), if_pos (pb_okT (by omega) hn), nI_clamp (by omega), nI_clamp (by omega)]
  rfl
theorem fX8_adds_eq {w : Nat → Int32} {r many first k : Nat} {a b c : Int32} (hk : w (r + many) = nI k) (hr : r + first + 3 * k + 3 ≤ 1508) (hm : r + many < r + first) : fX8_adds w (nI r) (nI many) (nI first) a b c = some (nI k, upd (pb_put3 w (r + first + 3 * k) a b c) (r + many) (nI (k + 1))) := by
  unfold fX8_adds
  rw [nI_add, nI_add, if_pos (pb_okT (by omega) (by omega)), nI_clamp (by omega)]
  simp only [Option.bind_some]
  rw [hk, show (3 : Int32) * nI k = nI (3 * k) from pk_mul 3 k, nI_add, show nI (r + first + 3 * k) + 1 = nI (r + first + 3 * k + 1) from nI_add _ 1, show nI (r + first + 3 * k) + 2 = nI (r + first + 3 * k + 2) from nI_add _ 2, if_pos (pb_okT (by omega) (by omega)), if_pos (pb_okT (by omega) (by omega)), if_pos (pb_okT (by omega) (by omega)), if_pos (pb_okT (by omega) (by omega)), nI_clamp (by omega), nI_clamp (by omega), nI_clamp (by omega)]
  have e : pb_put3 w (r + first + 3 * k) a b c (r + many) = nI k := by rw [pb_put3_out (by omega)]; exact hk
  unfold pb_put3 at e ⊢
  rw [e, nI_1]
  exact if_pos (pb_okT (by omega) (by omega))
theorem fX8_adds5_eq {w : Nat → Int32} {r many first k : Nat} {a b c d e : Int32} (hk : w (r + many) = nI k) (hr : r + first + 5 * k + 5 ≤ 1508) (hm : r + many < r + first) : fX8_adds5 w (nI r) (nI many) (nI first) a b c d e = some (nI k, upd (pb_put5 w (r + first + 5 * k) a b c d e) (r + many) (nI (k + 1))) := by
  unfold fX8_adds5
  rw [nI_add, nI_add, if_pos (pb_okT (by omega) (by omega)), nI_clamp (by omega)]
  simp only [Option.bind_some]
  rw [hk, show (5 : Int32) * nI k = nI (5 * k) from pk_mul 5 k, nI_add, show nI (r + first + 5 * k) + 1 = nI (r + first + 5 * k + 1) from nI_add _ 1, show nI (r + first + 5 * k) + 2 = nI (r + first + 5 * k + 2) from nI_add _ 2, show nI (r + first + 5 * k) + 3 = nI (r + first + 5 * k + 3) from nI_add _ 3, show nI (r + first + 5 * k) + 4 = nI (r + first + 5 * k + 4) from nI_add _ 4, if_pos (pb_okT (by omega) (by omega)), if_pos (pb_okT (by omega) (by omega)), if_pos (pb_okT (by omega) (by omega)), if_pos (pb_okT (by omega) (by omega)), if_pos (pb_okT (by omega) (by omega)), if_pos (pb_okT (by omega) (by omega)), nI_clamp (by omega), nI_clamp (by omega), nI_clamp (by omega), nI_clamp (by omega), nI_clamp (by omega)]
  have e2 : pb_put5 w (r + first + 5 * k) a b c d e (r + many) = nI k := by rw [pb_put5_out (by omega)]; exact hk
  unfold pb_put5 pb_put3 at e2 ⊢
  rw [e2, nI_1]
  exact if_pos (pb_okT (by omega) (by omega))
/-- a law more: nothing may be undone -/
theorem pb_St_rule {w : Nat → Int32} {nl : Nat} {steps : Int32} {lc : Nat → Int32} {fs : Int32} {fc : Nat → Int32} {bs : Int32} {bc : Nat → Int32} {ps : Int32} {pc sc ss : Nat → Int32} {k a b : Int32} (h : pb_St w 0 steps (nI nl) lc fs fc bs bc ps pc sc ss) (hnl : nl < 8) (hk : pb_lt k 4) (ha : pb_lt a 7) (hb : pb_lt b 7) : pb_St (upd (pb_put3 (upd w 4 0) (0 + 5 + 3 * nl) k a b) (0 + 0) (nI (nl + 1))) 0 0 (nI (nl + 1)) (pb_put3 lc (3 * nl) k a b) fs fc bs bc ps pc sc ss := by
  obtain ⟨nl', nf, nb, np, ns, ⟨n1, n2, n3, n4, n5⟩, ⟨e1, e2, e3, e4, e5⟩, ⟨w0, w1, w3, w4, w5⟩, ⟨l1, l2⟩, ⟨f1, f2⟩, ⟨b1, b2⟩, ⟨p1, p2⟩, hs⟩ := h
  have : nl = nl' := (nI_eq (by omega) (by omega)).mp e1
  subst this
  have out : ∀ j, j ≠ 0 → j ≠ 4 → (j < 5 + 3 * nl ∨ 8 + 3 * nl ≤ j) → upd (pb_put3 (upd w 4 0) (0 + 5 + 3 * nl) k a b) (0 + 0) (nI (nl + 1)) j = w j := fun j h0 h4 h5 => by
    rw [pk_un (by omega), pb_put3_out (by omega), pk_un (by omega)]
  refine ⟨nl + 1, nf, nb, np, 0, ⟨by omega, n2, n3, n4, by omega⟩, ⟨rfl, e2, e3, e4, rfl⟩, ⟨pk_us, ?_, ?_, ?_, ?_⟩, ⟨?_, ?_⟩, ⟨f1, ?_⟩, ⟨b1, ?_⟩, ⟨p1, ?_⟩, fun i hi => absurd hi (by omega)⟩
  · rw [out _ (by omega) (by omega) (by omega)]; exact w1
  · rw [out _ (by omega) (by omega) (by omega)]; exact w3
  · rw [out _ (by omega) (by omega) (by omega)]; exact w4
  · rw [pk_un (by omega), pb_put3_out (by omega)]; exact pk_us
  · intro i hi
    by_cases h0 : i < nl
    · rw [pb_put3_out (by omega), pb_put3_out (by omega), pb_put3_out (by omega)]; exact l1 i h0
    · have : i = nl := by omega
      subst this
      rw [pb_put3_0, pb_put3_1, pb_put3_2]
      exact ⟨hk, ha, hb⟩
  · exact pb_eqv_keep (pb_eqv3 (pb_eqv_keep l2 (w2 := upd w 4 0) (fun j h1 h2 => pk_un (by omega)))) (fun j h1 h2 => pk_un (by omega))
  · exact pb_eqv_keep f2 (fun j h1 h2 => out j (by omega) (by omega) (by omega))
  · exact pb_eqv_keep b2 (fun j h1 h2 => out j (by omega) (by omega) (by omega))
  · exact pb_eqv_keep p2 (fun j h1 h2 => out j (by omega) (by omega) (by omega))
/-- a bet more -/
theorem pb_St_bet {w : Nat → Int32} {nb : Nat} {steps ls : Int32} {lc : Nat → Int32} {fs : Int32} {fc : Nat → Int32} {bc : Nat → Int32} {ps : Int32} {pc sc ss : Nat → Int32} {k a b s o : Int32} (h : pb_St w 0 steps ls lc fs fc (nI nb) bc ps pc sc ss) (hnb : nb < 8) (hk : pb_lt k 6) (ha : pb_lt a 7) (hb : pb_lt b 7) (hs0 : ∃ t : Nat, 1 ≤ t ∧ t ≤ 99 ∧ s = nI t) (ho : pb_lt o 100) : pb_St (upd (pb_put5 w (0 + 59 + 5 * nb) k a b s o) (0 + 2) (nI (nb + 1))) 0 steps ls lc fs fc (nI (nb + 1)) (pb_put5 bc (5 * nb) k a b s o) ps pc sc ss := by
  obtain ⟨nl, nf, nb', np, ns, ⟨n1, n2, n3, n4, n5⟩, ⟨e1, e2, e3, e4, e5⟩, ⟨w0, w1, w3, w4, w5⟩, ⟨l1, l2⟩, ⟨f1, f2⟩, ⟨b1, b2⟩, ⟨p1, p2⟩, hs⟩ := h
  have : nb = nb' := (nI_eq (by omega) (by omega)).mp e3
  subst this
  have out : ∀ j, j ≠ 2 → (j < 59 + 5 * nb ∨ 64 + 5 * nb ≤ j) → upd (pb_put5 w (0 + 59 + 5 * nb) k a b s o) (0 + 2) (nI (nb + 1)) j = w j := fun j h0 h5 => by
    rw [pk_un (by omega), pb_put5_out (by omega)]
  refine ⟨nl, nf, nb + 1, np, ns, ⟨n1, n2, by omega, n4, n5⟩, ⟨e1, e2, rfl, e4, e5⟩, ⟨?_, ?_, pk_us, ?_, ?_⟩, ⟨l1, ?_⟩, ⟨f1, ?_⟩, ⟨?_, ?_⟩, ⟨p1, ?_⟩, ?_⟩
  · rw [out _ (by omega) (by omega)]; exact w0
  · rw [out _ (by omega) (by omega)]; exact w1
  · rw [out _ (by omega) (by omega)]; exact w4
  · rw [out _ (by omega) (by omega)]; exact w5
  · exact pb_eqv_keep l2 (fun j h1 h2 => out j (by omega) (by omega))
  · exact pb_eqv_keep f2 (fun j h1 h2 => out j (by omega) (by omega))
  · intro i hi
    by_cases h0 : i < nb
    · rw [pb_put5_out (by omega), pb_put5_out (by omega), pb_put5_out (by omega), pb_put5_out (by omega), pb_put5_out (by omega)]; exact b1 i h0
    · have : i = nb := by omega
      subst this
      obtain ⟨c0, c1, c2, c3, c4⟩ := pb_put5_k (f := bc) (at0 := 5 * i) (a := k) (b := a) (c := b) (d := s) (e := o)
      rw [c0, c1, c2, c3, c4]
      exact ⟨hk, ha, hb, hs0, ho⟩
  · exact pb_eqv_keep (pb_eqv5 b2) (fun j h1 h2 => pk_un (by omega))
  · exact pb_eqv_keep p2 (fun j h1 h2 => out j (by omega) (by omega))
  · intro i hi
    obtain ⟨n, a1, a2, a3, a4, a5⟩ := hs i hi
    exact ⟨n, a1, a2, by rw [out _ (by omega) (by omega)]; exact a3, a4, pb_eqv_keep a5 (fun j h1 h2 => out j (by omega) (by omega))⟩
/-- a price more -/
theorem pb_St_price {w : Nat → Int32} {np : Nat} {steps ls : Int32} {lc : Nat → Int32} {fs : Int32} {fc : Nat → Int32} {bs : Int32} {bc : Nat → Int32} {pc sc ss : Nat → Int32} {k a b s o : Int32} (h : pb_St w 0 steps ls lc fs fc bs bc (nI np) pc sc ss) (hnp : np < 6) (hk : pb_lt k 6) (ha : pb_lt a 7) (hb : pb_lt b 7) (hs0 : pb_lt s 100) (ho : pb_lt o 2) : pb_St (upd (pb_put5 w (0 + 99 + 5 * np) k a b s o) (0 + 3) (nI (np + 1))) 0 steps ls lc fs fc bs bc (nI (np + 1)) (pb_put5 pc (5 * np) k a b s o) sc ss := by
  obtain ⟨nl, nf, nb, np', ns, ⟨n1, n2, n3, n4, n5⟩, ⟨e1, e2, e3, e4, e5⟩, ⟨w0, w1, w3, w4, w5⟩, ⟨l1, l2⟩, ⟨f1, f2⟩, ⟨b1, b2⟩, ⟨p1, p2⟩, hs⟩ := h
  have : np = np' := (nI_eq (by omega) (by omega)).mp e4
  subst this
  have out : ∀ j, j ≠ 3 → (j < 99 + 5 * np ∨ 104 + 5 * np ≤ j) → upd (pb_put5 w (0 + 99 + 5 * np) k a b s o) (0 + 3) (nI (np + 1)) j = w j := fun j h0 h5 => by
    rw [pk_un (by omega), pb_put5_out (by omega)]
  refine ⟨nl, nf, nb, np + 1, ns, ⟨n1, n2, n3, by omega, n5⟩, ⟨e1, e2, e3, rfl, e5⟩, ⟨?_, ?_, ?_, pk_us, ?_⟩, ⟨l1, ?_⟩, ⟨f1, ?_⟩, ⟨b1, ?_⟩, ⟨?_, ?_⟩, ?_⟩
  · rw [out _ (by omega) (by omega)]; exact w0
  · rw [out _ (by omega) (by omega)]; exact w1
  · rw [out _ (by omega) (by omega)]; exact w3
  · rw [out _ (by omega) (by omega)]; exact w5
  · exact pb_eqv_keep l2 (fun j h1 h2 => out j (by omega) (by omega))
  · exact pb_eqv_keep f2 (fun j h1 h2 => out j (by omega) (by omega))
  · exact pb_eqv_keep b2 (fun j h1 h2 => out j (by omega) (by omega))
  · intro i hi
    by_cases h0 : i < np
    · rw [pb_put5_out (by omega), pb_put5_out (by omega), pb_put5_out (by omega), pb_put5_out (by omega), pb_put5_out (by omega)]; exact p1 i h0
    · have : i = np := by omega
      subst this
      obtain ⟨c0, c1, c2, c3, c4⟩ := pb_put5_k (f := pc) (at0 := 5 * i) (a := k) (b := a) (c := b) (d := s) (e := o)
      rw [c0, c1, c2, c3, c4]
      exact ⟨hk, ha, hb, hs0, ho⟩
  · exact pb_eqv_keep (pb_eqv5 p2) (fun j h1 h2 => pk_un (by omega))
  · intro i hi
    obtain ⟨n, a1, a2, a3, a4, a5⟩ := hs i hi
    exact ⟨n, a1, a2, by rw [out _ (by omega) (by omega)]; exact a3, a4, pb_eqv_keep a5 (fun j h1 h2 => out j (by omega) (by omega))⟩
