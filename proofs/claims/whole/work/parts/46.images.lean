/-! ===== images ===== -/
theorem pb_St_copy {w w2 : Nat → Int32} {b1 b2 : Nat} {steps ls : Int32} {lc lc2 : Nat → Int32} {fs : Int32} {fc fc2 : Nat → Int32} {bs : Int32} {bc bc2 : Nat → Int32} {ps : Int32} {pc pc2 sc sc2 ss ss2 : Nat → Int32} (h : pb_St w b1 steps ls lc fs fc bs bc ps pc sc ss) (hw : ∀ j, j < 377 → w2 (b2 + j) = w (b1 + j)) (hl : ∀ j, j < 24 → lc2 j = lc j) (hf : ∀ j, j < 30 → fc2 j = fc j) (hb : ∀ j, j < 40 → bc2 j = bc j) (hp : ∀ j, j < 30 → pc2 j = pc j) (hsc : ∀ j, j < 240 → sc2 j = sc j) (hss : ∀ j, j < 8 → ss2 j = ss j) : pb_St w2 b2 steps ls lc2 fs fc2 bs bc2 ps pc2 sc2 ss2 := by
  obtain ⟨nl, nf, nb, np, ns, ⟨n1, n2, n3, n4, n5⟩, he, ⟨w0, w1, w3, w4, w5⟩, ⟨l1, l2⟩, ⟨f1, f2⟩, ⟨b1', b2'⟩, ⟨p1, p2⟩, hs⟩ := h
  have mv : ∀ a j : Nat, a + j < 377 → w2 (b2 + a + j) = w (b1 + a + j) := fun a j h => by rw [Nat.add_assoc, hw _ h, Nat.add_assoc]
  refine ⟨nl, nf, nb, np, ns, ⟨n1, n2, n3, n4, n5⟩, he, ⟨?_, ?_, ?_, ?_, ?_⟩, ⟨?_, ?_⟩, ⟨?_, ?_⟩, ⟨?_, ?_⟩, ⟨?_, ?_⟩, ?_⟩
  · rw [← w0]; exact hw 0 (by omega)
  · rw [hw 1 (by omega)]; exact w1
  · rw [hw 2 (by omega)]; exact w3
  · rw [hw 3 (by omega)]; exact w4
  · rw [hw 4 (by omega)]; exact w5
  · intro k hk; rw [hl _ (by omega), hl _ (by omega), hl _ (by omega)]; exact l1 k hk
  · intro j hj; rw [mv _ _ (by omega), hl _ (by omega)]; exact l2 j hj
  · exact pb_findsOK_congr (fun j hj => hf j (by omega)) f1
  · intro j hj; rw [mv _ _ (by omega), hf _ (by omega)]; exact f2 j hj
  · intro k hk; rw [hb _ (by omega), hb _ (by omega), hb _ (by omega), hb _ (by omega), hb _ (by omega)]; exact b1' k hk
  · intro j hj; rw [mv _ _ (by omega), hb _ (by omega)]; exact b2' j hj
  · intro k hk; rw [hp _ (by omega), hp _ (by omega), hp _ (by omega), hp _ (by omega), hp _ (by omega)]; exact p1 k hk
  · intro j hj; rw [mv _ _ (by omega), hp _ (by omega)]; exact p2 j hj
  · intro i hi
    obtain ⟨n, a1, a2, a3, a4, a5⟩ := hs i hi
    refine ⟨n, a1, by rw [hss i (by omega)]; exact a2, by rw [hw _ (by omega)]; exact a3, pb_findsOK_congr (fun j hj => hsc _ (by omega)) a4, ?_⟩
    intro j hj
    show w2 _ = sc2 (30 * i + j)
    rw [hsc _ (by omega), show b2 + (129 + 31 * i) + 1 + j = b2 + (129 + 31 * i + 1 + j) by omega, hw _ (by omega)]
    refine Eq.trans ?_ (a5 j hj)
    exact pb_fe (by omega)
theorem pb_cpy0 {f g : Nat → Int32} {n j : Nat} (h : j < n) : va_cpy f g 0 0 n j = f j := by
  rw [pk_cpy_in (by omega) (by omega)]
  exact pb_fe (by omega)
theorem fX5_takeOver_eq (ts tl : Int32) (tlc : Nat → Int32) (tf : Int32) (tfc : Nat → Int32) (tb : Int32) (tbc : Nat → Int32) (tp : Int32) (tpc tsc tss : Nat → Int32) (s l : Int32) (lc : Nat → Int32) (f : Int32) (fc : Nat → Int32) (b : Int32) (bc : Nat → Int32) (p : Int32) (pc sc ss : Nat → Int32) : fX5_takeOver ts tl tlc tf tfc tb tbc tp tpc tsc tss s l lc f fc b bc p pc sc ss = some (s, l, va_cpy lc tlc 0 0 24, f, va_cpy fc tfc 0 0 30, b, va_cpy bc tbc 0 0 40, p, va_cpy pc tpc 0 0 30, va_cpy sc tsc 0 0 240, va_cpy ss tss 0 0 8) := rfl
