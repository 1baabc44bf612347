/-! ===== one past as told: what changes it, what leaves it ===== -/
/-- the model's numbers outside of a past's own leave it -/
theorem pb_St_frame {w w2 : Nat → Int32} {b : Nat} {steps ls : Int32} {lc : Nat → Int32} {fs : Int32} {fc : Nat → Int32} {bs : Int32} {bc : Nat → Int32} {ps : Int32} {pc sc ss : Nat → Int32} (h : pb_St w b steps ls lc fs fc bs bc ps pc sc ss) (hw : ∀ j, b ≤ j → j < b + 377 → w2 j = w j) : pb_St w2 b steps ls lc fs fc bs bc ps pc sc ss := by
  obtain ⟨nl, nf, nb, np, ns, hn, he, ⟨w0, w1, w3, w4, w5⟩, ⟨l1, l2⟩, ⟨f1, f2⟩, ⟨b1, b2⟩, ⟨p1, p2⟩, hs⟩ := h
  refine ⟨nl, nf, nb, np, ns, hn, he, ⟨?_, ?_, ?_, ?_, ?_⟩, ⟨l1, ?_⟩, ⟨f1, ?_⟩, ⟨b1, ?_⟩, ⟨p1, ?_⟩, ?_⟩
  · rw [hw _ (by omega) (by omega)]; exact w0
  · rw [hw _ (by omega) (by omega)]; exact w1
  · rw [hw _ (by omega) (by omega)]; exact w3
  · rw [hw _ (by omega) (by omega)]; exact w4
  · rw [hw _ (by omega) (by omega)]; exact w5
  · intro j hj; rw [hw _ (by omega) (by omega)]; exact l2 j hj
  · intro j hj; rw [hw _ (by omega) (by omega)]; exact f2 j hj
  · intro j hj; rw [hw _ (by omega) (by omega)]; exact b2 j hj
  · intro j hj; rw [hw _ (by omega) (by omega)]; exact p2 j hj
  · intro i hi
    obtain ⟨n, a1, a2, a3, a4, a5⟩ := hs i hi
    refine ⟨n, a1, a2, ?_, a4, ?_⟩
    · rw [hw _ (by omega) (by omega)]; exact a3
    · intro j hj; rw [hw _ (by omega) (by omega)]; exact a5 j hj
/-- nothing told -/
theorem pb_St_zero {lc fc bc pc sc ss : Nat → Int32} (w : Nat → Int32) : pb_St (pb_zero w 0 377) 0 0 0 lc 0 fc 0 bc 0 pc sc ss := by
  have hz : ∀ j, j < 377 → pb_zero w 0 377 j = 0 := fun j hj => if_pos ⟨Nat.zero_le _, by omega⟩
  refine ⟨0, 0, 0, 0, 0, ⟨by omega, by omega, by omega, by omega, by omega⟩, ⟨rfl, rfl, rfl, rfl, rfl⟩, ⟨hz 0 (by omega), hz 1 (by omega), hz 2 (by omega), hz 3 (by omega), hz 4 (by omega)⟩, ⟨fun k h => absurd h (by omega), fun k h => absurd h (by omega)⟩, ⟨fun k h => absurd h (by omega), fun k h => absurd h (by omega)⟩, ⟨fun k h => absurd h (by omega), fun k h => absurd h (by omega)⟩, ⟨fun k h => absurd h (by omega), fun k h => absurd h (by omega)⟩, fun i h => absurd h (by omega)⟩
/-- all bets are off -/
theorem pb_St_off {w : Nat → Int32} {steps ls : Int32} {lc : Nat → Int32} {fs : Int32} {fc : Nat → Int32} {bs : Int32} {bc : Nat → Int32} {ps : Int32} {pc sc ss : Nat → Int32} (h : pb_St w 0 steps ls lc fs fc bs bc ps pc sc ss) : pb_St (upd w 2 0) 0 steps ls lc fs fc 0 bc ps pc sc ss := by
  obtain ⟨nl, nf, nb, np, ns, ⟨n1, n2, n3, n4, n5⟩, ⟨e1, e2, e3, e4, e5⟩, ⟨w0, w1, w3, w4, w5⟩, ⟨l1, l2⟩, ⟨f1, f2⟩, ⟨b1, b2⟩, ⟨p1, p2⟩, hs⟩ := h
  refine ⟨nl, nf, 0, np, ns, ⟨n1, n2, by omega, n4, n5⟩, ⟨e1, e2, rfl, e4, e5⟩, ⟨?_, ?_, ?_, ?_, ?_⟩, ⟨l1, ?_⟩, ⟨f1, ?_⟩, ⟨fun k h => absurd h (by omega), fun k h => absurd h (by omega)⟩, ⟨p1, ?_⟩, ?_⟩
  · rw [pk_un (by omega)]; exact w0
  · rw [pk_un (by omega)]; exact w1
  · exact pk_us
  · rw [pk_un (by omega)]; exact w4
  · rw [pk_un (by omega)]; exact w5
  · intro j hj; rw [pk_un (by omega)]; exact l2 j hj
  · intro j hj; rw [pk_un (by omega)]; exact f2 j hj
  · intro j hj; rw [pk_un (by omega)]; exact p2 j hj
  · intro i hi
    obtain ⟨n, a1, a2, a3, a4, a5⟩ := hs i hi
    refine ⟨n, a1, a2, ?_, a4, ?_⟩
    · rw [pk_un (by omega)]; exact a3
    · intro j hj; rw [pk_un (by omega)]; exact a5 j hj
/-- no prices -/
theorem pb_St_forget {w : Nat → Int32} {steps ls : Int32} {lc : Nat → Int32} {fs : Int32} {fc : Nat → Int32} {bs : Int32} {bc : Nat → Int32} {ps : Int32} {pc sc ss : Nat → Int32} (h : pb_St w 0 steps ls lc fs fc bs bc ps pc sc ss) : pb_St (upd w 3 0) 0 steps ls lc fs fc bs bc 0 pc sc ss := by
  obtain ⟨nl, nf, nb, np, ns, ⟨n1, n2, n3, n4, n5⟩, ⟨e1, e2, e3, e4, e5⟩, ⟨w0, w1, w3, w4, w5⟩, ⟨l1, l2⟩, ⟨f1, f2⟩, ⟨b1, b2⟩, ⟨p1, p2⟩, hs⟩ := h
  refine ⟨nl, nf, nb, 0, ns, ⟨n1, n2, n3, by omega, n5⟩, ⟨e1, e2, e3, rfl, e5⟩, ⟨?_, ?_, ?_, ?_, ?_⟩, ⟨l1, ?_⟩, ⟨f1, ?_⟩, ⟨b1, ?_⟩, ⟨fun k h => absurd h (by omega), fun k h => absurd h (by omega)⟩, ?_⟩
  · rw [pk_un (by omega)]; exact w0
  · rw [pk_un (by omega)]; exact w1
  · rw [pk_un (by omega)]; exact w3
  · exact pk_us
  · rw [pk_un (by omega)]; exact w5
  · intro j hj; rw [pk_un (by omega)]; exact l2 j hj
  · intro j hj; rw [pk_un (by omega)]; exact f2 j hj
  · intro j hj; rw [pk_un (by omega)]; exact b2 j hj
  · intro i hi
    obtain ⟨n, a1, a2, a3, a4, a5⟩ := hs i hi
    refine ⟨n, a1, a2, ?_, a4, ?_⟩
    · rw [pk_un (by omega)]; exact a3
    · intro j hj; rw [pk_un (by omega)]; exact a5 j hj
theorem pb_byte_all : ∀ k, k < 128 → vp_nar .byte ((nI k).toInt8.toInt32) = nI k := by decide +kernel
theorem pb_byte_nI {k : Nat} (h : k < 128) : vp_nar .byte ((nI k).toInt8.toInt32) = nI k := pb_byte_all k h
