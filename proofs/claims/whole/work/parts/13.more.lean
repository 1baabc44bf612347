/-! ===== long compares that a branch follows; the array of two images; the nest's links ===== -/
theorem pb_lg {x y : Int64} : (lg_cmp x y < 0 ↔ x < y) ∧ (lg_cmp x y = 0 ↔ x = y) ∧ (0 < lg_cmp x y ↔ y < x) := by
  unfold lg_cmp
  by_cases h1 : x > y
  · rw [if_pos h1]
    have h2 : y < x := h1
    rw [Int64.lt_iff_toInt_lt] at h2
    refine ⟨⟨fun h => absurd h (by decide), fun h => ?_⟩, ⟨fun h => absurd h (by decide), fun h => ?_⟩, ⟨fun _ => h1, fun _ => by decide⟩⟩
    · rw [Int64.lt_iff_toInt_lt] at h; omega
    · subst h; omega
  · rw [if_neg h1]
    have h2 : ¬ y < x := h1
    rw [Int64.lt_iff_toInt_lt] at h2
    by_cases h3 : x = y
    · rw [if_pos h3]
      subst h3
      refine ⟨⟨fun h => absurd h (by decide), fun h => absurd h h1⟩, ⟨fun _ => rfl, fun _ => rfl⟩, ⟨fun h => absurd h (by decide), fun h => absurd h h1⟩⟩
    · rw [if_neg h3]
      refine ⟨⟨fun _ => ?_, fun _ => by decide⟩, ⟨fun h => absurd h (by decide), fun h => absurd h h3⟩, ⟨fun h => absurd h (by decide), fun h => absurd h h1⟩⟩
      rw [Int64.lt_iff_toInt_lt]
      have h4 : x.toInt ≠ y.toInt := fun e => h3 (Int64.toInt_inj.mp e)
      omega
theorem pb_lgle {x y : Int64} : lg_cmp x y ≤ 0 ↔ x ≤ y := by
  have h := pb_lg (x := x) (y := y)
  have a : lg_cmp x y ≤ 0 ↔ ¬ 0 < lg_cmp x y := by rw [Int32.le_iff_toInt_le, Int32.lt_iff_toInt_lt]; omega
  have b : x ≤ y ↔ ¬ y < x := by rw [Int64.le_iff_toInt_le, Int64.lt_iff_toInt_lt]; omega
  rw [a, b, h.2.2]
theorem pb_lgge {x y : Int64} : 0 ≤ lg_cmp x y ↔ y ≤ x := by
  have h := pb_lg (x := x) (y := y)
  have a : 0 ≤ lg_cmp x y ↔ ¬ lg_cmp x y < 0 := by rw [Int32.le_iff_toInt_le, Int32.lt_iff_toInt_lt]; omega
  have b : y ≤ x ↔ ¬ x < y := by rw [Int64.le_iff_toInt_le, Int64.lt_iff_toInt_lt]; omega
  rw [a, b, h.1]
/-- an array of two objects -/
def pb_two (a b : Nat) : Nat → Option Nat := va_up (va_up (fun _ => none) 0 (some a)) 1 (some b)
section PBL
variable {p : Program} {l : Launch} {e : Env} {R : Room} {s : State} {m : MethodId} {args : Array Value} {below : List Frame} {meth : Method} {c : Code} {cc : ByteArray} {nL : Nat} {Ts : List Cond} {own : String} {D : va_G} {cl : List vw_C} {tys : List (ClassId × FieldType)} {A : Nat → Prop} {cells slots : Nat} {Q : State → Prop} {ws ws' : va_W} {lv lv' : List (Nat × Value)} {st : List Value} {pc : Nat}
theorem pb_lif_eq (C : pb_Cx p s m args c cc nL Ts own D cl tys A) {x y : Int64} {off : Int} {tgt : Nat} (d1 : decode cc pc = .ok (.lcmp, 1)) (d : decode cc (pc + 1) = .ok (.ifCond .eq off, 3)) (ht : ((pc + 1 : Nat) : Int) + off = (tgt : Int)) (kt : (x = y) → pb_V p l e R s m args below meth c nL D cl A cells slots Q ws lv st tgt) (kf : ¬ (x = y) → pb_V p l e R s m args below meth c nL D cl A cells slots Q ws lv st (pc + 1 + 3)) : pb_V p l e R s m args below meth c nL D cl A cells slots Q ws lv (.long y :: .long x :: st) pc :=
  pb_lcmp C d1 (pb_if_eq C d ht (fun h => kt (pb_lg.2.1.mp h)) (fun h => kf (fun h2 => h (pb_lg.2.1.mpr h2))))
theorem pb_lif_ne (C : pb_Cx p s m args c cc nL Ts own D cl tys A) {x y : Int64} {off : Int} {tgt : Nat} (d1 : decode cc pc = .ok (.lcmp, 1)) (d : decode cc (pc + 1) = .ok (.ifCond .ne off, 3)) (ht : ((pc + 1 : Nat) : Int) + off = (tgt : Int)) (kt : (¬ x = y) → pb_V p l e R s m args below meth c nL D cl A cells slots Q ws lv st tgt) (kf : x = y → pb_V p l e R s m args below meth c nL D cl A cells slots Q ws lv st (pc + 1 + 3)) : pb_V p l e R s m args below meth c nL D cl A cells slots Q ws lv (.long y :: .long x :: st) pc :=
  pb_lcmp C d1 (pb_if_ne C d ht (fun h => kt (fun h2 => h (pb_lg.2.1.mpr h2))) (fun h => kf (pb_lg.2.1.mp h)))
theorem pb_lif_lt (C : pb_Cx p s m args c cc nL Ts own D cl tys A) {x y : Int64} {off : Int} {tgt : Nat} (d1 : decode cc pc = .ok (.lcmp, 1)) (d : decode cc (pc + 1) = .ok (.ifCond .lt off, 3)) (ht : ((pc + 1 : Nat) : Int) + off = (tgt : Int)) (kt : (x < y) → pb_V p l e R s m args below meth c nL D cl A cells slots Q ws lv st tgt) (kf : ¬ (x < y) → pb_V p l e R s m args below meth c nL D cl A cells slots Q ws lv st (pc + 1 + 3)) : pb_V p l e R s m args below meth c nL D cl A cells slots Q ws lv (.long y :: .long x :: st) pc :=
  pb_lcmp C d1 (pb_if_lt C d ht (fun h => kt (pb_lg.1.mp h)) (fun h => kf (fun h2 => h (pb_lg.1.mpr h2))))
theorem pb_lif_ge (C : pb_Cx p s m args c cc nL Ts own D cl tys A) {x y : Int64} {off : Int} {tgt : Nat} (d1 : decode cc pc = .ok (.lcmp, 1)) (d : decode cc (pc + 1) = .ok (.ifCond .ge off, 3)) (ht : ((pc + 1 : Nat) : Int) + off = (tgt : Int)) (kt : (y ≤ x) → pb_V p l e R s m args below meth c nL D cl A cells slots Q ws lv st tgt) (kf : ¬ (y ≤ x) → pb_V p l e R s m args below meth c nL D cl A cells slots Q ws lv st (pc + 1 + 3)) : pb_V p l e R s m args below meth c nL D cl A cells slots Q ws lv (.long y :: .long x :: st) pc :=
  pb_lcmp C d1 (pb_if_ge C d ht (fun h => kt (pb_lgge.mp h)) (fun h => kf (fun h2 => h (pb_lgge.mpr h2))))
theorem pb_lif_gt (C : pb_Cx p s m args c cc nL Ts own D cl tys A) {x y : Int64} {off : Int} {tgt : Nat} (d1 : decode cc pc = .ok (.lcmp, 1)) (d : decode cc (pc + 1) = .ok (.ifCond .gt off, 3)) (ht : ((pc + 1 : Nat) : Int) + off = (tgt : Int)) (kt : (y < x) → pb_V p l e R s m args below meth c nL D cl A cells slots Q ws lv st tgt) (kf : ¬ (y < x) → pb_V p l e R s m args below meth c nL D cl A cells slots Q ws lv st (pc + 1 + 3)) : pb_V p l e R s m args below meth c nL D cl A cells slots Q ws lv (.long y :: .long x :: st) pc :=
  pb_lcmp C d1 (pb_if_gt C d ht (fun h => kt (pb_lg.2.2.mp h)) (fun h => kf (fun h2 => h (pb_lg.2.2.mpr h2))))
theorem pb_lif_le (C : pb_Cx p s m args c cc nL Ts own D cl tys A) {x y : Int64} {off : Int} {tgt : Nat} (d1 : decode cc pc = .ok (.lcmp, 1)) (d : decode cc (pc + 1) = .ok (.ifCond .le off, 3)) (ht : ((pc + 1 : Nat) : Int) + off = (tgt : Int)) (kt : (x ≤ y) → pb_V p l e R s m args below meth c nL D cl A cells slots Q ws lv st tgt) (kf : ¬ (x ≤ y) → pb_V p l e R s m args below meth c nL D cl A cells slots Q ws lv st (pc + 1 + 3)) : pb_V p l e R s m args below meth c nL D cl A cells slots Q ws lv (.long y :: .long x :: st) pc :=
  pb_lcmp C d1 (pb_if_le C d ht (fun h => kt (pb_lgle.mp h)) (fun h => kf (fun h2 => h (pb_lgle.mpr h2))))
theorem pb_aald2 (C : pb_Cx p s m args c cc nL Ts own D cl tys A) {a a0 a1 : Nat} (q0 t0 : Nat) {cA : ClassId} {Cn : String} (ha : ws[q0]? = some (a, .inl (cA, 2, .inr (.inr (.inr (.inr (pb_two a0 a1))))))) (ht : tys[t0]? = some (cA, .object Cn)) {i : Int32} (d : decode cc pc = .ok (.aaload, 1)) (hi : i = 0 ∨ i = 1) (k0 : i = 0 → pb_V p l e R s m args below meth c nL D cl A cells slots Q ws lv (.ref a0 :: st) (pc + 1)) (k1 : i = 1 → pb_V p l e R s m args below meth c nL D cl A cells slots Q ws lv (.ref a1 :: st) (pc + 1)) : pb_V p l e R s m args below meth c nL D cl A cells slots Q ws lv (.int i :: .ref a :: st) pc := by
  intro H locs ls hP hD hS hl
  rcases hi with h | h
  · subst h
    exact va_aldq C.1.1 C.1.2.1 C.2.1 hP q0 t0 ha ht (by unfold vp_in; decide) d (k0 rfl H locs ls hP hD hS hl)
  · subst h
    exact va_aldq C.1.1 C.1.2.1 C.2.1 hP q0 t0 ha ht (by unfold vp_in; decide) d (k1 rfl H locs ls hP hD hS hl)
end PBL
/-- the links between nest mates -/
def pb_NW (U : State) : Prop := va_Nw (.methodLinkNest RX1 35 yX7_bookIn "PastBets") U ∧ va_Nw (.methodLinkNest RX1 42 yX7_gainIn "PastBets") U ∧ va_Nw (.methodLinkNest RX1 46 yX7_wasSo "PastBets") U ∧ va_Nw (.methodLinkNest RX1 100 yX7_betHolds "PastBets") U ∧ va_Nw (.methodLinkNest RX2 49 yX7_wasSo "PastBets") U ∧ va_Nw (.methodLinkNest RX2 53 yX7_lawKept "PastBets") U ∧ va_Nw (.methodLinkNest RX2 57 yX7_claimHolds "PastBets") U ∧ va_Nw (.methodLinkNest RX2 61 yX7_shareOfTen "PastBets") U ∧ va_Nw (.methodLinkNest RX4 45 yX7_wasSo "PastBets") U ∧ va_Nw (.methodLinkNest RX4 53 yX7_claimHolds "PastBets") U
theorem pb_NW.warm {s U : State} (hW : s.WarmedH U.vm) (h : pb_NW s) : pb_NW U := ⟨va_Nw.warmM hW h.1, va_Nw.warmM hW h.2.1, va_Nw.warmM hW h.2.2.1, va_Nw.warmM hW h.2.2.2.1, va_Nw.warmM hW h.2.2.2.2.1, va_Nw.warmM hW h.2.2.2.2.2.1, va_Nw.warmM hW h.2.2.2.2.2.2.1, va_Nw.warmM hW h.2.2.2.2.2.2.2.1, va_Nw.warmM hW h.2.2.2.2.2.2.2.2.1, va_Nw.warmM hW h.2.2.2.2.2.2.2.2.2⟩
theorem pb_NW_b : ∀ (a : Array Value) (U : State) (g : JFrame) (mk : MethodId), pb_NW U → pb_NW (U.calling g mk a) := fun a U g mk h => ⟨va_Nw.same rfl (rfl : U.vm = (U.calling g mk a).vm) h.1, va_Nw.same rfl (rfl : U.vm = (U.calling g mk a).vm) h.2.1, va_Nw.same rfl (rfl : U.vm = (U.calling g mk a).vm) h.2.2.1, va_Nw.same rfl (rfl : U.vm = (U.calling g mk a).vm) h.2.2.2.1, va_Nw.same rfl (rfl : U.vm = (U.calling g mk a).vm) h.2.2.2.2.1, va_Nw.same rfl (rfl : U.vm = (U.calling g mk a).vm) h.2.2.2.2.2.1, va_Nw.same rfl (rfl : U.vm = (U.calling g mk a).vm) h.2.2.2.2.2.2.1, va_Nw.same rfl (rfl : U.vm = (U.calling g mk a).vm) h.2.2.2.2.2.2.2.1, va_Nw.same rfl (rfl : U.vm = (U.calling g mk a).vm) h.2.2.2.2.2.2.2.2.1, va_Nw.same rfl (rfl : U.vm = (U.calling g mk a).vm) h.2.2.2.2.2.2.2.2.2⟩
theorem pb_NW_x {s : State} {A : Nat → Prop} {w1 : va_W} (h : pb_NW s) : ∀ (H : Heap) (locs : List Loc) (U : State), va_S A s.heap H locs → (∀ q, va_A w1 H.size q → A q) → U.heap = H → s.WarmedH U.vm → pb_NW U := fun _ _ _ _ _ _ hW => h.warm hW
theorem pb_esc {α β : Type} {f : α → Option β} {v r : β} (h : Sum.elim f (fun r => some r) (Sum.inr v) = some r) : v = r := Option.some.inj h
theorem pb_inl {α β γ : Type} {f : α → γ} {g : β → γ} {a : α} {x : γ} (h : Sum.elim f g (Sum.inl a) = x) : f a = x := h
theorem pb_inc {n : Int} {x k v : Int32} (h : Int32.ofInt n = k) (e : x + k = v) : x + Int32.ofInt n = v := by rw [h]; exact e
theorem pb_isB0 : pb_isB 0 = true := by decide
theorem pb_isB1 : pb_isB 1 = true := by decide
abbrev pb_tys (cyB cyI cyJ cyZ cyS : ClassId) : List (ClassId × FieldType) := [(cyB, .byte), (cyI, .int), (cyJ, .long), (cyZ, .boolean), (cyS, .object "PastBets$Story")]
def pb_lens : List Nat := [4, 4, 4, 3]
def pb_byts : List (List Int32) := [[112, 97, 115, 116], [114, 117, 108, 101], [102, 105, 110, 100], [98, 101, 116]]
def pb_most : Nat → Nat → Int32 := fun i j => (([[3, 6, 6], [6, 1, 10], [5, 6, 6, 99, 99]] : List (List Int32)).getD i []).getD j 0
/-- the j-th sign of the i-th constant -/
def pb_chr (i j : Nat) : Int32 := (pb_byts.getD i []).getD j 0
