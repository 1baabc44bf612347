/-! ===== the walk's own judgement: a world, locals, a stack, a place in the code; rows over it ===== -/
def pb_Cx (p : Program) (s : State) (m : MethodId) (args : Array Value) (c : Code) (cc : ByteArray) (nL : Nat) (Ts : List Cond) (own : String) (D : va_G) (cl : List vw_C) (tys : List (ClassId × FieldType)) (A : Nat → Prop) : Prop :=
  (p.tables.exec = Jvm.exec ∧ c.code = cc ∧ c.maxLocals = nL ∧ s.vm.findClass own = some m.cls ∧ ∀ w ∈ Ts, w.before args s = true) ∧ va_K D cl tys s ∧ (∀ q : Nat, s.heap.size ≤ q → A q)
def pb_V (p : Program) (l : Launch) (e : Env) (R : Room) (s : State) (m : MethodId) (args : Array Value) (below : List Frame) (meth : Method) (c : Code) (nL : Nat) (D : va_G) (cl : List vw_C) (A : Nat → Prop) (cells slots : Nat) (Q : State → Prop) (ws : va_W) (lv : List (Nat × Value)) (st : List Value) (pc : Nat) : Prop :=
  ∀ (H : Heap) (locs : List Loc) (ls : Array Slot), va_P D cl ws H → va_D A ws → va_S A s.heap H locs → lv_has ls nL lv → W p l e R s m args below meth c H locs cells slots Q (F0 m pc ls st)
/-- an index that is within -/
def pb_ok (i : Int32) (n : Nat) : Bool := decide (¬ (i < 0 ∨ n ≤ i.toNatClampNeg))
theorem pb_in {i : Int32} {n : Nat} (h : pb_ok i n = true) : vp_in i n := by
  unfold vp_in
  exact of_decide_eq_true h
/-- what a copy of a part of an array asks -/
def pb_cok (sp dp n : Int32) (n0 n1 : Nat) : Bool := decide (¬ sp < 0 ∧ ¬ dp < 0 ∧ ¬ n < 0 ∧ sp.toNatClampNeg + n.toNatClampNeg ≤ n0 ∧ dp.toNatClampNeg + n.toNatClampNeg ≤ n1)
/-- an int that is a boolean -/
def pb_isB (x : Int32) : Bool := decide (x = 0 ∨ x = 1)
theorem pb_isB_narrow {x : Int32} (h : pb_isB x = true) : narrow .boolean (.int x) = .int x := by
  rcases (of_decide_eq_true h : x = 0 ∨ x = 1) with rfl | rfl <;> rfl
theorem pb_isB_fits {x : Int32} (h : pb_isB x = true) : fits .boolean (.int x) = true := by
  rcases (of_decide_eq_true h : x = 0 ∨ x = 1) with rfl | rfl <;> rfl
/-- a loop: 'inl' goes on, 'inr' is the end -/
def pb_lp {σ ρ : Type} (body : σ → Option (σ ⊕ ρ)) : Nat → σ → Option ρ
  | 0, _ => none
  | n + 1, x => (body x).bind fun y => Sum.elim (fun x' => pb_lp body n x') (fun r => some r) y
theorem pb_lp_succ {σ ρ : Type} {body : σ → Option (σ ⊕ ρ)} {n : Nat} {x : σ} {r : ρ} (h : pb_lp body (n + 1) x = some r) : ∃ y, body x = some y ∧ Sum.elim (fun x' => pb_lp body n x') (fun r => some r) y = some r := by
  unfold pb_lp at h
  exact Option.bind_eq_some_iff.mp h
theorem pb_lp_zero {σ ρ : Type} {body : σ → Option (σ ⊕ ρ)} {x : σ} {r : ρ} (h : pb_lp body 0 x = some r) : False := by
  simp [pb_lp] at h
def pb_FU : Nat := 100000
theorem pb_bind {α β : Type} {x : Option α} {k : α → Option β} {r : β} (h : x.bind k = some r) : ∃ y, x = some y ∧ k y = some r := Option.bind_eq_some_iff.mp h
theorem pb_pos {α : Type} {c : Prop} [Decidable c] {a b r : α} (h : (if c then a else b) = r) (hc : c) : a = r := by rw [if_pos hc] at h; exact h
theorem pb_neg {α : Type} {c : Prop} [Decidable c] {a b r : α} (h : (if c then a else b) = r) (hc : ¬ c) : b = r := by rw [if_neg hc] at h; exact h
theorem pb_grd {α : Type} {c : Prop} [Decidable c] {a : Option α} {r : α} (h : (if c then a else none) = some r) : c ∧ a = some r := by
  by_cases hc : c
  · rw [if_pos hc] at h; exact ⟨hc, h⟩
  · rw [if_neg hc] at h; cases h
/-- two worlds hold the same at these places -/
def pb_same : List Nat → va_W → va_W → Prop
  | [], _, _ => True
  | i :: is, w, u => (∃ x, w[i]? = some x ∧ u[i]? = some x) ∧ pb_same is w u
theorem pb_same_at : ∀ (is : List Nat) (w u : va_W), pb_same is w u → ∀ k, k ∈ is → w[k]? = u[k]? := by
  intro is
  induction is with
  | nil => intro w u _ k hk; exact absurd hk List.not_mem_nil
  | cons i is ih =>
    intro w u h k hk
    rcases List.mem_cons.mp hk with rfl | hk
    · obtain ⟨⟨x, h1, h2⟩, -⟩ := h
      rw [h1, h2]
    · exact ih w u h.2 k hk
/-- behind a call: the callee's cells as they came back, all else as it was -/
theorem pb_back {D : va_G} {cl : List vw_C} {A : Nat → Prop} {ws ws' w1 w2 : va_W} {H H1 : Heap} {n0 : Nat} (hP : va_P D cl ws H) (hD : va_D A ws) (is isR : List Nat) (hC : is.map (fun i => ws[i]?) = w1.map some) (hC2 : is.map (fun i => ws'[i]?) = w2.map some) (hR : pb_same isR ws' ws) (hlen : ws'.length = n0) (hcov : ((List.range n0).all fun k => is.contains k || isR.contains k) = true) (hA : w1.map (fun q => q.1) = w2.map (fun q => q.1))
    (hk : ∀ q : Nat, q < H.size → ¬ va_A w1 H.size q → H1[q]? = H[q]?) (hP1 : va_P D cl w2 H1) : va_P D cl ws' H1 ∧ va_D A ws' := by
  have cov : ∀ k, k < ws'.length → k ∈ is ∨ k ∈ isR := by
    intro k hk
    rw [hlen] at hk
    have := List.all_eq_true.mp hcov k (List.mem_range.mpr hk)
    simp only [Bool.or_eq_true, List.contains_iff_mem] at this
    exact this
  have inC : ∀ k, k ∈ is → ∃ (t : Nat) (x y : Nat × va_E), w1[t]? = some x ∧ w2[t]? = some y ∧ ws[k]? = some x ∧ ws'[k]? = some y ∧ x.1 = y.1 := by
    intro k hk
    obtain ⟨t, ht⟩ := List.getElem?_of_mem hk
    have h1 : (is.map (fun i => ws[i]?))[t]? = some (ws[k]?) := by rw [List.getElem?_map, ht]; rfl
    have h2 : (is.map (fun i => ws'[i]?))[t]? = some (ws'[k]?) := by rw [List.getElem?_map, ht]; rfl
    rw [hC, List.getElem?_map] at h1
    rw [hC2, List.getElem?_map] at h2
    obtain ⟨x, hx, ex⟩ := Option.map_eq_some_iff.mp h1
    obtain ⟨y, hy, ey⟩ := Option.map_eq_some_iff.mp h2
    refine ⟨t, x, y, hx, hy, ex.symm, ey.symm, ?_⟩
    have h3 : (w1.map (fun q => q.1))[t]? = (w2.map (fun q => q.1))[t]? := by rw [hA]
    rw [List.getElem?_map, List.getElem?_map, hx, hy] at h3
    exact Option.some.inj h3
  have inR : ∀ k, k ∈ isR → ws'[k]? = ws[k]? := fun k hk => pb_same_at isR ws' ws hR k hk
  have adr : ∀ (k : Nat) (q : Nat × va_E), ws'[k]? = some q → ∃ x, ws[k]? = some x ∧ x.1 = q.1 := by
    intro k q hq
    rcases cov k (List.getElem?_eq_some_iff.mp hq).1 with h | h
    · obtain ⟨t, x, y, -, -, hx, hy, e⟩ := inC k h
      rw [hq] at hy
      cases hy
      exact ⟨x, hx, e⟩
    · exact ⟨q, (inR k h).symm.trans hq, rfl⟩
  constructor
  · intro k q hq
    by_cases hin : k ∈ is
    · obtain ⟨t, x, y, -, h2, -, h4, -⟩ := inC k hin
      rw [hq] at h4
      cases h4
      exact hP1 t q h2
    · have hr : k ∈ isR := (cov k (List.getElem?_eq_some_iff.mp hq).1).resolve_left hin
      have h2 : ws[k]? = some q := (inR k hr).symm.trans hq
      have hat := hP k q h2
      refine hat.kept (hk q.1 hat.lt ?_)
      rintro (⟨t, e, ht⟩ | hz)
      · have h3 : (is.map (fun i => ws[i]?))[t]? = some (some (q.1, e)) := by rw [hC, List.getElem?_map, ht]; rfl
        rw [List.getElem?_map] at h3
        obtain ⟨i, hi, hj⟩ := Option.map_eq_some_iff.mp h3
        have := hD.1 k i q (q.1, e) h2 hj rfl
        subst this
        exact hin (List.mem_of_getElem? hi)
      · exact absurd hat.lt (Nat.not_lt.mpr hz)
  · constructor
    · intro i j a b ha hb hab
      obtain ⟨x, hx, ex⟩ := adr i a ha
      obtain ⟨y, hy, ey⟩ := adr j b hb
      exact hD.1 i j x y hx hy (by rw [ex, ey]; exact hab)
    · intro k q hq
      obtain ⟨x, hx, ex⟩ := adr k q hq
      have := hD.2 k x hx
      rw [ex] at this
      exact this
/-- the contract of a method that makes nothing: in the world w1 it answers r, and leaves the world w2 -/
def pb_Q (D : va_G) (cl : List vw_C) (w1 w2 : va_W) (sz : Nat) (r : Option Value) : Array Value → State → Outcome → State → Prop := fun _ st o t => (o = .returned r ∧ va_P D cl w2 t.heap) ∧ va_F (va_A w1 sz) st t
def pb_B (D : va_G) (cl : List vw_C) (tys : List (ClassId × FieldType)) (X : State → Prop) (w1 : va_W) (sz : Nat) : State → Prop := fun U => U.heap.size = sz ∧ va_P D cl w1 U.heap ∧ va_K D cl tys U ∧ va_D (fun _ => True) w1 ∧ X U
def pb_K (l : Launch) (y : MethodName) (wy : List Cond) (rm : Room) (D : va_G) (cl : List vw_C) (tys : List (ClassId × FieldType)) (X : State → Prop) (av : List Value) (w1 w2 : va_W) (r : Option Value) : Prop :=
  ∀ sz : Nat, Met l y wy rm (va_Pc av (pb_B D cl tys X w1 sz)) (pb_Q D cl w1 w2 sz r) 0 0 (va_A w1 sz)
def pb_MQ (below : List Frame) (args : Array Value) (s : State) (D : va_G) (cl : List vw_C) (w1 w2 : va_W) (r : Option Value) (A : Nat → Prop) : State → Prop := MQ below (pb_Q D cl w1 w2 s.heap.size r) args s 0 0 A
theorem pb_K.ofV {l : Launch} {y : MethodName} {wy ws' : List Cond} {rm : Room} {D : va_G} {cl : List vw_C} {tys : List (ClassId × FieldType)} {X : State → Prop} {av : List Value} {w1 w2 : va_W} {r : Option Value} {cc : ByteArray} {maxL : Nat} {ret : Option FieldType} {lv0 : List (Nat × Value)}
    (hy : plainName y.cls = true) (hw : wy = Cond.code y cc maxL ret :: ws') (hlen : (lg_sl av).length ≤ maxL) (hlv : lv_args 0 av = lv0)
    (body : ∀ (p : Program) (e : Env) (s : State) (m : MethodId) (below : List Frame) (meth : Method) (c : Code) (A : Nat → Prop), pb_Cx p s m av.toArray c cc maxL wy y.cls D cl tys A → X s → meth.sig.returnType = ret → meth.locks = false → (va_A w1 s.heap.size = A) →
      pb_V p l e rm s m av.toArray below meth c maxL D cl A 0 0 (pb_MQ below av.toArray s D cl w1 w2 r A) w1 lv0 [] 0) : pb_K l y wy rm D cl tys X av w1 w2 r := by
  intro sz
  refine Met.ofW (cc := cc) (maxL := maxL) (ret := ret) hy hw ?_
  intro p e s m args below meth c s₁ B hml hv
  obtain ⟨rfl, hsz, hP, hK, hD0, hX⟩ := hv
  subst hsz
  have hts := atoms_spec (ws := wy) B.pre
  have hD := hD0.self (sz := s.heap.size)
  have hl := lv_entry av (n := maxL) hlen
  rw [lg_entry_eq]
  rw [hlv] at hl
  exact body p e s m below meth c (va_A w1 s.heap.size) ⟨⟨B.exec, B.bytes, hml, findClass_of_methodNamed B.named, hts⟩, hK, fun q h => Or.inr h⟩ hX B.returns B.notSynchronized rfl s.heap [] _ hP hD va_S.rf hl
