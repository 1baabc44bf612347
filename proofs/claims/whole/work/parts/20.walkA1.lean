def rmX6_empty : Room := { frames := 0, cells := 0, slots := 0, locals := 0 }
def wwX6_empty (cyB cyI cyJ cyZ cyS : ClassId) (a_t a_t_cells : Nat) (w_t : Int32) (m_t : Int32) (c_t_size : Int32) : va_W := [(a_t, .inr (6, [.int w_t, .int m_t, .ref a_t_cells, .int c_t_size]))]
theorem hnX6_empty_X6 : ∀ w ∈ wsX60, w ∈ wsX6_empty := fun _ h => List.mem_cons_of_mem _ (List.mem_append_right _ h)
set_option maxHeartbeats 4000000 in
set_option maxRecDepth 100000 in
theorem kcX6_empty (l : Launch) (dC : Nat → ClassId) (dI : Nat → Nat → Nat) (cyB cyI cyJ cyZ cyS : ClassId) (a_t a_t_cells : Nat) (w_t : Int32) (m_t : Int32) (c_t_size : Int32) (out : Int32) (hf : fX6_empty w_t m_t c_t_size = some out) : pb_K l yX6_empty wsX6_empty rmX6_empty (dC, dI) vwCl (pb_tys cyB cyI cyJ cyZ cyS) pb_NW [.ref a_t] (wwX6_empty cyB cyI cyJ cyZ cyS a_t a_t_cells w_t m_t c_t_size) (wwX6_empty cyB cyI cyJ cyZ cyS a_t a_t_cells w_t m_t out) none := by
  unfold fX6_empty at hf
  refine pb_K.ofV (cc := cX6_empty) (maxL := 1) (ret := none) (lv0 := [(0, .ref a_t)]) (by decide) rfl (Nat.le_of_ble_eq_true rfl) rfl ?_
  intro p e s m below meth c A C hX hr hlk hA
  refine pb_aload_n (pc := 0) C dX6_empty_0 rfl 0 rfl ?_
  refine pb_iconst (v := 0) (pc := 1) C dX6_empty_1 pb_kI_0 ?_
  refine pb_put (pc := 2) (ws' := (wwX6_empty cyB cyI cyJ cyZ cyS a_t a_t_cells w_t m_t 0)) C hnX6_empty_X6 tyX6 tyX6_ok nmX6 0 rfl rfl 3 (by decide) (List.mem_of_getElem? (i := 1) rfl) rfl rfl rfl rfl (Nat.le_of_ble_eq_true rfl) rfl dX6_empty_2 ?_
  obtain rfl := Option.some.inj hf
  exact pb_vret (pc := 5) C hr hlk hA dX6_empty_5
def rmX5_empty : Room := { frames := 1, cells := 0, slots := 0, locals := 20 }
def wwX5_empty (cyB cyI cyJ cyZ cyS : ClassId) (a_t a_t_laws a_t_finds a_t_bets a_t_prices a_t_stepCells a_t_stepSizes a_t_laws_cells a_t_finds_cells a_t_bets_cells a_t_prices_cells : Nat) (c_t_steps : Int32) (c_t_laws_size : Int32) (c_t_finds_size : Int32) (c_t_bets_size : Int32) (c_t_prices_size : Int32) : va_W := [(a_t, .inr (5, [.ref a_t_laws, .ref a_t_finds, .ref a_t_bets, .ref a_t_prices, .ref a_t_stepCells, .ref a_t_stepSizes, .int c_t_steps])), (a_t_laws, .inr (6, [.int 3, .int 8, .ref a_t_laws_cells, .int c_t_laws_size])), (a_t_finds, .inr (6, [.int 3, .int 10, .ref a_t_finds_cells, .int c_t_finds_size])), (a_t_bets, .inr (6, [.int 5, .int 8, .ref a_t_bets_cells, .int c_t_bets_size])), (a_t_prices, .inr (6, [.int 5, .int 6, .ref a_t_prices_cells, .int c_t_prices_size]))]
theorem hnX5_empty_X5 : ∀ w ∈ wsX50, w ∈ wsX5_empty := fun _ h => List.mem_cons_of_mem _ (List.mem_append_left _ (List.mem_append_right _ h))
set_option maxHeartbeats 4000000 in
set_option maxRecDepth 100000 in
theorem kcX5_empty (l : Launch) (dC : Nat → ClassId) (dI : Nat → Nat → Nat) (cyB cyI cyJ cyZ cyS : ClassId) (a_t a_t_laws a_t_finds a_t_bets a_t_prices a_t_stepCells a_t_stepSizes a_t_laws_cells a_t_finds_cells a_t_bets_cells a_t_prices_cells : Nat) (c_t_steps : Int32) (c_t_laws_size : Int32) (c_t_finds_size : Int32) (c_t_bets_size : Int32) (c_t_prices_size : Int32) (out : (Int32 × Int32 × Int32 × Int32 × Int32)) (hf : fX5_empty c_t_steps c_t_laws_size c_t_finds_size c_t_bets_size c_t_prices_size = some out) : pb_K l yX5_empty wsX5_empty rmX5_empty (dC, dI) vwCl (pb_tys cyB cyI cyJ cyZ cyS) pb_NW [.ref a_t] (wwX5_empty cyB cyI cyJ cyZ cyS a_t a_t_laws a_t_finds a_t_bets a_t_prices a_t_stepCells a_t_stepSizes a_t_laws_cells a_t_finds_cells a_t_bets_cells a_t_prices_cells c_t_steps c_t_laws_size c_t_finds_size c_t_bets_size c_t_prices_size) (wwX5_empty cyB cyI cyJ cyZ cyS a_t a_t_laws a_t_finds a_t_bets a_t_prices a_t_stepCells a_t_stepSizes a_t_laws_cells a_t_finds_cells a_t_bets_cells a_t_prices_cells out.1 out.2.1 out.2.2.1 out.2.2.2.1 out.2.2.2.2) none := by
  unfold fX5_empty at hf
  refine pb_K.ofV (cc := cX5_empty) (maxL := 1) (ret := none) (lv0 := [(0, .ref a_t)]) (by decide) rfl (Nat.le_of_ble_eq_true rfl) rfl ?_
  intro p e s m below meth c A C hX hr hlk hA
  refine pb_aload_n (pc := 0) C dX5_empty_0 rfl 0 rfl ?_
  refine pb_get (pc := 1) C hnX5_empty_X5 0 rfl rfl 0 (by decide) (List.mem_of_getElem? (i := 1) rfl) rfl rfl dX5_empty_1 ?_
  obtain ⟨r4, hr4, hf⟩ := pb_bind hf
  refine pb_callV (pc := 4) (n0 := 5) (ws' := (wwX5_empty cyB cyI cyJ cyZ cyS a_t a_t_laws a_t_finds a_t_bets a_t_prices a_t_stepCells a_t_stepSizes a_t_laws_cells a_t_finds_cells a_t_bets_cells a_t_prices_cells c_t_steps r4 c_t_finds_size c_t_bets_size c_t_prices_size)) (rest := []) (st2 := []) C (kcX6_empty l dC dI cyB cyI cyJ cyZ cyS a_t_laws a_t_laws_cells 3 8 c_t_laws_size r4 hr4) pb_NW_b (pb_NW_x hX) (cwV 0 C.1.2.2.2.2 gX5_empty_X6_empty rfl rfl rfl kdV_X6_empty ⟨Nat.le_of_ble_eq_true rfl, Nat.le_of_ble_eq_true rfl⟩) 0 rfl rfl [1] [0, 2, 3, 4] rfl rfl ⟨⟨_, rfl, rfl⟩, ⟨⟨_, rfl, rfl⟩, ⟨⟨_, rfl, rfl⟩, ⟨⟨_, rfl, rfl⟩, trivial⟩⟩⟩⟩ rfl (by decide +kernel) (adl := [a_t_laws]) rfl rfl rfl rfl rfl (Nat.le_of_ble_eq_true rfl) ⟨Nat.le_refl _, Nat.le_refl _⟩ dX5_empty_4 rfl ?_
  refine pb_aload_n (pc := 7) C dX5_empty_7 rfl 0 rfl ?_
  refine pb_get (pc := 8) C hnX5_empty_X5 0 rfl rfl 1 (by decide) (List.mem_of_getElem? (i := 2) rfl) rfl rfl dX5_empty_8 ?_
  obtain ⟨r11, hr11, hf⟩ := pb_bind hf
  refine pb_callV (pc := 11) (n0 := 5) (ws' := (wwX5_empty cyB cyI cyJ cyZ cyS a_t a_t_laws a_t_finds a_t_bets a_t_prices a_t_stepCells a_t_stepSizes a_t_laws_cells a_t_finds_cells a_t_bets_cells a_t_prices_cells c_t_steps r4 r11 c_t_bets_size c_t_prices_size)) (rest := []) (st2 := []) C (kcX6_empty l dC dI cyB cyI cyJ cyZ cyS a_t_finds a_t_finds_cells 3 10 c_t_finds_size r11 hr11) pb_NW_b (pb_NW_x hX) (cwV 0 C.1.2.2.2.2 gX5_empty_X6_empty rfl rfl rfl kdV_X6_empty ⟨Nat.le_of_ble_eq_true rfl, Nat.le_of_ble_eq_true rfl⟩) 0 rfl rfl [2] [0, 1, 3, 4] rfl rfl ⟨⟨_, rfl, rfl⟩, ⟨⟨_, rfl, rfl⟩, ⟨⟨_, rfl, rfl⟩, ⟨⟨_, rfl, rfl⟩, trivial⟩⟩⟩⟩ rfl (by decide +kernel) (adl := [a_t_finds]) rfl rfl rfl rfl rfl (Nat.le_of_ble_eq_true rfl) ⟨Nat.le_refl _, Nat.le_refl _⟩ dX5_empty_11 rfl ?_
  refine pb_aload_n (pc := 14) C dX5_empty_14 rfl 0 rfl ?_
  refine pb_get (pc := 15) C hnX5_empty_X5 0 rfl rfl 2 (by decide) (List.mem_of_getElem? (i := 3) rfl) rfl rfl dX5_empty_15 ?_
  obtain ⟨r18, hr18, hf⟩ := pb_bind hf
  refine pb_callV (pc := 18) (n0 := 5) (ws' := (wwX5_empty cyB cyI cyJ cyZ cyS a_t a_t_laws a_t_finds a_t_bets a_t_prices a_t_stepCells a_t_stepSizes a_t_laws_cells a_t_finds_cells a_t_bets_cells a_t_prices_cells c_t_steps r4 r11 r18 c_t_prices_size)) (rest := []) (st2 := []) C (kcX6_empty l dC dI cyB cyI cyJ cyZ cyS a_t_bets a_t_bets_cells 5 8 c_t_bets_size r18 hr18) pb_NW_b (pb_NW_x hX) (cwV 0 C.1.2.2.2.2 gX5_empty_X6_empty rfl rfl rfl kdV_X6_empty ⟨Nat.le_of_ble_eq_true rfl, Nat.le_of_ble_eq_true rfl⟩) 0 rfl rfl [3] [0, 1, 2, 4] rfl rfl ⟨⟨_, rfl, rfl⟩, ⟨⟨_, rfl, rfl⟩, ⟨⟨_, rfl, rfl⟩, ⟨⟨_, rfl, rfl⟩, trivial⟩⟩⟩⟩ rfl (by decide +kernel) (adl := [a_t_bets]) rfl rfl rfl rfl rfl (Nat.le_of_ble_eq_true rfl) ⟨Nat.le_refl _, Nat.le_refl _⟩ dX5_empty_18 rfl ?_
  refine pb_aload_n (pc := 21) C dX5_empty_21 rfl 0 rfl ?_
  refine pb_get (pc := 22) C hnX5_empty_X5 0 rfl rfl 3 (by decide) (List.mem_of_getElem? (i := 4) rfl) rfl rfl dX5_empty_22 ?_
  obtain ⟨r25, hr25, hf⟩ := pb_bind hf
  refine pb_callV (pc := 25) (n0 := 5) (ws' := (wwX5_empty cyB cyI cyJ cyZ cyS a_t a_t_laws a_t_finds a_t_bets a_t_prices a_t_stepCells a_t_stepSizes a_t_laws_cells a_t_finds_cells a_t_bets_cells a_t_prices_cells c_t_steps r4 r11 r18 r25)) (rest := []) (st2 := []) C (kcX6_empty l dC dI cyB cyI cyJ cyZ cyS a_t_prices a_t_prices_cells 5 6 c_t_prices_size r25 hr25) pb_NW_b (pb_NW_x hX) (cwV 0 C.1.2.2.2.2 gX5_empty_X6_empty rfl rfl rfl kdV_X6_empty ⟨Nat.le_of_ble_eq_true rfl, Nat.le_of_ble_eq_true rfl⟩) 0 rfl rfl [4] [0, 1, 2, 3] rfl rfl ⟨⟨_, rfl, rfl⟩, ⟨⟨_, rfl, rfl⟩, ⟨⟨_, rfl, rfl⟩, ⟨⟨_, rfl, rfl⟩, trivial⟩⟩⟩⟩ rfl (by decide +kernel) (adl := [a_t_prices]) rfl rfl rfl rfl rfl (Nat.le_of_ble_eq_true rfl) ⟨Nat.le_refl _, Nat.le_refl _⟩ dX5_empty_25 rfl ?_
  refine pb_aload_n (pc := 28) C dX5_empty_28 rfl 0 rfl ?_
  refine pb_iconst (v := 0) (pc := 29) C dX5_empty_29 pb_kI_0 ?_
  refine pb_put (pc := 30) (ws' := (wwX5_empty cyB cyI cyJ cyZ cyS a_t a_t_laws a_t_finds a_t_bets a_t_prices a_t_stepCells a_t_stepSizes a_t_laws_cells a_t_finds_cells a_t_bets_cells a_t_prices_cells 0 r4 r11 r18 r25)) C hnX5_empty_X5 tyX5 tyX5_ok nmX5 0 rfl rfl 6 (by decide) (List.mem_of_getElem? (i := 5) rfl) rfl rfl rfl rfl (Nat.le_of_ble_eq_true rfl) rfl dX5_empty_30 ?_
  obtain rfl := Option.some.inj hf
  exact pb_vret (pc := 33) C hr hlk hA dX5_empty_33
def rmX6_isFull : Room := { frames := 0, cells := 0, slots := 0, locals := 0 }
def wwX6_isFull (cyB cyI cyJ cyZ cyS : ClassId) (a_t a_t_cells : Nat) (w_t : Int32) (m_t : Int32) (c_t_size : Int32) : va_W := [(a_t, .inr (6, [.int w_t, .int m_t, .ref a_t_cells, .int c_t_size]))]
theorem hnX6_isFull_X6 : ∀ w ∈ wsX60, w ∈ wsX6_isFull := fun _ h => List.mem_cons_of_mem _ (List.mem_append_right _ h)
set_option maxHeartbeats 4000000 in
set_option maxRecDepth 100000 in
theorem kcX6_isFull (l : Launch) (dC : Nat → ClassId) (dI : Nat → Nat → Nat) (cyB cyI cyJ cyZ cyS : ClassId) (a_t a_t_cells : Nat) (w_t : Int32) (m_t : Int32) (c_t_size : Int32) (out : Int32) (hf : fX6_isFull w_t m_t c_t_size = some out) : pb_K l yX6_isFull wsX6_isFull rmX6_isFull (dC, dI) vwCl (pb_tys cyB cyI cyJ cyZ cyS) pb_NW [.ref a_t] (wwX6_isFull cyB cyI cyJ cyZ cyS a_t a_t_cells w_t m_t c_t_size) (wwX6_isFull cyB cyI cyJ cyZ cyS a_t a_t_cells w_t m_t c_t_size) (some (.int out)) := by
  unfold fX6_isFull at hf
  refine pb_K.ofV (cc := cX6_isFull) (maxL := 1) (ret := (some .boolean)) (lv0 := [(0, .ref a_t)]) (by decide) rfl (Nat.le_of_ble_eq_true rfl) rfl ?_
  intro p e s m below meth c A C hX hr hlk hA
  refine pb_aload_n (pc := 0) C dX6_isFull_0 rfl 0 rfl ?_
  refine pb_get (pc := 1) C hnX6_isFull_X6 0 rfl rfl 3 (by decide) (List.mem_of_getElem? (i := 1) rfl) rfl rfl dX6_isFull_1 ?_
  refine pb_aload_n (pc := 4) C dX6_isFull_4 rfl 0 rfl ?_
  refine pb_get (pc := 5) C hnX6_isFull_X6 0 rfl rfl 1 (by decide) (List.mem_of_getElem? (i := 2) rfl) rfl rfl dX6_isFull_5 ?_
  refine pb_icmp_lt (pc := 8) (tgt := 15) C dX6_isFull_8 (by decide) (fun hc8 => ?_) (fun hc8 => ?_)
  · have hf := pb_pos hf hc8
    refine pb_iconst (v := 0) (pc := 15) C dX6_isFull_15 pb_kI_0 ?_
    obtain rfl := Option.some.inj hf
    exact pb_zret (pc := 16) C hr hlk hA pb_isB0 dX6_isFull_16
  · have hf := pb_neg hf hc8
    refine pb_iconst (v := 1) (pc := 11) C dX6_isFull_11 pb_kI_1 ?_
    refine pb_goto (pc := 12) (tgt := 16) C dX6_isFull_12 (by decide) ?_
    obtain rfl := Option.some.inj hf
    exact pb_zret (pc := 16) C hr hlk hA pb_isB1 dX6_isFull_16
def rmX6_addThree : Room := { frames := 1, cells := 0, slots := 0, locals := 20 }
def wwX6_addThree (cyB cyI cyJ cyZ cyS : ClassId) (a_t a_t_cells : Nat) (w_t : Int32) (m_t : Int32) (n_t : Nat) (c_t_size : Int32) (c_t_cells : (Nat → Int32)) : va_W := [(a_t, .inr (6, [.int w_t, .int m_t, .ref a_t_cells, .int c_t_size])), (a_t_cells, .inl (cyI, n_t, .inl c_t_cells))]
theorem hnX6_addThree_X6 : ∀ w ∈ wsX60, w ∈ wsX6_addThree := fun _ h => List.mem_cons_of_mem _ (List.mem_append_right _ h)
set_option maxHeartbeats 4000000 in
set_option maxRecDepth 100000 in
theorem kcX6_addThree (l : Launch) (dC : Nat → ClassId) (dI : Nat → Nat → Nat) (cyB cyI cyJ cyZ cyS : ClassId) (a_t a_t_cells : Nat) (w_t : Int32) (m_t : Int32) (n_t : Nat) (c_t_size : Int32) (c_t_cells : (Nat → Int32)) (p1 : Int32) (p2 : Int32) (p3 : Int32) (out : (Int32 × (Nat → Int32))) (hf : fX6_addThree w_t m_t n_t c_t_size c_t_cells p1 p2 p3 = some out) : pb_K l yX6_addThree wsX6_addThree rmX6_addThree (dC, dI) vwCl (pb_tys cyB cyI cyJ cyZ cyS) pb_NW [.ref a_t, .int p1, .int p2, .int p3] (wwX6_addThree cyB cyI cyJ cyZ cyS a_t a_t_cells w_t m_t n_t c_t_size c_t_cells) (wwX6_addThree cyB cyI cyJ cyZ cyS a_t a_t_cells w_t m_t n_t out.1 out.2) none := by
  unfold fX6_addThree at hf
  refine pb_K.ofV (cc := cX6_addThree) (maxL := 5) (ret := none) (lv0 := [(0, .ref a_t), (1, .int p1), (2, .int p2), (3, .int p3)]) (by decide) rfl (Nat.le_of_ble_eq_true rfl) rfl ?_
  intro p e s m below meth c A C hX hr hlk hA
  refine pb_aload_n (pc := 0) C dX6_addThree_0 rfl 0 rfl ?_
  obtain ⟨r1, hr1, hf⟩ := pb_bind hf
  refine pb_callV (pc := 1) (n0 := 2) (ws' := (wwX6_addThree cyB cyI cyJ cyZ cyS a_t a_t_cells w_t m_t n_t c_t_size c_t_cells)) (rest := []) (st2 := [.int r1]) C (kcX6_isFull l dC dI cyB cyI cyJ cyZ cyS a_t a_t_cells w_t m_t c_t_size r1 hr1) pb_NW_b (pb_NW_x hX) (cwV 0 C.1.2.2.2.2 gX6_addThree_X6_isFull rfl rfl rfl kdV_X6_isFull ⟨Nat.le_of_ble_eq_true rfl, Nat.le_of_ble_eq_true rfl⟩) 0 rfl rfl [0] [1] rfl rfl ⟨⟨_, rfl, rfl⟩, trivial⟩ rfl (by decide +kernel) (adl := [a_t]) rfl rfl rfl rfl rfl (Nat.le_of_ble_eq_true rfl) ⟨Nat.le_refl _, Nat.le_refl _⟩ dX6_addThree_1 rfl ?_
  refine pb_if_ne (pc := 4) (tgt := 15) C dX6_addThree_4 (by decide) (fun hc4 => ?_) (fun hc4 => ?_)
  · have hf := pb_neg hf hc4
    obtain rfl := Option.some.inj hf
    exact pb_vret (pc := 15) C hr hlk hA dX6_addThree_15
  · have hf := pb_pos hf hc4
    refine pb_aload_n (pc := 7) C dX6_addThree_7 rfl 0 rfl ?_
    refine pb_get (pc := 8) C hnX6_addThree_X6 0 rfl rfl 0 (by decide) (List.mem_of_getElem? (i := 1) rfl) rfl rfl dX6_addThree_8 ?_
    refine pb_iconst (v := 3) (pc := 11) C dX6_addThree_11 pb_kI_3 ?_
    refine pb_icmp_ge (pc := 12) (tgt := 16) C dX6_addThree_12 (by decide) (fun hc12 => ?_) (fun hc12 => ?_)
    · have hf := pb_pos hf hc12
      refine pb_aload_n (pc := 16) C dX6_addThree_16 rfl 0 rfl ?_
      refine pb_get (pc := 17) C hnX6_addThree_X6 0 rfl rfl 3 (by decide) (List.mem_of_getElem? (i := 2) rfl) rfl rfl dX6_addThree_17 ?_
      refine pb_aload_n (pc := 20) C dX6_addThree_20 rfl 0 rfl ?_
      refine pb_get (pc := 21) C hnX6_addThree_X6 0 rfl rfl 0 (by decide) (List.mem_of_getElem? (i := 1) rfl) rfl rfl dX6_addThree_21 ?_
      refine pb_imul (pc := 24) C dX6_addThree_24 ?_
      obtain ⟨x25, ex25, hf⟩ := pb_bind hf
      have ex25 := Option.some.inj ex25
      refine pb_topi ex25 ?_
      refine pb_istore (lv' := [(4, .int x25), (0, .ref a_t), (1, .int p1), (2, .int p2), (3, .int p3)]) (pc := 25) C dX6_addThree_25 (by decide) rfl ?_
      refine pb_aload_n (pc := 27) C dX6_addThree_27 rfl 1 rfl ?_
      refine pb_get (pc := 28) C hnX6_addThree_X6 0 rfl rfl 2 (by decide) (List.mem_of_getElem? (i := 3) rfl) rfl rfl dX6_addThree_28 ?_
      refine pb_iload (pc := 31) C dX6_addThree_31 0 rfl ?_
      refine pb_iload_n (pc := 33) C dX6_addThree_33 rfl 2 rfl ?_
      obtain ⟨g34, hf⟩ := pb_grd hf
      obtain ⟨u34, eu34, hf⟩ := pb_bind hf
      have eu34 := Option.some.inj eu34
      refine pb_iast (pc := 34) (ws' := (wwX6_addThree cyB cyI cyJ cyZ cyS a_t a_t_cells w_t m_t n_t c_t_size u34)) C 1 1 rfl rfl g34 eu34 rfl dX6_addThree_34 ?_
      refine pb_aload_n (pc := 35) C dX6_addThree_35 rfl 1 rfl ?_
      refine pb_get (pc := 36) C hnX6_addThree_X6 0 rfl rfl 2 (by decide) (List.mem_of_getElem? (i := 3) rfl) rfl rfl dX6_addThree_36 ?_
      refine pb_iload (pc := 39) C dX6_addThree_39 0 rfl ?_
      refine pb_iconst (v := 1) (pc := 41) C dX6_addThree_41 pb_kI_1 ?_
      refine pb_iadd (pc := 42) C dX6_addThree_42 ?_
      refine pb_iload_n (pc := 43) C dX6_addThree_43 rfl 3 rfl ?_
      obtain ⟨g44, hf⟩ := pb_grd hf
      obtain ⟨u44, eu44, hf⟩ := pb_bind hf
      have eu44 := Option.some.inj eu44
      refine pb_iast (pc := 44) (ws' := (wwX6_addThree cyB cyI cyJ cyZ cyS a_t a_t_cells w_t m_t n_t c_t_size u44)) C 1 1 rfl rfl g44 eu44 rfl dX6_addThree_44 ?_
      refine pb_aload_n (pc := 45) C dX6_addThree_45 rfl 1 rfl ?_
      refine pb_get (pc := 46) C hnX6_addThree_X6 0 rfl rfl 2 (by decide) (List.mem_of_getElem? (i := 3) rfl) rfl rfl dX6_addThree_46 ?_
      refine pb_iload (pc := 49) C dX6_addThree_49 0 rfl ?_
      refine pb_iconst (v := 2) (pc := 51) C dX6_addThree_51 pb_kI_2 ?_
      refine pb_iadd (pc := 52) C dX6_addThree_52 ?_
      refine pb_iload_n (pc := 53) C dX6_addThree_53 rfl 4 rfl ?_
      obtain ⟨g54, hf⟩ := pb_grd hf
      obtain ⟨u54, eu54, hf⟩ := pb_bind hf
      have eu54 := Option.some.inj eu54
      refine pb_iast (pc := 54) (ws' := (wwX6_addThree cyB cyI cyJ cyZ cyS a_t a_t_cells w_t m_t n_t c_t_size u54)) C 1 1 rfl rfl g54 eu54 rfl dX6_addThree_54 ?_
      refine pb_aload_n (pc := 55) C dX6_addThree_55 rfl 1 rfl ?_
      refine pb_dup (pc := 56) C dX6_addThree_56 rfl ?_
      refine pb_get (pc := 57) C hnX6_addThree_X6 0 rfl rfl 3 (by decide) (List.mem_of_getElem? (i := 2) rfl) rfl rfl dX6_addThree_57 ?_
      refine pb_iconst (v := 1) (pc := 60) C dX6_addThree_60 pb_kI_1 ?_
      refine pb_iadd (pc := 61) C dX6_addThree_61 ?_
      obtain ⟨x62, ex62, hf⟩ := pb_bind hf
      have ex62 := Option.some.inj ex62
      refine pb_topi ex62 ?_
      refine pb_put (pc := 62) (ws' := (wwX6_addThree cyB cyI cyJ cyZ cyS a_t a_t_cells w_t m_t n_t x62 u54)) C hnX6_addThree_X6 tyX6 tyX6_ok nmX6 0 rfl rfl 3 (by decide) (List.mem_of_getElem? (i := 2) rfl) rfl rfl rfl rfl (Nat.le_of_ble_eq_true rfl) rfl dX6_addThree_62 ?_
      obtain rfl := Option.some.inj hf
      exact pb_vret (pc := 65) C hr hlk hA dX6_addThree_65
    · have hf := pb_neg hf hc12
      obtain rfl := Option.some.inj hf
      exact pb_vret (pc := 15) C hr hlk hA dX6_addThree_15
def rmX5_loseSteps : Room := { frames := 0, cells := 0, slots := 0, locals := 0 }
def wwX5_loseSteps (cyB cyI cyJ cyZ cyS : ClassId) (a_t a_t_laws a_t_finds a_t_bets a_t_prices a_t_stepCells a_t_stepSizes : Nat) (c_t_steps : Int32) : va_W := [(a_t, .inr (5, [.ref a_t_laws, .ref a_t_finds, .ref a_t_bets, .ref a_t_prices, .ref a_t_stepCells, .ref a_t_stepSizes, .int c_t_steps]))]
theorem hnX5_loseSteps_X5 : ∀ w ∈ wsX50, w ∈ wsX5_loseSteps := fun _ h => List.mem_cons_of_mem _ (List.mem_append_right _ h)
set_option maxHeartbeats 4000000 in
set_option maxRecDepth 100000 in
theorem kcX5_loseSteps (l : Launch) (dC : Nat → ClassId) (dI : Nat → Nat → Nat) (cyB cyI cyJ cyZ cyS : ClassId) (a_t a_t_laws a_t_finds a_t_bets a_t_prices a_t_stepCells a_t_stepSizes : Nat) (c_t_steps : Int32) (out : Int32) (hf : fX5_loseSteps c_t_steps = some out) : pb_K l yX5_loseSteps wsX5_loseSteps rmX5_loseSteps (dC, dI) vwCl (pb_tys cyB cyI cyJ cyZ cyS) pb_NW [.ref a_t] (wwX5_loseSteps cyB cyI cyJ cyZ cyS a_t a_t_laws a_t_finds a_t_bets a_t_prices a_t_stepCells a_t_stepSizes c_t_steps) (wwX5_loseSteps cyB cyI cyJ cyZ cyS a_t a_t_laws a_t_finds a_t_bets a_t_prices a_t_stepCells a_t_stepSizes out) none := by
  unfold fX5_loseSteps at hf
  refine pb_K.ofV (cc := cX5_loseSteps) (maxL := 1) (ret := none) (lv0 := [(0, .ref a_t)]) (by decide) rfl (Nat.le_of_ble_eq_true rfl) rfl ?_
  intro p e s m below meth c A C hX hr hlk hA
  refine pb_aload_n (pc := 0) C dX5_loseSteps_0 rfl 0 rfl ?_
  refine pb_iconst (v := 0) (pc := 1) C dX5_loseSteps_1 pb_kI_0 ?_
  refine pb_put (pc := 2) (ws' := (wwX5_loseSteps cyB cyI cyJ cyZ cyS a_t a_t_laws a_t_finds a_t_bets a_t_prices a_t_stepCells a_t_stepSizes 0)) C hnX5_loseSteps_X5 tyX5 tyX5_ok nmX5 0 rfl rfl 6 (by decide) (List.mem_of_getElem? (i := 1) rfl) rfl rfl rfl rfl (Nat.le_of_ble_eq_true rfl) rfl dX5_loseSteps_2 ?_
  obtain rfl := Option.some.inj hf
  exact pb_vret (pc := 5) C hr hlk hA dX5_loseSteps_5
def rmX5_keepStep : Room := { frames := 1, cells := 0, slots := 0, locals := 60 }
def wwX5_keepStep (cyB cyI cyJ cyZ cyS : ClassId) (a_t a_t_laws a_t_finds a_t_bets a_t_prices a_t_stepCells a_t_stepSizes a_t_finds_cells : Nat) (c_t_steps : Int32) (c_t_finds_size : Int32) (c_t_finds_cells : (Nat → Int32)) (c_t_stepCells : (Nat → Int32)) (c_t_stepSizes : (Nat → Int32)) : va_W := [(a_t, .inr (5, [.ref a_t_laws, .ref a_t_finds, .ref a_t_bets, .ref a_t_prices, .ref a_t_stepCells, .ref a_t_stepSizes, .int c_t_steps])), (a_t_finds, .inr (6, [.int 3, .int 10, .ref a_t_finds_cells, .int c_t_finds_size])), (a_t_finds_cells, .inl (cyI, 30, .inl c_t_finds_cells)), (a_t_stepCells, .inl (cyI, 240, .inl c_t_stepCells)), (a_t_stepSizes, .inl (cyI, 8, .inl c_t_stepSizes))]
theorem hnX5_keepStep_X5 : ∀ w ∈ wsX50, w ∈ wsX5_keepStep := fun _ h => List.mem_cons_of_mem _ (List.mem_append_left _ (List.mem_append_right _ h))
theorem hnX5_keepStep_X6 : ∀ w ∈ wsX60, w ∈ wsX5_keepStep := fun _ h => List.mem_cons_of_mem _ (List.mem_append_right _ h)
set_option maxHeartbeats 4000000 in
set_option maxRecDepth 100000 in
theorem kcX5_keepStep (l : Launch) (dC : Nat → ClassId) (dI : Nat → Nat → Nat) (cyB cyI cyJ cyZ cyS : ClassId) (a_t a_t_laws a_t_finds a_t_bets a_t_prices a_t_stepCells a_t_stepSizes a_t_finds_cells : Nat) (c_t_steps : Int32) (c_t_finds_size : Int32) (c_t_finds_cells : (Nat → Int32)) (c_t_stepCells : (Nat → Int32)) (c_t_stepSizes : (Nat → Int32)) (out : (Int32 × (Nat → Int32) × (Nat → Int32))) (hf : fX5_keepStep c_t_steps c_t_finds_size c_t_finds_cells c_t_stepCells c_t_stepSizes = some out) : pb_K l yX5_keepStep wsX5_keepStep rmX5_keepStep (dC, dI) vwCl (pb_tys cyB cyI cyJ cyZ cyS) pb_NW [.ref a_t] (wwX5_keepStep cyB cyI cyJ cyZ cyS a_t a_t_laws a_t_finds a_t_bets a_t_prices a_t_stepCells a_t_stepSizes a_t_finds_cells c_t_steps c_t_finds_size c_t_finds_cells c_t_stepCells c_t_stepSizes) (wwX5_keepStep cyB cyI cyJ cyZ cyS a_t a_t_laws a_t_finds a_t_bets a_t_prices a_t_stepCells a_t_stepSizes a_t_finds_cells out.1 c_t_finds_size c_t_finds_cells out.2.1 out.2.2) none := by
  unfold fX5_keepStep at hf
  refine pb_K.ofV (cc := cX5_keepStep) (maxL := 1) (ret := none) (lv0 := [(0, .ref a_t)]) (by decide) rfl (Nat.le_of_ble_eq_true rfl) rfl ?_
  intro p e s m below meth c A C hX hr hlk hA
  refine pb_aload_n (pc := 0) C dX5_keepStep_0 rfl 0 rfl ?_
  refine pb_get (pc := 1) C hnX5_keepStep_X5 0 rfl rfl 6 (by decide) (List.mem_of_getElem? (i := 1) rfl) rfl rfl dX5_keepStep_1 ?_
  refine pb_bipush (v := 8) (pc := 4) C dX5_keepStep_4 pb_kB_8 ?_
  obtain ⟨y47, hf, hk47⟩ := pb_bind hf
  have J47 : ∀ (j47_c_t_steps : Int32) (j47_c_t_stepCells : (Nat → Int32)) (j47_c_t_stepSizes : (Nat → Int32)), fX5_keepStep_J47 c_t_finds_size c_t_finds_cells j47_c_t_steps j47_c_t_stepCells j47_c_t_stepSizes = some out → pb_V p l e rmX5_keepStep s m (([.ref a_t] : List Value).toArray) below meth c 1 (dC, dI) vwCl A 0 0 (pb_MQ below (([.ref a_t] : List Value).toArray) s (dC, dI) vwCl (wwX5_keepStep cyB cyI cyJ cyZ cyS a_t a_t_laws a_t_finds a_t_bets a_t_prices a_t_stepCells a_t_stepSizes a_t_finds_cells c_t_steps c_t_finds_size c_t_finds_cells c_t_stepCells c_t_stepSizes) (wwX5_keepStep cyB cyI cyJ cyZ cyS a_t a_t_laws a_t_finds a_t_bets a_t_prices a_t_stepCells a_t_stepSizes a_t_finds_cells out.1 c_t_finds_size c_t_finds_cells out.2.1 out.2.2) none A) (wwX5_keepStep cyB cyI cyJ cyZ cyS a_t a_t_laws a_t_finds a_t_bets a_t_prices a_t_stepCells a_t_stepSizes a_t_finds_cells j47_c_t_steps c_t_finds_size c_t_finds_cells j47_c_t_stepCells j47_c_t_stepSizes) [(0, .ref a_t)] [] 47 := by
    intro j47_c_t_steps j47_c_t_stepCells j47_c_t_stepSizes hf
    unfold fX5_keepStep_J47 at hf
    refine pb_aload_n (pc := 47) C dX5_keepStep_47 rfl 0 rfl ?_
    refine pb_get (pc := 48) C hnX5_keepStep_X5 0 rfl rfl 1 (by decide) (List.mem_of_getElem? (i := 8) rfl) rfl rfl dX5_keepStep_48 ?_
    refine pb_get (pc := 51) C hnX5_keepStep_X6 1 rfl rfl 2 (by decide) (List.mem_of_getElem? (i := 9) rfl) rfl rfl dX5_keepStep_51 ?_
    refine pb_iconst (v := 0) (pc := 54) C dX5_keepStep_54 pb_kI_0 ?_
    refine pb_aload_n (pc := 55) C dX5_keepStep_55 rfl 0 rfl ?_
    refine pb_get (pc := 56) C hnX5_keepStep_X5 0 rfl rfl 4 (by decide) (List.mem_of_getElem? (i := 2) rfl) rfl rfl dX5_keepStep_56 ?_
    refine pb_bipush (v := 30) (pc := 59) C dX5_keepStep_59 pb_kB_30 ?_
    refine pb_aload_n (pc := 61) C dX5_keepStep_61 rfl 0 rfl ?_
    refine pb_get (pc := 62) C hnX5_keepStep_X5 0 rfl rfl 6 (by decide) (List.mem_of_getElem? (i := 1) rfl) rfl rfl dX5_keepStep_62 ?_
    refine pb_imul (pc := 65) C dX5_keepStep_65 ?_
    refine pb_bipush (v := 30) (pc := 66) C dX5_keepStep_66 pb_kB_30 ?_
    obtain ⟨g68, hf⟩ := pb_grd hf
    obtain ⟨u68, eu68, hf⟩ := pb_bind hf
    have eu68 := Option.some.inj eu68
    refine pb_copyi (pc := 68) (ws' := (wwX5_keepStep cyB cyI cyJ cyZ cyS a_t a_t_laws a_t_finds a_t_bets a_t_prices a_t_stepCells a_t_stepSizes a_t_finds_cells j47_c_t_steps c_t_finds_size c_t_finds_cells u68 j47_c_t_stepSizes)) C (List.mem_of_getElem? (i := 3) rfl) (List.mem_of_getElem? (i := 4) rfl) (List.mem_of_getElem? (i := 5) rfl) (List.mem_of_getElem? (i := 6) rfl) 2 3 1 rfl rfl rfl g68 eu68 rfl (Nat.le_of_ble_eq_true rfl) (Nat.le_of_ble_eq_true rfl) dX5_keepStep_68 ?_
    refine pb_aload_n (pc := 71) C dX5_keepStep_71 rfl 0 rfl ?_
    refine pb_get (pc := 72) C hnX5_keepStep_X5 0 rfl rfl 5 (by decide) (List.mem_of_getElem? (i := 7) rfl) rfl rfl dX5_keepStep_72 ?_
    refine pb_aload_n (pc := 75) C dX5_keepStep_75 rfl 0 rfl ?_
    refine pb_get (pc := 76) C hnX5_keepStep_X5 0 rfl rfl 6 (by decide) (List.mem_of_getElem? (i := 1) rfl) rfl rfl dX5_keepStep_76 ?_
    refine pb_aload_n (pc := 79) C dX5_keepStep_79 rfl 0 rfl ?_
    refine pb_get (pc := 80) C hnX5_keepStep_X5 0 rfl rfl 1 (by decide) (List.mem_of_getElem? (i := 8) rfl) rfl rfl dX5_keepStep_80 ?_
    refine pb_get (pc := 83) C hnX5_keepStep_X6 1 rfl rfl 3 (by decide) (List.mem_of_getElem? (i := 10) rfl) rfl rfl dX5_keepStep_83 ?_
    obtain ⟨g86, hf⟩ := pb_grd hf
    obtain ⟨u86, eu86, hf⟩ := pb_bind hf
    have eu86 := Option.some.inj eu86
    refine pb_iast (pc := 86) (ws' := (wwX5_keepStep cyB cyI cyJ cyZ cyS a_t a_t_laws a_t_finds a_t_bets a_t_prices a_t_stepCells a_t_stepSizes a_t_finds_cells j47_c_t_steps c_t_finds_size c_t_finds_cells u68 u86)) C 4 1 rfl rfl g86 eu86 rfl dX5_keepStep_86 ?_
    refine pb_aload_n (pc := 87) C dX5_keepStep_87 rfl 0 rfl ?_
    refine pb_dup (pc := 88) C dX5_keepStep_88 rfl ?_
    refine pb_get (pc := 89) C hnX5_keepStep_X5 0 rfl rfl 6 (by decide) (List.mem_of_getElem? (i := 1) rfl) rfl rfl dX5_keepStep_89 ?_
    refine pb_iconst (v := 1) (pc := 92) C dX5_keepStep_92 pb_kI_1 ?_
    refine pb_iadd (pc := 93) C dX5_keepStep_93 ?_
    obtain ⟨x94, ex94, hf⟩ := pb_bind hf
    have ex94 := Option.some.inj ex94
    refine pb_topi ex94 ?_
    refine pb_put (pc := 94) (ws' := (wwX5_keepStep cyB cyI cyJ cyZ cyS a_t a_t_laws a_t_finds a_t_bets a_t_prices a_t_stepCells a_t_stepSizes a_t_finds_cells x94 c_t_finds_size c_t_finds_cells u68 u86)) C hnX5_keepStep_X5 tyX5 tyX5_ok nmX5 0 rfl rfl 6 (by decide) (List.mem_of_getElem? (i := 1) rfl) rfl rfl rfl rfl (Nat.le_of_ble_eq_true rfl) rfl dX5_keepStep_94 ?_
    obtain rfl := Option.some.inj hf
    exact pb_vret (pc := 97) C hr hlk hA dX5_keepStep_97
  refine pb_icmp_lt (pc := 6) (tgt := 47) C dX5_keepStep_6 (by decide) (fun hc6 => ?_) (fun hc6 => ?_)
  · have hf := pb_pos hf hc6
    obtain rfl := Option.some.inj hf
    exact J47 c_t_steps c_t_stepCells c_t_stepSizes hk47
  · have hf := pb_neg hf hc6
    refine pb_aload_n (pc := 9) C dX5_keepStep_9 rfl 0 rfl ?_
    refine pb_get (pc := 10) C hnX5_keepStep_X5 0 rfl rfl 4 (by decide) (List.mem_of_getElem? (i := 2) rfl) rfl rfl dX5_keepStep_10 ?_
    refine pb_bipush (v := 30) (pc := 13) C dX5_keepStep_13 pb_kB_30 ?_
    refine pb_aload_n (pc := 15) C dX5_keepStep_15 rfl 0 rfl ?_
    refine pb_get (pc := 16) C hnX5_keepStep_X5 0 rfl rfl 4 (by decide) (List.mem_of_getElem? (i := 2) rfl) rfl rfl dX5_keepStep_16 ?_
    refine pb_iconst (v := 0) (pc := 19) C dX5_keepStep_19 pb_kI_0 ?_
    refine pb_sipush (v := 210) (pc := 20) C dX5_keepStep_20 pb_kS_210 ?_
    obtain ⟨u23, eu23, hf⟩ := pb_bind hf
    have eu23 := Option.some.inj eu23
    refine pb_copyi (pc := 23) (ws' := (wwX5_keepStep cyB cyI cyJ cyZ cyS a_t a_t_laws a_t_finds a_t_bets a_t_prices a_t_stepCells a_t_stepSizes a_t_finds_cells c_t_steps c_t_finds_size c_t_finds_cells u23 c_t_stepSizes)) C (List.mem_of_getElem? (i := 3) rfl) (List.mem_of_getElem? (i := 4) rfl) (List.mem_of_getElem? (i := 5) rfl) (List.mem_of_getElem? (i := 6) rfl) 3 3 1 rfl rfl rfl pb_cok_30_0_210_240_240 eu23 rfl (Nat.le_of_ble_eq_true rfl) (Nat.le_of_ble_eq_true rfl) dX5_keepStep_23 ?_
    refine pb_aload_n (pc := 26) C dX5_keepStep_26 rfl 0 rfl ?_
    refine pb_get (pc := 27) C hnX5_keepStep_X5 0 rfl rfl 5 (by decide) (List.mem_of_getElem? (i := 7) rfl) rfl rfl dX5_keepStep_27 ?_
    refine pb_iconst (v := 1) (pc := 30) C dX5_keepStep_30 pb_kI_1 ?_
    refine pb_aload_n (pc := 31) C dX5_keepStep_31 rfl 0 rfl ?_
    refine pb_get (pc := 32) C hnX5_keepStep_X5 0 rfl rfl 5 (by decide) (List.mem_of_getElem? (i := 7) rfl) rfl rfl dX5_keepStep_32 ?_
    refine pb_iconst (v := 0) (pc := 35) C dX5_keepStep_35 pb_kI_0 ?_
    refine pb_bipush (v := 7) (pc := 36) C dX5_keepStep_36 pb_kB_7 ?_
    obtain ⟨u38, eu38, hf⟩ := pb_bind hf
    have eu38 := Option.some.inj eu38
    refine pb_copyi (pc := 38) (ws' := (wwX5_keepStep cyB cyI cyJ cyZ cyS a_t a_t_laws a_t_finds a_t_bets a_t_prices a_t_stepCells a_t_stepSizes a_t_finds_cells c_t_steps c_t_finds_size c_t_finds_cells u23 u38)) C (List.mem_of_getElem? (i := 3) rfl) (List.mem_of_getElem? (i := 4) rfl) (List.mem_of_getElem? (i := 5) rfl) (List.mem_of_getElem? (i := 6) rfl) 4 4 1 rfl rfl rfl pb_cok_1_0_7_8_8 eu38 rfl (Nat.le_of_ble_eq_true rfl) (Nat.le_of_ble_eq_true rfl) dX5_keepStep_38 ?_
    refine pb_aload_n (pc := 41) C dX5_keepStep_41 rfl 0 rfl ?_
    refine pb_bipush (v := 7) (pc := 42) C dX5_keepStep_42 pb_kB_7 ?_
    refine pb_put (pc := 44) (ws' := (wwX5_keepStep cyB cyI cyJ cyZ cyS a_t a_t_laws a_t_finds a_t_bets a_t_prices a_t_stepCells a_t_stepSizes a_t_finds_cells 7 c_t_finds_size c_t_finds_cells u23 u38)) C hnX5_keepStep_X5 tyX5 tyX5_ok nmX5 0 rfl rfl 6 (by decide) (List.mem_of_getElem? (i := 1) rfl) rfl rfl rfl rfl (Nat.le_of_ble_eq_true rfl) rfl dX5_keepStep_44 ?_
    obtain rfl := Option.some.inj hf
    exact J47 7 u23 u38 hk47
def rmX6_has : Room := { frames := 0, cells := 0, slots := 0, locals := 0 }
def wwX6_has (cyB cyI cyJ cyZ cyS : ClassId) (a_t a_t_cells : Nat) (w_t : Int32) (m_t : Int32) (c_t_size : Int32) : va_W := [(a_t, .inr (6, [.int w_t, .int m_t, .ref a_t_cells, .int c_t_size]))]
theorem hnX6_has_X6 : ∀ w ∈ wsX60, w ∈ wsX6_has := fun _ h => List.mem_cons_of_mem _ (List.mem_append_right _ h)
set_option maxHeartbeats 4000000 in
set_option maxRecDepth 100000 in
theorem kcX6_has (l : Launch) (dC : Nat → ClassId) (dI : Nat → Nat → Nat) (cyB cyI cyJ cyZ cyS : ClassId) (a_t a_t_cells : Nat) (w_t : Int32) (m_t : Int32) (c_t_size : Int32) (p1 : Int32) (out : Int32) (hf : fX6_has w_t m_t c_t_size p1 = some out) : pb_K l yX6_has wsX6_has rmX6_has (dC, dI) vwCl (pb_tys cyB cyI cyJ cyZ cyS) pb_NW [.ref a_t, .int p1] (wwX6_has cyB cyI cyJ cyZ cyS a_t a_t_cells w_t m_t c_t_size) (wwX6_has cyB cyI cyJ cyZ cyS a_t a_t_cells w_t m_t c_t_size) (some (.int out)) := by
  unfold fX6_has at hf
  refine pb_K.ofV (cc := cX6_has) (maxL := 2) (ret := (some .boolean)) (lv0 := [(0, .ref a_t), (1, .int p1)]) (by decide) rfl (Nat.le_of_ble_eq_true rfl) rfl ?_
  intro p e s m below meth c A C hX hr hlk hA
  refine pb_iload_n (pc := 0) C dX6_has_0 rfl 1 rfl ?_
  refine pb_if_lt (pc := 1) (tgt := 16) C dX6_has_1 (by decide) (fun hc1 => ?_) (fun hc1 => ?_)
  · have hf := pb_pos hf hc1
    refine pb_iconst (v := 0) (pc := 16) C dX6_has_16 pb_kI_0 ?_
    obtain rfl := Option.some.inj hf
    exact pb_zret (pc := 17) C hr hlk hA pb_isB0 dX6_has_17
  · have hf := pb_neg hf hc1
    refine pb_iload_n (pc := 4) C dX6_has_4 rfl 1 rfl ?_
    refine pb_aload_n (pc := 5) C dX6_has_5 rfl 0 rfl ?_
    refine pb_get (pc := 6) C hnX6_has_X6 0 rfl rfl 3 (by decide) (List.mem_of_getElem? (i := 1) rfl) rfl rfl dX6_has_6 ?_
    refine pb_icmp_ge (pc := 9) (tgt := 16) C dX6_has_9 (by decide) (fun hc9 => ?_) (fun hc9 => ?_)
    · have hf := pb_pos hf hc9
      refine pb_iconst (v := 0) (pc := 16) C dX6_has_16 pb_kI_0 ?_
      obtain rfl := Option.some.inj hf
      exact pb_zret (pc := 17) C hr hlk hA pb_isB0 dX6_has_17
    · have hf := pb_neg hf hc9
      refine pb_iconst (v := 1) (pc := 12) C dX6_has_12 pb_kI_1 ?_
      refine pb_goto (pc := 13) (tgt := 17) C dX6_has_13 (by decide) ?_
      obtain rfl := Option.some.inj hf
      exact pb_zret (pc := 17) C hr hlk hA pb_isB1 dX6_has_17
def rmX6_takeOut : Room := { frames := 1, cells := 0, slots := 0, locals := 60 }
def wwX6_takeOut (cyB cyI cyJ cyZ cyS : ClassId) (a_t a_t_cells : Nat) (w_t : Int32) (m_t : Int32) (n_t : Nat) (c_t_size : Int32) (c_t_cells : (Nat → Int32)) : va_W := [(a_t, .inr (6, [.int w_t, .int m_t, .ref a_t_cells, .int c_t_size])), (a_t_cells, .inl (cyI, n_t, .inl c_t_cells))]
theorem hnX6_takeOut_X6 : ∀ w ∈ wsX60, w ∈ wsX6_takeOut := fun _ h => List.mem_cons_of_mem _ (List.mem_append_right _ h)
set_option maxHeartbeats 4000000 in
set_option maxRecDepth 100000 in
theorem kcX6_takeOut (l : Launch) (dC : Nat → ClassId) (dI : Nat → Nat → Nat) (cyB cyI cyJ cyZ cyS : ClassId) (a_t a_t_cells : Nat) (w_t : Int32) (m_t : Int32) (n_t : Nat) (c_t_size : Int32) (c_t_cells : (Nat → Int32)) (p1 : Int32) (out : (Int32 × (Nat → Int32))) (hf : fX6_takeOut w_t m_t n_t c_t_size c_t_cells p1 = some out) : pb_K l yX6_takeOut wsX6_takeOut rmX6_takeOut (dC, dI) vwCl (pb_tys cyB cyI cyJ cyZ cyS) pb_NW [.ref a_t, .int p1] (wwX6_takeOut cyB cyI cyJ cyZ cyS a_t a_t_cells w_t m_t n_t c_t_size c_t_cells) (wwX6_takeOut cyB cyI cyJ cyZ cyS a_t a_t_cells w_t m_t n_t out.1 out.2) none := by
  unfold fX6_takeOut at hf
  refine pb_K.ofV (cc := cX6_takeOut) (maxL := 4) (ret := none) (lv0 := [(0, .ref a_t), (1, .int p1)]) (by decide) rfl (Nat.le_of_ble_eq_true rfl) rfl ?_
  intro p e s m below meth c A C hX hr hlk hA
  refine pb_aload_n (pc := 0) C dX6_takeOut_0 rfl 0 rfl ?_
  refine pb_iload_n (pc := 1) C dX6_takeOut_1 rfl 1 rfl ?_
  obtain ⟨r2, hr2, hf⟩ := pb_bind hf
  refine pb_callV (pc := 2) (n0 := 2) (ws' := (wwX6_takeOut cyB cyI cyJ cyZ cyS a_t a_t_cells w_t m_t n_t c_t_size c_t_cells)) (rest := []) (st2 := [.int r2]) C (kcX6_has l dC dI cyB cyI cyJ cyZ cyS a_t a_t_cells w_t m_t c_t_size p1 r2 hr2) pb_NW_b (pb_NW_x hX) (cwV 1 C.1.2.2.2.2 gX6_takeOut_X6_has rfl rfl rfl kdV_X6_has ⟨Nat.le_of_ble_eq_true rfl, Nat.le_of_ble_eq_true rfl⟩) 0 rfl rfl [0] [1] rfl rfl ⟨⟨_, rfl, rfl⟩, trivial⟩ rfl (by decide +kernel) (adl := [a_t]) rfl rfl rfl rfl rfl (Nat.le_of_ble_eq_true rfl) ⟨Nat.le_refl _, Nat.le_refl _⟩ dX6_takeOut_2 rfl ?_
  refine pb_if_ne (pc := 5) (tgt := 9) C dX6_takeOut_5 (by decide) (fun hc5 => ?_) (fun hc5 => ?_)
  · have hf := pb_neg hf hc5
    refine pb_iload_n (pc := 9) C dX6_takeOut_9 rfl 1 rfl ?_
    refine pb_aload_n (pc := 10) C dX6_takeOut_10 rfl 0 rfl ?_
    refine pb_get (pc := 11) C hnX6_takeOut_X6 0 rfl rfl 0 (by decide) (List.mem_of_getElem? (i := 1) rfl) rfl rfl dX6_takeOut_11 ?_
    refine pb_imul (pc := 14) C dX6_takeOut_14 ?_
    obtain ⟨x15, ex15, hf⟩ := pb_bind hf
    have ex15 := Option.some.inj ex15
    refine pb_topi ex15 ?_
    refine pb_istore_n (lv' := [(2, .int x15), (0, .ref a_t), (1, .int p1)]) (pc := 15) C dX6_takeOut_15 rfl (by decide) rfl ?_
    refine pb_aload_n (pc := 16) C dX6_takeOut_16 rfl 1 rfl ?_
    refine pb_get (pc := 17) C hnX6_takeOut_X6 0 rfl rfl 3 (by decide) (List.mem_of_getElem? (i := 2) rfl) rfl rfl dX6_takeOut_17 ?_
    refine pb_iload_n (pc := 20) C dX6_takeOut_20 rfl 2 rfl ?_
    refine pb_isub (pc := 21) C dX6_takeOut_21 ?_
    refine pb_iconst (v := 1) (pc := 22) C dX6_takeOut_22 pb_kI_1 ?_
    refine pb_isub (pc := 23) C dX6_takeOut_23 ?_
    refine pb_aload_n (pc := 24) C dX6_takeOut_24 rfl 1 rfl ?_
    refine pb_get (pc := 25) C hnX6_takeOut_X6 0 rfl rfl 0 (by decide) (List.mem_of_getElem? (i := 1) rfl) rfl rfl dX6_takeOut_25 ?_
    refine pb_imul (pc := 28) C dX6_takeOut_28 ?_
    obtain ⟨x29, ex29, hf⟩ := pb_bind hf
    have ex29 := Option.some.inj ex29
    refine pb_topi ex29 ?_
    refine pb_istore_n (lv' := [(3, .int x29), (2, .int x15), (0, .ref a_t), (1, .int p1)]) (pc := 29) C dX6_takeOut_29 rfl (by decide) rfl ?_
    refine pb_iload_n (pc := 30) C dX6_takeOut_30 rfl 0 rfl ?_
    obtain ⟨y53, hf, hk53⟩ := pb_bind hf
    have J53 : ∀ (j53_c_t_cells : (Nat → Int32)), fX6_takeOut_J53 c_t_size j53_c_t_cells = some out → pb_V p l e rmX6_takeOut s m (([.ref a_t, .int p1] : List Value).toArray) below meth c 4 (dC, dI) vwCl A 0 0 (pb_MQ below (([.ref a_t, .int p1] : List Value).toArray) s (dC, dI) vwCl (wwX6_takeOut cyB cyI cyJ cyZ cyS a_t a_t_cells w_t m_t n_t c_t_size c_t_cells) (wwX6_takeOut cyB cyI cyJ cyZ cyS a_t a_t_cells w_t m_t n_t out.1 out.2) none A) (wwX6_takeOut cyB cyI cyJ cyZ cyS a_t a_t_cells w_t m_t n_t c_t_size j53_c_t_cells) [(0, .ref a_t)] [] 53 := by
      intro j53_c_t_cells hf
      unfold fX6_takeOut_J53 at hf
      refine pb_aload_n (pc := 53) C dX6_takeOut_53 rfl 0 rfl ?_
      refine pb_dup (pc := 54) C dX6_takeOut_54 rfl ?_
      refine pb_get (pc := 55) C hnX6_takeOut_X6 0 rfl rfl 3 (by decide) (List.mem_of_getElem? (i := 2) rfl) rfl rfl dX6_takeOut_55 ?_
      refine pb_iconst (v := 1) (pc := 58) C dX6_takeOut_58 pb_kI_1 ?_
      refine pb_isub (pc := 59) C dX6_takeOut_59 ?_
      obtain ⟨x60, ex60, hf⟩ := pb_bind hf
      have ex60 := Option.some.inj ex60
      refine pb_topi ex60 ?_
      refine pb_put (pc := 60) (ws' := (wwX6_takeOut cyB cyI cyJ cyZ cyS a_t a_t_cells w_t m_t n_t x60 j53_c_t_cells)) C hnX6_takeOut_X6 tyX6 tyX6_ok nmX6 0 rfl rfl 3 (by decide) (List.mem_of_getElem? (i := 2) rfl) rfl rfl rfl rfl (Nat.le_of_ble_eq_true rfl) rfl dX6_takeOut_60 ?_
      obtain rfl := Option.some.inj hf
      exact pb_vret (pc := 63) C hr hlk hA dX6_takeOut_63
    refine pb_if_le (pc := 31) (tgt := 53) C dX6_takeOut_31 (by decide) (fun hc31 => ?_) (fun hc31 => ?_)
    · have hf := pb_pos hf hc31
      obtain rfl := Option.some.inj hf
      refine pb_sub [2] rfl ?_
      exact J53 c_t_cells hk53
    · have hf := pb_neg hf hc31
      refine pb_aload_n (pc := 34) C dX6_takeOut_34 rfl 2 rfl ?_
      refine pb_get (pc := 35) C hnX6_takeOut_X6 0 rfl rfl 2 (by decide) (List.mem_of_getElem? (i := 3) rfl) rfl rfl dX6_takeOut_35 ?_
      refine pb_iload_n (pc := 38) C dX6_takeOut_38 rfl 1 rfl ?_
      refine pb_aload_n (pc := 39) C dX6_takeOut_39 rfl 2 rfl ?_
      refine pb_get (pc := 40) C hnX6_takeOut_X6 0 rfl rfl 0 (by decide) (List.mem_of_getElem? (i := 1) rfl) rfl rfl dX6_takeOut_40 ?_
      refine pb_iadd (pc := 43) C dX6_takeOut_43 ?_
      refine pb_aload_n (pc := 44) C dX6_takeOut_44 rfl 2 rfl ?_
      refine pb_get (pc := 45) C hnX6_takeOut_X6 0 rfl rfl 2 (by decide) (List.mem_of_getElem? (i := 3) rfl) rfl rfl dX6_takeOut_45 ?_
      refine pb_iload_n (pc := 48) C dX6_takeOut_48 rfl 1 rfl ?_
      refine pb_iload_n (pc := 49) C dX6_takeOut_49 rfl 0 rfl ?_
      obtain ⟨g50, hf⟩ := pb_grd hf
      obtain ⟨u50, eu50, hf⟩ := pb_bind hf
      have eu50 := Option.some.inj eu50
      refine pb_copyi (pc := 50) (ws' := (wwX6_takeOut cyB cyI cyJ cyZ cyS a_t a_t_cells w_t m_t n_t c_t_size u50)) C (List.mem_of_getElem? (i := 4) rfl) (List.mem_of_getElem? (i := 5) rfl) (List.mem_of_getElem? (i := 6) rfl) (List.mem_of_getElem? (i := 7) rfl) 1 1 1 rfl rfl rfl g50 eu50 rfl (Nat.le_of_ble_eq_true rfl) (Nat.le_of_ble_eq_true rfl) dX6_takeOut_50 ?_
      obtain rfl := Option.some.inj hf
      refine pb_sub [2] rfl ?_
      exact J53 u50 hk53
  · have hf := pb_pos hf hc5
    obtain rfl := Option.some.inj hf
    exact pb_vret (pc := 8) C hr hlk hA dX6_takeOut_8
def rmX5_stepBack : Room := { frames := 1, cells := 0, slots := 0, locals := 60 }
def wwX5_stepBack (cyB cyI cyJ cyZ cyS : ClassId) (a_t a_t_laws a_t_finds a_t_bets a_t_prices a_t_stepCells a_t_stepSizes a_t_finds_cells : Nat) (c_t_steps : Int32) (c_t_finds_size : Int32) (c_t_finds_cells : (Nat → Int32)) (c_t_stepCells : (Nat → Int32)) (c_t_stepSizes : (Nat → Int32)) : va_W := [(a_t, .inr (5, [.ref a_t_laws, .ref a_t_finds, .ref a_t_bets, .ref a_t_prices, .ref a_t_stepCells, .ref a_t_stepSizes, .int c_t_steps])), (a_t_finds, .inr (6, [.int 3, .int 10, .ref a_t_finds_cells, .int c_t_finds_size])), (a_t_finds_cells, .inl (cyI, 30, .inl c_t_finds_cells)), (a_t_stepCells, .inl (cyI, 240, .inl c_t_stepCells)), (a_t_stepSizes, .inl (cyI, 8, .inl c_t_stepSizes))]
theorem hnX5_stepBack_X5 : ∀ w ∈ wsX50, w ∈ wsX5_stepBack := fun _ h => List.mem_cons_of_mem _ (List.mem_append_left _ (List.mem_append_right _ h))
theorem hnX5_stepBack_X6 : ∀ w ∈ wsX60, w ∈ wsX5_stepBack := fun _ h => List.mem_cons_of_mem _ (List.mem_append_right _ h)
set_option maxHeartbeats 4000000 in
set_option maxRecDepth 100000 in
theorem kcX5_stepBack (l : Launch) (dC : Nat → ClassId) (dI : Nat → Nat → Nat) (cyB cyI cyJ cyZ cyS : ClassId) (a_t a_t_laws a_t_finds a_t_bets a_t_prices a_t_stepCells a_t_stepSizes a_t_finds_cells : Nat) (c_t_steps : Int32) (c_t_finds_size : Int32) (c_t_finds_cells : (Nat → Int32)) (c_t_stepCells : (Nat → Int32)) (c_t_stepSizes : (Nat → Int32)) (out : (Int32 × Int32 × (Nat → Int32))) (hf : fX5_stepBack c_t_steps c_t_finds_size c_t_finds_cells c_t_stepCells c_t_stepSizes = some out) : pb_K l yX5_stepBack wsX5_stepBack rmX5_stepBack (dC, dI) vwCl (pb_tys cyB cyI cyJ cyZ cyS) pb_NW [.ref a_t] (wwX5_stepBack cyB cyI cyJ cyZ cyS a_t a_t_laws a_t_finds a_t_bets a_t_prices a_t_stepCells a_t_stepSizes a_t_finds_cells c_t_steps c_t_finds_size c_t_finds_cells c_t_stepCells c_t_stepSizes) (wwX5_stepBack cyB cyI cyJ cyZ cyS a_t a_t_laws a_t_finds a_t_bets a_t_prices a_t_stepCells a_t_stepSizes a_t_finds_cells out.1 out.2.1 out.2.2 c_t_stepCells c_t_stepSizes) none := by
  unfold fX5_stepBack at hf
  refine pb_K.ofV (cc := cX5_stepBack) (maxL := 1) (ret := none) (lv0 := [(0, .ref a_t)]) (by decide) rfl (Nat.le_of_ble_eq_true rfl) rfl ?_
  intro p e s m below meth c A C hX hr hlk hA
  refine pb_aload_n (pc := 0) C dX5_stepBack_0 rfl 0 rfl ?_
  refine pb_get (pc := 1) C hnX5_stepBack_X5 0 rfl rfl 6 (by decide) (List.mem_of_getElem? (i := 1) rfl) rfl rfl dX5_stepBack_1 ?_
  refine pb_iconst (v := 1) (pc := 4) C dX5_stepBack_4 pb_kI_1 ?_
  refine pb_icmp_ge (pc := 5) (tgt := 9) C dX5_stepBack_5 (by decide) (fun hc5 => ?_) (fun hc5 => ?_)
  · have hf := pb_pos hf hc5
    refine pb_aload_n (pc := 9) C dX5_stepBack_9 rfl 0 rfl ?_
    refine pb_dup (pc := 10) C dX5_stepBack_10 rfl ?_
    refine pb_get (pc := 11) C hnX5_stepBack_X5 0 rfl rfl 6 (by decide) (List.mem_of_getElem? (i := 1) rfl) rfl rfl dX5_stepBack_11 ?_
    refine pb_iconst (v := 1) (pc := 14) C dX5_stepBack_14 pb_kI_1 ?_
    refine pb_isub (pc := 15) C dX5_stepBack_15 ?_
    obtain ⟨x16, ex16, hf⟩ := pb_bind hf
    have ex16 := Option.some.inj ex16
    refine pb_topi ex16 ?_
    refine pb_put (pc := 16) (ws' := (wwX5_stepBack cyB cyI cyJ cyZ cyS a_t a_t_laws a_t_finds a_t_bets a_t_prices a_t_stepCells a_t_stepSizes a_t_finds_cells x16 c_t_finds_size c_t_finds_cells c_t_stepCells c_t_stepSizes)) C hnX5_stepBack_X5 tyX5 tyX5_ok nmX5 0 rfl rfl 6 (by decide) (List.mem_of_getElem? (i := 1) rfl) rfl rfl rfl rfl (Nat.le_of_ble_eq_true rfl) rfl dX5_stepBack_16 ?_
    refine pb_aload_n (pc := 19) C dX5_stepBack_19 rfl 0 rfl ?_
    refine pb_get (pc := 20) C hnX5_stepBack_X5 0 rfl rfl 4 (by decide) (List.mem_of_getElem? (i := 2) rfl) rfl rfl dX5_stepBack_20 ?_
    refine pb_bipush (v := 30) (pc := 23) C dX5_stepBack_23 pb_kB_30 ?_
    refine pb_aload_n (pc := 25) C dX5_stepBack_25 rfl 0 rfl ?_
    refine pb_get (pc := 26) C hnX5_stepBack_X5 0 rfl rfl 6 (by decide) (List.mem_of_getElem? (i := 1) rfl) rfl rfl dX5_stepBack_26 ?_
    refine pb_imul (pc := 29) C dX5_stepBack_29 ?_
    refine pb_aload_n (pc := 30) C dX5_stepBack_30 rfl 0 rfl ?_
    refine pb_get (pc := 31) C hnX5_stepBack_X5 0 rfl rfl 1 (by decide) (List.mem_of_getElem? (i := 3) rfl) rfl rfl dX5_stepBack_31 ?_
    refine pb_get (pc := 34) C hnX5_stepBack_X6 1 rfl rfl 2 (by decide) (List.mem_of_getElem? (i := 4) rfl) rfl rfl dX5_stepBack_34 ?_
    refine pb_iconst (v := 0) (pc := 37) C dX5_stepBack_37 pb_kI_0 ?_
    refine pb_bipush (v := 30) (pc := 38) C dX5_stepBack_38 pb_kB_30 ?_
    obtain ⟨g40, hf⟩ := pb_grd hf
    obtain ⟨u40, eu40, hf⟩ := pb_bind hf
    have eu40 := Option.some.inj eu40
    refine pb_copyi (pc := 40) (ws' := (wwX5_stepBack cyB cyI cyJ cyZ cyS a_t a_t_laws a_t_finds a_t_bets a_t_prices a_t_stepCells a_t_stepSizes a_t_finds_cells x16 c_t_finds_size u40 c_t_stepCells c_t_stepSizes)) C (List.mem_of_getElem? (i := 5) rfl) (List.mem_of_getElem? (i := 6) rfl) (List.mem_of_getElem? (i := 7) rfl) (List.mem_of_getElem? (i := 8) rfl) 3 2 1 rfl rfl rfl g40 eu40 rfl (Nat.le_of_ble_eq_true rfl) (Nat.le_of_ble_eq_true rfl) dX5_stepBack_40 ?_
    refine pb_aload_n (pc := 43) C dX5_stepBack_43 rfl 0 rfl ?_
    refine pb_get (pc := 44) C hnX5_stepBack_X5 0 rfl rfl 1 (by decide) (List.mem_of_getElem? (i := 3) rfl) rfl rfl dX5_stepBack_44 ?_
    refine pb_aload_n (pc := 47) C dX5_stepBack_47 rfl 0 rfl ?_
    refine pb_get (pc := 48) C hnX5_stepBack_X5 0 rfl rfl 5 (by decide) (List.mem_of_getElem? (i := 9) rfl) rfl rfl dX5_stepBack_48 ?_
    refine pb_aload_n (pc := 51) C dX5_stepBack_51 rfl 0 rfl ?_
    refine pb_get (pc := 52) C hnX5_stepBack_X5 0 rfl rfl 6 (by decide) (List.mem_of_getElem? (i := 1) rfl) rfl rfl dX5_stepBack_52 ?_
    obtain ⟨g55, hf⟩ := pb_grd hf
    refine pb_iald (pc := 55) C 4 1 rfl rfl g55 dX5_stepBack_55 ?_
    obtain ⟨x56, ex56, hf⟩ := pb_bind hf
    have ex56 := Option.some.inj ex56
    refine pb_topi ex56 ?_
    refine pb_put (pc := 56) (ws' := (wwX5_stepBack cyB cyI cyJ cyZ cyS a_t a_t_laws a_t_finds a_t_bets a_t_prices a_t_stepCells a_t_stepSizes a_t_finds_cells x16 x56 u40 c_t_stepCells c_t_stepSizes)) C hnX5_stepBack_X6 tyX6 tyX6_ok nmX6 1 rfl rfl 3 (by decide) (List.mem_of_getElem? (i := 10) rfl) rfl rfl rfl rfl (Nat.le_of_ble_eq_true rfl) rfl dX5_stepBack_56 ?_
    obtain rfl := Option.some.inj hf
    exact pb_vret (pc := 59) C hr hlk hA dX5_stepBack_59
  · have hf := pb_neg hf hc5
    obtain rfl := Option.some.inj hf
    exact pb_vret (pc := 8) C hr hlk hA dX5_stepBack_8
def rmX6_addFive : Room := { frames := 2, cells := 0, slots := 0, locals := 44 }
def wwX6_addFive (cyB cyI cyJ cyZ cyS : ClassId) (a_t a_t_cells : Nat) (w_t : Int32) (m_t : Int32) (n_t : Nat) (c_t_size : Int32) (c_t_cells : (Nat → Int32)) : va_W := [(a_t, .inr (6, [.int w_t, .int m_t, .ref a_t_cells, .int c_t_size])), (a_t_cells, .inl (cyI, n_t, .inl c_t_cells))]
theorem hnX6_addFive_X6 : ∀ w ∈ wsX60, w ∈ wsX6_addFive := fun _ h => List.mem_cons_of_mem _ (List.mem_append_right _ h)
set_option maxHeartbeats 4000000 in
set_option maxRecDepth 100000 in
theorem kcX6_addFive (l : Launch) (dC : Nat → ClassId) (dI : Nat → Nat → Nat) (cyB cyI cyJ cyZ cyS : ClassId) (a_t a_t_cells : Nat) (w_t : Int32) (m_t : Int32) (n_t : Nat) (c_t_size : Int32) (c_t_cells : (Nat → Int32)) (p1 : Int32) (p2 : Int32) (p3 : Int32) (p4 : Int32) (p5 : Int32) (out : (Int32 × (Nat → Int32))) (hf : fX6_addFive w_t m_t n_t c_t_size c_t_cells p1 p2 p3 p4 p5 = some out) : pb_K l yX6_addFive wsX6_addFive rmX6_addFive (dC, dI) vwCl (pb_tys cyB cyI cyJ cyZ cyS) pb_NW [.ref a_t, .int p1, .int p2, .int p3, .int p4, .int p5] (wwX6_addFive cyB cyI cyJ cyZ cyS a_t a_t_cells w_t m_t n_t c_t_size c_t_cells) (wwX6_addFive cyB cyI cyJ cyZ cyS a_t a_t_cells w_t m_t n_t out.1 out.2) none := by
  unfold fX6_addFive at hf
  refine pb_K.ofV (cc := cX6_addFive) (maxL := 7) (ret := none) (lv0 := [(0, .ref a_t), (1, .int p1), (2, .int p2), (3, .int p3), (4, .int p4), (5, .int p5)]) (by decide) rfl (Nat.le_of_ble_eq_true rfl) rfl ?_
  intro p e s m below meth c A C hX hr hlk hA
  refine pb_aload_n (pc := 0) C dX6_addFive_0 rfl 0 rfl ?_
  obtain ⟨r1, hr1, hf⟩ := pb_bind hf
  refine pb_callV (pc := 1) (n0 := 2) (ws' := (wwX6_addFive cyB cyI cyJ cyZ cyS a_t a_t_cells w_t m_t n_t c_t_size c_t_cells)) (rest := []) (st2 := [.int r1]) C (kcX6_isFull l dC dI cyB cyI cyJ cyZ cyS a_t a_t_cells w_t m_t c_t_size r1 hr1) pb_NW_b (pb_NW_x hX) (cwV 0 C.1.2.2.2.2 gX6_addFive_X6_isFull rfl rfl rfl kdV_X6_isFull ⟨Nat.le_of_ble_eq_true rfl, Nat.le_of_ble_eq_true rfl⟩) 0 rfl rfl [0] [1] rfl rfl ⟨⟨_, rfl, rfl⟩, trivial⟩ rfl (by decide +kernel) (adl := [a_t]) rfl rfl rfl rfl rfl (Nat.le_of_ble_eq_true rfl) ⟨Nat.le_refl _, Nat.le_refl _⟩ dX6_addFive_1 rfl ?_
  refine pb_if_ne (pc := 4) (tgt := 15) C dX6_addFive_4 (by decide) (fun hc4 => ?_) (fun hc4 => ?_)
  · have hf := pb_neg hf hc4
    obtain rfl := Option.some.inj hf
    exact pb_vret (pc := 15) C hr hlk hA dX6_addFive_15
  · have hf := pb_pos hf hc4
    refine pb_aload_n (pc := 7) C dX6_addFive_7 rfl 0 rfl ?_
    refine pb_get (pc := 8) C hnX6_addFive_X6 0 rfl rfl 0 (by decide) (List.mem_of_getElem? (i := 1) rfl) rfl rfl dX6_addFive_8 ?_
    refine pb_iconst (v := 5) (pc := 11) C dX6_addFive_11 pb_kI_5 ?_
    refine pb_icmp_ge (pc := 12) (tgt := 16) C dX6_addFive_12 (by decide) (fun hc12 => ?_) (fun hc12 => ?_)
    · have hf := pb_pos hf hc12
      refine pb_aload_n (pc := 16) C dX6_addFive_16 rfl 0 rfl ?_
      refine pb_get (pc := 17) C hnX6_addFive_X6 0 rfl rfl 3 (by decide) (List.mem_of_getElem? (i := 2) rfl) rfl rfl dX6_addFive_17 ?_
      refine pb_aload_n (pc := 20) C dX6_addFive_20 rfl 0 rfl ?_
      refine pb_get (pc := 21) C hnX6_addFive_X6 0 rfl rfl 0 (by decide) (List.mem_of_getElem? (i := 1) rfl) rfl rfl dX6_addFive_21 ?_
      refine pb_imul (pc := 24) C dX6_addFive_24 ?_
      obtain ⟨x25, ex25, hf⟩ := pb_bind hf
      have ex25 := Option.some.inj ex25
      refine pb_topi ex25 ?_
      refine pb_istore (lv' := [(6, .int x25), (0, .ref a_t), (1, .int p1), (2, .int p2), (3, .int p3), (4, .int p4), (5, .int p5)]) (pc := 25) C dX6_addFive_25 (by decide) rfl ?_
      refine pb_aload_n (pc := 27) C dX6_addFive_27 rfl 1 rfl ?_
      refine pb_iload_n (pc := 28) C dX6_addFive_28 rfl 2 rfl ?_
      refine pb_iload_n (pc := 29) C dX6_addFive_29 rfl 3 rfl ?_
      refine pb_iload_n (pc := 30) C dX6_addFive_30 rfl 4 rfl ?_
      obtain ⟨r31, hr31, hf⟩ := pb_bind hf
      refine pb_callV (pc := 31) (n0 := 2) (ws' := (wwX6_addFive cyB cyI cyJ cyZ cyS a_t a_t_cells w_t m_t n_t r31.1 r31.2)) (rest := []) (st2 := []) C (kcX6_addThree l dC dI cyB cyI cyJ cyZ cyS a_t a_t_cells w_t m_t n_t c_t_size c_t_cells p1 p2 p3 r31 hr31) pb_NW_b (pb_NW_x hX) (cwV 3 C.1.2.2.2.2 gX6_addFive_X6_addThree rfl rfl rfl kdV_X6_addThree ⟨Nat.le_of_ble_eq_true rfl, Nat.le_of_ble_eq_true rfl⟩) 0 rfl rfl [0, 1] [] rfl rfl trivial rfl (by decide +kernel) (adl := [a_t, a_t_cells]) rfl rfl rfl rfl rfl (Nat.le_of_ble_eq_true rfl) ⟨Nat.le_refl _, Nat.le_refl _⟩ dX6_addFive_31 rfl ?_
      refine pb_aload_n (pc := 34) C dX6_addFive_34 rfl 1 rfl ?_
      refine pb_get (pc := 35) C hnX6_addFive_X6 0 rfl rfl 2 (by decide) (List.mem_of_getElem? (i := 3) rfl) rfl rfl dX6_addFive_35 ?_
      refine pb_iload (pc := 38) C dX6_addFive_38 0 rfl ?_
      refine pb_iconst (v := 3) (pc := 40) C dX6_addFive_40 pb_kI_3 ?_
      refine pb_iadd (pc := 41) C dX6_addFive_41 ?_
      refine pb_iload (pc := 42) C dX6_addFive_42 5 rfl ?_
      obtain ⟨g44, hf⟩ := pb_grd hf
      obtain ⟨u44, eu44, hf⟩ := pb_bind hf
      have eu44 := Option.some.inj eu44
      refine pb_iast (pc := 44) (ws' := (wwX6_addFive cyB cyI cyJ cyZ cyS a_t a_t_cells w_t m_t n_t r31.1 u44)) C 1 1 rfl rfl g44 eu44 rfl dX6_addFive_44 ?_
      refine pb_aload_n (pc := 45) C dX6_addFive_45 rfl 1 rfl ?_
      refine pb_get (pc := 46) C hnX6_addFive_X6 0 rfl rfl 2 (by decide) (List.mem_of_getElem? (i := 3) rfl) rfl rfl dX6_addFive_46 ?_
      refine pb_iload (pc := 49) C dX6_addFive_49 0 rfl ?_
      refine pb_iconst (v := 4) (pc := 51) C dX6_addFive_51 pb_kI_4 ?_
      refine pb_iadd (pc := 52) C dX6_addFive_52 ?_
      refine pb_iload (pc := 53) C dX6_addFive_53 6 rfl ?_
      obtain ⟨g55, hf⟩ := pb_grd hf
      obtain ⟨u55, eu55, hf⟩ := pb_bind hf
      have eu55 := Option.some.inj eu55
      refine pb_iast (pc := 55) (ws' := (wwX6_addFive cyB cyI cyJ cyZ cyS a_t a_t_cells w_t m_t n_t r31.1 u55)) C 1 1 rfl rfl g55 eu55 rfl dX6_addFive_55 ?_
      obtain rfl := Option.some.inj hf
      exact pb_vret (pc := 56) C hr hlk hA dX6_addFive_56
    · have hf := pb_neg hf hc12
      obtain rfl := Option.some.inj hf
      exact pb_vret (pc := 15) C hr hlk hA dX6_addFive_15
def rmX6_takeOver : Room := { frames := 1, cells := 0, slots := 0, locals := 60 }
def wwX6_takeOver (cyB cyI cyJ cyZ cyS : ClassId) (a_t a_t_cells a_p1 a_p1_cells : Nat) (w_t : Int32) (m_t : Int32) (n_t : Nat) (w_p1 : Int32) (m_p1 : Int32) (n_p1 : Nat) (c_t_size : Int32) (c_t_cells : (Nat → Int32)) (c_p1_size : Int32) (c_p1_cells : (Nat → Int32)) : va_W := [(a_t, .inr (6, [.int w_t, .int m_t, .ref a_t_cells, .int c_t_size])), (a_t_cells, .inl (cyI, n_t, .inl c_t_cells)), (a_p1, .inr (6, [.int w_p1, .int m_p1, .ref a_p1_cells, .int c_p1_size])), (a_p1_cells, .inl (cyI, n_p1, .inl c_p1_cells))]
theorem hnX6_takeOver_X6 : ∀ w ∈ wsX60, w ∈ wsX6_takeOver := fun _ h => List.mem_cons_of_mem _ (List.mem_append_right _ h)
set_option maxHeartbeats 4000000 in
set_option maxRecDepth 100000 in
theorem kcX6_takeOver (l : Launch) (dC : Nat → ClassId) (dI : Nat → Nat → Nat) (cyB cyI cyJ cyZ cyS : ClassId) (a_t a_t_cells a_p1 a_p1_cells : Nat) (w_t : Int32) (m_t : Int32) (n_t : Nat) (w_p1 : Int32) (m_p1 : Int32) (n_p1 : Nat) (c_t_size : Int32) (c_t_cells : (Nat → Int32)) (c_p1_size : Int32) (c_p1_cells : (Nat → Int32)) (out : (Int32 × (Nat → Int32))) (hf : fX6_takeOver w_t m_t n_t w_p1 m_p1 n_p1 c_t_size c_t_cells c_p1_size c_p1_cells = some out) : pb_K l yX6_takeOver wsX6_takeOver rmX6_takeOver (dC, dI) vwCl (pb_tys cyB cyI cyJ cyZ cyS) pb_NW [.ref a_t, .ref a_p1] (wwX6_takeOver cyB cyI cyJ cyZ cyS a_t a_t_cells a_p1 a_p1_cells w_t m_t n_t w_p1 m_p1 n_p1 c_t_size c_t_cells c_p1_size c_p1_cells) (wwX6_takeOver cyB cyI cyJ cyZ cyS a_t a_t_cells a_p1 a_p1_cells w_t m_t n_t w_p1 m_p1 n_p1 out.1 out.2 c_p1_size c_p1_cells) none := by
  unfold fX6_takeOver at hf
  refine pb_K.ofV (cc := cX6_takeOver) (maxL := 2) (ret := none) (lv0 := [(0, .ref a_t), (1, .ref a_p1)]) (by decide) rfl (Nat.le_of_ble_eq_true rfl) rfl ?_
  intro p e s m below meth c A C hX hr hlk hA
  refine pb_aload_n (pc := 0) C dX6_takeOver_0 rfl 1 rfl ?_
  refine pb_get (pc := 1) C hnX6_takeOver_X6 2 rfl rfl 2 (by decide) (List.mem_of_getElem? (i := 1) rfl) rfl rfl dX6_takeOver_1 ?_
  refine pb_alen (pc := 4) (v := Int32.ofNat n_p1) C 3 1 rfl rfl rfl dX6_takeOver_4 ?_
  refine pb_aload_n (pc := 5) C dX6_takeOver_5 rfl 0 rfl ?_
  refine pb_get (pc := 6) C hnX6_takeOver_X6 0 rfl rfl 2 (by decide) (List.mem_of_getElem? (i := 1) rfl) rfl rfl dX6_takeOver_6 ?_
  refine pb_alen (pc := 9) (v := Int32.ofNat n_t) C 1 1 rfl rfl rfl dX6_takeOver_9 ?_
  refine pb_icmp_eq (pc := 10) (tgt := 14) C dX6_takeOver_10 (by decide) (fun hc10 => ?_) (fun hc10 => ?_)
  · have hf := pb_pos hf hc10
    refine pb_aload_n (pc := 14) C dX6_takeOver_14 rfl 1 rfl ?_
    refine pb_get (pc := 15) C hnX6_takeOver_X6 2 rfl rfl 2 (by decide) (List.mem_of_getElem? (i := 1) rfl) rfl rfl dX6_takeOver_15 ?_
    refine pb_iconst (v := 0) (pc := 18) C dX6_takeOver_18 pb_kI_0 ?_
    refine pb_aload_n (pc := 19) C dX6_takeOver_19 rfl 0 rfl ?_
    refine pb_get (pc := 20) C hnX6_takeOver_X6 0 rfl rfl 2 (by decide) (List.mem_of_getElem? (i := 1) rfl) rfl rfl dX6_takeOver_20 ?_
    refine pb_iconst (v := 0) (pc := 23) C dX6_takeOver_23 pb_kI_0 ?_
    refine pb_aload_n (pc := 24) C dX6_takeOver_24 rfl 0 rfl ?_
    refine pb_get (pc := 25) C hnX6_takeOver_X6 0 rfl rfl 2 (by decide) (List.mem_of_getElem? (i := 1) rfl) rfl rfl dX6_takeOver_25 ?_
    refine pb_alen (pc := 28) (v := Int32.ofNat n_t) C 1 1 rfl rfl rfl dX6_takeOver_28 ?_
    obtain ⟨g29, hf⟩ := pb_grd hf
    obtain ⟨u29, eu29, hf⟩ := pb_bind hf
    have eu29 := Option.some.inj eu29
    refine pb_copyi (pc := 29) (ws' := (wwX6_takeOver cyB cyI cyJ cyZ cyS a_t a_t_cells a_p1 a_p1_cells w_t m_t n_t w_p1 m_p1 n_p1 c_t_size u29 c_p1_size c_p1_cells)) C (List.mem_of_getElem? (i := 2) rfl) (List.mem_of_getElem? (i := 3) rfl) (List.mem_of_getElem? (i := 4) rfl) (List.mem_of_getElem? (i := 5) rfl) 3 1 1 rfl rfl rfl g29 eu29 rfl (Nat.le_of_ble_eq_true rfl) (Nat.le_of_ble_eq_true rfl) dX6_takeOver_29 ?_
    refine pb_aload_n (pc := 32) C dX6_takeOver_32 rfl 0 rfl ?_
    refine pb_aload_n (pc := 33) C dX6_takeOver_33 rfl 1 rfl ?_
    refine pb_get (pc := 34) C hnX6_takeOver_X6 2 rfl rfl 3 (by decide) (List.mem_of_getElem? (i := 6) rfl) rfl rfl dX6_takeOver_34 ?_
    refine pb_put (pc := 37) (ws' := (wwX6_takeOver cyB cyI cyJ cyZ cyS a_t a_t_cells a_p1 a_p1_cells w_t m_t n_t w_p1 m_p1 n_p1 c_p1_size u29 c_p1_size c_p1_cells)) C hnX6_takeOver_X6 tyX6 tyX6_ok nmX6 0 rfl rfl 3 (by decide) (List.mem_of_getElem? (i := 6) rfl) rfl rfl rfl rfl (Nat.le_of_ble_eq_true rfl) rfl dX6_takeOver_37 ?_
    obtain rfl := Option.some.inj hf
    exact pb_vret (pc := 40) C hr hlk hA dX6_takeOver_40
  · have hf := pb_neg hf hc10
    obtain rfl := Option.some.inj hf
    exact pb_vret (pc := 13) C hr hlk hA dX6_takeOver_13
def rmX5_takeOver : Room := { frames := 2, cells := 0, slots := 0, locals := 81 }
def wwX5_takeOver (cyB cyI cyJ cyZ cyS : ClassId) (a_t a_t_laws a_t_finds a_t_bets a_t_prices a_t_stepCells a_t_stepSizes a_t_laws_cells a_t_finds_cells a_t_bets_cells a_t_prices_cells a_p1 a_p1_laws a_p1_finds a_p1_bets a_p1_prices a_p1_stepCells a_p1_stepSizes a_p1_laws_cells a_p1_finds_cells a_p1_bets_cells a_p1_prices_cells : Nat) (c_t_steps : Int32) (c_t_laws_size : Int32) (c_t_laws_cells : (Nat → Int32)) (c_t_finds_size : Int32) (c_t_finds_cells : (Nat → Int32)) (c_t_bets_size : Int32) (c_t_bets_cells : (Nat → Int32)) (c_t_prices_size : Int32) (c_t_prices_cells : (Nat → Int32)) (c_t_stepCells : (Nat → Int32)) (c_t_stepSizes : (Nat → Int32)) (c_p1_steps : Int32) (c_p1_laws_size : Int32) (c_p1_laws_cells : (Nat → Int32)) (c_p1_finds_size : Int32) (c_p1_finds_cells : (Nat → Int32)) (c_p1_bets_size : Int32) (c_p1_bets_cells : (Nat → Int32)) (c_p1_prices_size : Int32) (c_p1_prices_cells : (Nat → Int32)) (c_p1_stepCells : (Nat → Int32)) (c_p1_stepSizes : (Nat → Int32)) : va_W := [(a_t, .inr (5, [.ref a_t_laws, .ref a_t_finds, .ref a_t_bets, .ref a_t_prices, .ref a_t_stepCells, .ref a_t_stepSizes, .int c_t_steps])), (a_t_laws, .inr (6, [.int 3, .int 8, .ref a_t_laws_cells, .int c_t_laws_size])), (a_t_laws_cells, .inl (cyI, 24, .inl c_t_laws_cells)), (a_t_finds, .inr (6, [.int 3, .int 10, .ref a_t_finds_cells, .int c_t_finds_size])), (a_t_finds_cells, .inl (cyI, 30, .inl c_t_finds_cells)), (a_t_bets, .inr (6, [.int 5, .int 8, .ref a_t_bets_cells, .int c_t_bets_size])), (a_t_bets_cells, .inl (cyI, 40, .inl c_t_bets_cells)), (a_t_prices, .inr (6, [.int 5, .int 6, .ref a_t_prices_cells, .int c_t_prices_size])), (a_t_prices_cells, .inl (cyI, 30, .inl c_t_prices_cells)), (a_t_stepCells, .inl (cyI, 240, .inl c_t_stepCells)), (a_t_stepSizes, .inl (cyI, 8, .inl c_t_stepSizes)), (a_p1, .inr (5, [.ref a_p1_laws, .ref a_p1_finds, .ref a_p1_bets, .ref a_p1_prices, .ref a_p1_stepCells, .ref a_p1_stepSizes, .int c_p1_steps])), (a_p1_laws, .inr (6, [.int 3, .int 8, .ref a_p1_laws_cells, .int c_p1_laws_size])), (a_p1_laws_cells, .inl (cyI, 24, .inl c_p1_laws_cells)), (a_p1_finds, .inr (6, [.int 3, .int 10, .ref a_p1_finds_cells, .int c_p1_finds_size])), (a_p1_finds_cells, .inl (cyI, 30, .inl c_p1_finds_cells)), (a_p1_bets, .inr (6, [.int 5, .int 8, .ref a_p1_bets_cells, .int c_p1_bets_size])), (a_p1_bets_cells, .inl (cyI, 40, .inl c_p1_bets_cells)), (a_p1_prices, .inr (6, [.int 5, .int 6, .ref a_p1_prices_cells, .int c_p1_prices_size])), (a_p1_prices_cells, .inl (cyI, 30, .inl c_p1_prices_cells)), (a_p1_stepCells, .inl (cyI, 240, .inl c_p1_stepCells)), (a_p1_stepSizes, .inl (cyI, 8, .inl c_p1_stepSizes))]
theorem hnX5_takeOver_X5 : ∀ w ∈ wsX50, w ∈ wsX5_takeOver := fun _ h => List.mem_cons_of_mem _ (List.mem_append_left _ (List.mem_append_right _ h))
set_option maxHeartbeats 4000000 in
set_option maxRecDepth 100000 in
theorem kcX5_takeOver (l : Launch) (dC : Nat → ClassId) (dI : Nat → Nat → Nat) (cyB cyI cyJ cyZ cyS : ClassId) (a_t a_t_laws a_t_finds a_t_bets a_t_prices a_t_stepCells a_t_stepSizes a_t_laws_cells a_t_finds_cells a_t_bets_cells a_t_prices_cells a_p1 a_p1_laws a_p1_finds a_p1_bets a_p1_prices a_p1_stepCells a_p1_stepSizes a_p1_laws_cells a_p1_finds_cells a_p1_bets_cells a_p1_prices_cells : Nat) (c_t_steps : Int32) (c_t_laws_size : Int32) (c_t_laws_cells : (Nat → Int32)) (c_t_finds_size : Int32) (c_t_finds_cells : (Nat → Int32)) (c_t_bets_size : Int32) (c_t_bets_cells : (Nat → Int32)) (c_t_prices_size : Int32) (c_t_prices_cells : (Nat → Int32)) (c_t_stepCells : (Nat → Int32)) (c_t_stepSizes : (Nat → Int32)) (c_p1_steps : Int32) (c_p1_laws_size : Int32) (c_p1_laws_cells : (Nat → Int32)) (c_p1_finds_size : Int32) (c_p1_finds_cells : (Nat → Int32)) (c_p1_bets_size : Int32) (c_p1_bets_cells : (Nat → Int32)) (c_p1_prices_size : Int32) (c_p1_prices_cells : (Nat → Int32)) (c_p1_stepCells : (Nat → Int32)) (c_p1_stepSizes : (Nat → Int32)) (out : (Int32 × Int32 × (Nat → Int32) × Int32 × (Nat → Int32) × Int32 × (Nat → Int32) × Int32 × (Nat → Int32) × (Nat → Int32) × (Nat → Int32))) (hf : fX5_takeOver c_t_steps c_t_laws_size c_t_laws_cells c_t_finds_size c_t_finds_cells c_t_bets_size c_t_bets_cells c_t_prices_size c_t_prices_cells c_t_stepCells c_t_stepSizes c_p1_steps c_p1_laws_size c_p1_laws_cells c_p1_finds_size c_p1_finds_cells c_p1_bets_size c_p1_bets_cells c_p1_prices_size c_p1_prices_cells c_p1_stepCells c_p1_stepSizes = some out) : pb_K l yX5_takeOver wsX5_takeOver rmX5_takeOver (dC, dI) vwCl (pb_tys cyB cyI cyJ cyZ cyS) pb_NW [.ref a_t, .ref a_p1] (wwX5_takeOver cyB cyI cyJ cyZ cyS a_t a_t_laws a_t_finds a_t_bets a_t_prices a_t_stepCells a_t_stepSizes a_t_laws_cells a_t_finds_cells a_t_bets_cells a_t_prices_cells a_p1 a_p1_laws a_p1_finds a_p1_bets a_p1_prices a_p1_stepCells a_p1_stepSizes a_p1_laws_cells a_p1_finds_cells a_p1_bets_cells a_p1_prices_cells c_t_steps c_t_laws_size c_t_laws_cells c_t_finds_size c_t_finds_cells c_t_bets_size c_t_bets_cells c_t_prices_size c_t_prices_cells c_t_stepCells c_t_stepSizes c_p1_steps c_p1_laws_size c_p1_laws_cells c_p1_finds_size c_p1_finds_cells c_p1_bets_size c_p1_bets_cells c_p1_prices_size c_p1_prices_cells c_p1_stepCells c_p1_stepSizes) (wwX5_takeOver cyB cyI cyJ cyZ cyS a_t a_t_laws a_t_finds a_t_bets a_t_prices a_t_stepCells a_t_stepSizes a_t_laws_cells a_t_finds_cells a_t_bets_cells a_t_prices_cells a_p1 a_p1_laws a_p1_finds a_p1_bets a_p1_prices a_p1_stepCells a_p1_stepSizes a_p1_laws_cells a_p1_finds_cells a_p1_bets_cells a_p1_prices_cells out.1 out.2.1 out.2.2.1 out.2.2.2.1 out.2.2.2.2.1 out.2.2.2.2.2.1 out.2.2.2.2.2.2.1 out.2.2.2.2.2.2.2.1 out.2.2.2.2.2.2.2.2.1 out.2.2.2.2.2.2.2.2.2.1 out.2.2.2.2.2.2.2.2.2.2 c_p1_steps c_p1_laws_size c_p1_laws_cells c_p1_finds_size c_p1_finds_cells c_p1_bets_size c_p1_bets_cells c_p1_prices_size c_p1_prices_cells c_p1_stepCells c_p1_stepSizes) none := by
  unfold fX5_takeOver at hf
  refine pb_K.ofV (cc := cX5_takeOver) (maxL := 2) (ret := none) (lv0 := [(0, .ref a_t), (1, .ref a_p1)]) (by decide) rfl (Nat.le_of_ble_eq_true rfl) rfl ?_
  intro p e s m below meth c A C hX hr hlk hA
  refine pb_aload_n (pc := 0) C dX5_takeOver_0 rfl 0 rfl ?_
  refine pb_get (pc := 1) C hnX5_takeOver_X5 0 rfl rfl 0 (by decide) (List.mem_of_getElem? (i := 1) rfl) rfl rfl dX5_takeOver_1 ?_
  refine pb_aload_n (pc := 4) C dX5_takeOver_4 rfl 1 rfl ?_
  refine pb_get (pc := 5) C hnX5_takeOver_X5 11 rfl rfl 0 (by decide) (List.mem_of_getElem? (i := 1) rfl) rfl rfl dX5_takeOver_5 ?_
  obtain ⟨r8, hr8, hf⟩ := pb_bind hf
  refine pb_callV (pc := 8) (n0 := 22) (ws' := (wwX5_takeOver cyB cyI cyJ cyZ cyS a_t a_t_laws a_t_finds a_t_bets a_t_prices a_t_stepCells a_t_stepSizes a_t_laws_cells a_t_finds_cells a_t_bets_cells a_t_prices_cells a_p1 a_p1_laws a_p1_finds a_p1_bets a_p1_prices a_p1_stepCells a_p1_stepSizes a_p1_laws_cells a_p1_finds_cells a_p1_bets_cells a_p1_prices_cells c_t_steps r8.1 r8.2 c_t_finds_size c_t_finds_cells c_t_bets_size c_t_bets_cells c_t_prices_size c_t_prices_cells c_t_stepCells c_t_stepSizes c_p1_steps c_p1_laws_size c_p1_laws_cells c_p1_finds_size c_p1_finds_cells c_p1_bets_size c_p1_bets_cells c_p1_prices_size c_p1_prices_cells c_p1_stepCells c_p1_stepSizes)) (rest := []) (st2 := []) C (kcX6_takeOver l dC dI cyB cyI cyJ cyZ cyS a_t_laws a_t_laws_cells a_p1_laws a_p1_laws_cells 3 8 24 3 8 24 c_t_laws_size c_t_laws_cells c_p1_laws_size c_p1_laws_cells r8 hr8) pb_NW_b (pb_NW_x hX) (cwV 1 C.1.2.2.2.2 gX5_takeOver_X6_takeOver rfl rfl rfl kdV_X6_takeOver ⟨Nat.le_of_ble_eq_true rfl, Nat.le_of_ble_eq_true rfl⟩) 0 rfl rfl [1, 2, 12, 13] [0, 3, 4, 5, 6, 7, 8, 9, 10, 11, 14, 15, 16, 17, 18, 19, 20, 21] rfl rfl ⟨⟨_, rfl, rfl⟩, ⟨⟨_, rfl, rfl⟩, ⟨⟨_, rfl, rfl⟩, ⟨⟨_, rfl, rfl⟩, ⟨⟨_, rfl, rfl⟩, ⟨⟨_, rfl, rfl⟩, ⟨⟨_, rfl, rfl⟩, ⟨⟨_, rfl, rfl⟩, ⟨⟨_, rfl, rfl⟩, ⟨⟨_, rfl, rfl⟩, ⟨⟨_, rfl, rfl⟩, ⟨⟨_, rfl, rfl⟩, ⟨⟨_, rfl, rfl⟩, ⟨⟨_, rfl, rfl⟩, ⟨⟨_, rfl, rfl⟩, ⟨⟨_, rfl, rfl⟩, ⟨⟨_, rfl, rfl⟩, ⟨⟨_, rfl, rfl⟩, trivial⟩⟩⟩⟩⟩⟩⟩⟩⟩⟩⟩⟩⟩⟩⟩⟩⟩⟩ rfl (by decide +kernel) (adl := [a_t_laws, a_t_laws_cells, a_p1_laws, a_p1_laws_cells]) rfl rfl rfl rfl rfl (Nat.le_of_ble_eq_true rfl) ⟨Nat.le_refl _, Nat.le_refl _⟩ dX5_takeOver_8 rfl ?_
  refine pb_aload_n (pc := 11) C dX5_takeOver_11 rfl 0 rfl ?_
  refine pb_get (pc := 12) C hnX5_takeOver_X5 0 rfl rfl 1 (by decide) (List.mem_of_getElem? (i := 2) rfl) rfl rfl dX5_takeOver_12 ?_
  refine pb_aload_n (pc := 15) C dX5_takeOver_15 rfl 1 rfl ?_
  refine pb_get (pc := 16) C hnX5_takeOver_X5 11 rfl rfl 1 (by decide) (List.mem_of_getElem? (i := 2) rfl) rfl rfl dX5_takeOver_16 ?_
  obtain ⟨r19, hr19, hf⟩ := pb_bind hf
  refine pb_callV (pc := 19) (n0 := 22) (ws' := (wwX5_takeOver cyB cyI cyJ cyZ cyS a_t a_t_laws a_t_finds a_t_bets a_t_prices a_t_stepCells a_t_stepSizes a_t_laws_cells a_t_finds_cells a_t_bets_cells a_t_prices_cells a_p1 a_p1_laws a_p1_finds a_p1_bets a_p1_prices a_p1_stepCells a_p1_stepSizes a_p1_laws_cells a_p1_finds_cells a_p1_bets_cells a_p1_prices_cells c_t_steps r8.1 r8.2 r19.1 r19.2 c_t_bets_size c_t_bets_cells c_t_prices_size c_t_prices_cells c_t_stepCells c_t_stepSizes c_p1_steps c_p1_laws_size c_p1_laws_cells c_p1_finds_size c_p1_finds_cells c_p1_bets_size c_p1_bets_cells c_p1_prices_size c_p1_prices_cells c_p1_stepCells c_p1_stepSizes)) (rest := []) (st2 := []) C (kcX6_takeOver l dC dI cyB cyI cyJ cyZ cyS a_t_finds a_t_finds_cells a_p1_finds a_p1_finds_cells 3 10 30 3 10 30 c_t_finds_size c_t_finds_cells c_p1_finds_size c_p1_finds_cells r19 hr19) pb_NW_b (pb_NW_x hX) (cwV 1 C.1.2.2.2.2 gX5_takeOver_X6_takeOver rfl rfl rfl kdV_X6_takeOver ⟨Nat.le_of_ble_eq_true rfl, Nat.le_of_ble_eq_true rfl⟩) 0 rfl rfl [3, 4, 14, 15] [0, 1, 2, 5, 6, 7, 8, 9, 10, 11, 12, 13, 16, 17, 18, 19, 20, 21] rfl rfl ⟨⟨_, rfl, rfl⟩, ⟨⟨_, rfl, rfl⟩, ⟨⟨_, rfl, rfl⟩, ⟨⟨_, rfl, rfl⟩, ⟨⟨_, rfl, rfl⟩, ⟨⟨_, rfl, rfl⟩, ⟨⟨_, rfl, rfl⟩, ⟨⟨_, rfl, rfl⟩, ⟨⟨_, rfl, rfl⟩, ⟨⟨_, rfl, rfl⟩, ⟨⟨_, rfl, rfl⟩, ⟨⟨_, rfl, rfl⟩, ⟨⟨_, rfl, rfl⟩, ⟨⟨_, rfl, rfl⟩, ⟨⟨_, rfl, rfl⟩, ⟨⟨_, rfl, rfl⟩, ⟨⟨_, rfl, rfl⟩, ⟨⟨_, rfl, rfl⟩, trivial⟩⟩⟩⟩⟩⟩⟩⟩⟩⟩⟩⟩⟩⟩⟩⟩⟩⟩ rfl (by decide +kernel) (adl := [a_t_finds, a_t_finds_cells, a_p1_finds, a_p1_finds_cells]) rfl rfl rfl rfl rfl (Nat.le_of_ble_eq_true rfl) ⟨Nat.le_refl _, Nat.le_refl _⟩ dX5_takeOver_19 rfl ?_
  refine pb_aload_n (pc := 22) C dX5_takeOver_22 rfl 0 rfl ?_
  refine pb_get (pc := 23) C hnX5_takeOver_X5 0 rfl rfl 2 (by decide) (List.mem_of_getElem? (i := 3) rfl) rfl rfl dX5_takeOver_23 ?_
  refine pb_aload_n (pc := 26) C dX5_takeOver_26 rfl 1 rfl ?_
  refine pb_get (pc := 27) C hnX5_takeOver_X5 11 rfl rfl 2 (by decide) (List.mem_of_getElem? (i := 3) rfl) rfl rfl dX5_takeOver_27 ?_
  obtain ⟨r30, hr30, hf⟩ := pb_bind hf
  refine pb_callV (pc := 30) (n0 := 22) (ws' := (wwX5_takeOver cyB cyI cyJ cyZ cyS a_t a_t_laws a_t_finds a_t_bets a_t_prices a_t_stepCells a_t_stepSizes a_t_laws_cells a_t_finds_cells a_t_bets_cells a_t_prices_cells a_p1 a_p1_laws a_p1_finds a_p1_bets a_p1_prices a_p1_stepCells a_p1_stepSizes a_p1_laws_cells a_p1_finds_cells a_p1_bets_cells a_p1_prices_cells c_t_steps r8.1 r8.2 r19.1 r19.2 r30.1 r30.2 c_t_prices_size c_t_prices_cells c_t_stepCells c_t_stepSizes c_p1_steps c_p1_laws_size c_p1_laws_cells c_p1_finds_size c_p1_finds_cells c_p1_bets_size c_p1_bets_cells c_p1_prices_size c_p1_prices_cells c_p1_stepCells c_p1_stepSizes)) (rest := []) (st2 := []) C (kcX6_takeOver l dC dI cyB cyI cyJ cyZ cyS a_t_bets a_t_bets_cells a_p1_bets a_p1_bets_cells 5 8 40 5 8 40 c_t_bets_size c_t_bets_cells c_p1_bets_size c_p1_bets_cells r30 hr30) pb_NW_b (pb_NW_x hX) (cwV 1 C.1.2.2.2.2 gX5_takeOver_X6_takeOver rfl rfl rfl kdV_X6_takeOver ⟨Nat.le_of_ble_eq_true rfl, Nat.le_of_ble_eq_true rfl⟩) 0 rfl rfl [5, 6, 16, 17] [0, 1, 2, 3, 4, 7, 8, 9, 10, 11, 12, 13, 14, 15, 18, 19, 20, 21] rfl rfl ⟨⟨_, rfl, rfl⟩, ⟨⟨_, rfl, rfl⟩, ⟨⟨_, rfl, rfl⟩, ⟨⟨_, rfl, rfl⟩, ⟨⟨_, rfl, rfl⟩, ⟨⟨_, rfl, rfl⟩, ⟨⟨_, rfl, rfl⟩, ⟨⟨_, rfl, rfl⟩, ⟨⟨_, rfl, rfl⟩, ⟨⟨_, rfl, rfl⟩, ⟨⟨_, rfl, rfl⟩, ⟨⟨_, rfl, rfl⟩, ⟨⟨_, rfl, rfl⟩, ⟨⟨_, rfl, rfl⟩, ⟨⟨_, rfl, rfl⟩, ⟨⟨_, rfl, rfl⟩, ⟨⟨_, rfl, rfl⟩, ⟨⟨_, rfl, rfl⟩, trivial⟩⟩⟩⟩⟩⟩⟩⟩⟩⟩⟩⟩⟩⟩⟩⟩⟩⟩ rfl (by decide +kernel) (adl := [a_t_bets, a_t_bets_cells, a_p1_bets, a_p1_bets_cells]) rfl rfl rfl rfl rfl (Nat.le_of_ble_eq_true rfl) ⟨Nat.le_refl _, Nat.le_refl _⟩ dX5_takeOver_30 rfl ?_
  refine pb_aload_n (pc := 33) C dX5_takeOver_33 rfl 0 rfl ?_
  refine pb_get (pc := 34) C hnX5_takeOver_X5 0 rfl rfl 3 (by decide) (List.mem_of_getElem? (i := 4) rfl) rfl rfl dX5_takeOver_34 ?_
  refine pb_aload_n (pc := 37) C dX5_takeOver_37 rfl 1 rfl ?_
  refine pb_get (pc := 38) C hnX5_takeOver_X5 11 rfl rfl 3 (by decide) (List.mem_of_getElem? (i := 4) rfl) rfl rfl dX5_takeOver_38 ?_
  obtain ⟨r41, hr41, hf⟩ := pb_bind hf
  refine pb_callV (pc := 41) (n0 := 22) (ws' := (wwX5_takeOver cyB cyI cyJ cyZ cyS a_t a_t_laws a_t_finds a_t_bets a_t_prices a_t_stepCells a_t_stepSizes a_t_laws_cells a_t_finds_cells a_t_bets_cells a_t_prices_cells a_p1 a_p1_laws a_p1_finds a_p1_bets a_p1_prices a_p1_stepCells a_p1_stepSizes a_p1_laws_cells a_p1_finds_cells a_p1_bets_cells a_p1_prices_cells c_t_steps r8.1 r8.2 r19.1 r19.2 r30.1 r30.2 r41.1 r41.2 c_t_stepCells c_t_stepSizes c_p1_steps c_p1_laws_size c_p1_laws_cells c_p1_finds_size c_p1_finds_cells c_p1_bets_size c_p1_bets_cells c_p1_prices_size c_p1_prices_cells c_p1_stepCells c_p1_stepSizes)) (rest := []) (st2 := []) C (kcX6_takeOver l dC dI cyB cyI cyJ cyZ cyS a_t_prices a_t_prices_cells a_p1_prices a_p1_prices_cells 5 6 30 5 6 30 c_t_prices_size c_t_prices_cells c_p1_prices_size c_p1_prices_cells r41 hr41) pb_NW_b (pb_NW_x hX) (cwV 1 C.1.2.2.2.2 gX5_takeOver_X6_takeOver rfl rfl rfl kdV_X6_takeOver ⟨Nat.le_of_ble_eq_true rfl, Nat.le_of_ble_eq_true rfl⟩) 0 rfl rfl [7, 8, 18, 19] [0, 1, 2, 3, 4, 5, 6, 9, 10, 11, 12, 13, 14, 15, 16, 17, 20, 21] rfl rfl ⟨⟨_, rfl, rfl⟩, ⟨⟨_, rfl, rfl⟩, ⟨⟨_, rfl, rfl⟩, ⟨⟨_, rfl, rfl⟩, ⟨⟨_, rfl, rfl⟩, ⟨⟨_, rfl, rfl⟩, ⟨⟨_, rfl, rfl⟩, ⟨⟨_, rfl, rfl⟩, ⟨⟨_, rfl, rfl⟩, ⟨⟨_, rfl, rfl⟩, ⟨⟨_, rfl, rfl⟩, ⟨⟨_, rfl, rfl⟩, ⟨⟨_, rfl, rfl⟩, ⟨⟨_, rfl, rfl⟩, ⟨⟨_, rfl, rfl⟩, ⟨⟨_, rfl, rfl⟩, ⟨⟨_, rfl, rfl⟩, ⟨⟨_, rfl, rfl⟩, trivial⟩⟩⟩⟩⟩⟩⟩⟩⟩⟩⟩⟩⟩⟩⟩⟩⟩⟩ rfl (by decide +kernel) (adl := [a_t_prices, a_t_prices_cells, a_p1_prices, a_p1_prices_cells]) rfl rfl rfl rfl rfl (Nat.le_of_ble_eq_true rfl) ⟨Nat.le_refl _, Nat.le_refl _⟩ dX5_takeOver_41 rfl ?_
  refine pb_aload_n (pc := 44) C dX5_takeOver_44 rfl 1 rfl ?_
  refine pb_get (pc := 45) C hnX5_takeOver_X5 11 rfl rfl 4 (by decide) (List.mem_of_getElem? (i := 5) rfl) rfl rfl dX5_takeOver_45 ?_
  refine pb_iconst (v := 0) (pc := 48) C dX5_takeOver_48 pb_kI_0 ?_
  refine pb_aload_n (pc := 49) C dX5_takeOver_49 rfl 0 rfl ?_
  refine pb_get (pc := 50) C hnX5_takeOver_X5 0 rfl rfl 4 (by decide) (List.mem_of_getElem? (i := 5) rfl) rfl rfl dX5_takeOver_50 ?_
  refine pb_iconst (v := 0) (pc := 53) C dX5_takeOver_53 pb_kI_0 ?_
  refine pb_aload_n (pc := 54) C dX5_takeOver_54 rfl 0 rfl ?_
  refine pb_get (pc := 55) C hnX5_takeOver_X5 0 rfl rfl 4 (by decide) (List.mem_of_getElem? (i := 5) rfl) rfl rfl dX5_takeOver_55 ?_
  refine pb_alen (pc := 58) (v := 240) C 9 1 rfl rfl pb_len_240 dX5_takeOver_58 ?_
  obtain ⟨u59, eu59, hf⟩ := pb_bind hf
  have eu59 := Option.some.inj eu59
  refine pb_copyi (pc := 59) (ws' := (wwX5_takeOver cyB cyI cyJ cyZ cyS a_t a_t_laws a_t_finds a_t_bets a_t_prices a_t_stepCells a_t_stepSizes a_t_laws_cells a_t_finds_cells a_t_bets_cells a_t_prices_cells a_p1 a_p1_laws a_p1_finds a_p1_bets a_p1_prices a_p1_stepCells a_p1_stepSizes a_p1_laws_cells a_p1_finds_cells a_p1_bets_cells a_p1_prices_cells c_t_steps r8.1 r8.2 r19.1 r19.2 r30.1 r30.2 r41.1 r41.2 u59 c_t_stepSizes c_p1_steps c_p1_laws_size c_p1_laws_cells c_p1_finds_size c_p1_finds_cells c_p1_bets_size c_p1_bets_cells c_p1_prices_size c_p1_prices_cells c_p1_stepCells c_p1_stepSizes)) C (List.mem_of_getElem? (i := 6) rfl) (List.mem_of_getElem? (i := 7) rfl) (List.mem_of_getElem? (i := 8) rfl) (List.mem_of_getElem? (i := 9) rfl) 20 9 1 rfl rfl rfl pb_cok_0_0_240_240_240 eu59 rfl (Nat.le_of_ble_eq_true rfl) (Nat.le_of_ble_eq_true rfl) dX5_takeOver_59 ?_
  refine pb_aload_n (pc := 62) C dX5_takeOver_62 rfl 1 rfl ?_
  refine pb_get (pc := 63) C hnX5_takeOver_X5 11 rfl rfl 5 (by decide) (List.mem_of_getElem? (i := 10) rfl) rfl rfl dX5_takeOver_63 ?_
  refine pb_iconst (v := 0) (pc := 66) C dX5_takeOver_66 pb_kI_0 ?_
  refine pb_aload_n (pc := 67) C dX5_takeOver_67 rfl 0 rfl ?_
  refine pb_get (pc := 68) C hnX5_takeOver_X5 0 rfl rfl 5 (by decide) (List.mem_of_getElem? (i := 10) rfl) rfl rfl dX5_takeOver_68 ?_
  refine pb_iconst (v := 0) (pc := 71) C dX5_takeOver_71 pb_kI_0 ?_
  refine pb_aload_n (pc := 72) C dX5_takeOver_72 rfl 0 rfl ?_
  refine pb_get (pc := 73) C hnX5_takeOver_X5 0 rfl rfl 5 (by decide) (List.mem_of_getElem? (i := 10) rfl) rfl rfl dX5_takeOver_73 ?_
  refine pb_alen (pc := 76) (v := 8) C 10 1 rfl rfl pb_len_8 dX5_takeOver_76 ?_
  obtain ⟨u77, eu77, hf⟩ := pb_bind hf
  have eu77 := Option.some.inj eu77
  refine pb_copyi (pc := 77) (ws' := (wwX5_takeOver cyB cyI cyJ cyZ cyS a_t a_t_laws a_t_finds a_t_bets a_t_prices a_t_stepCells a_t_stepSizes a_t_laws_cells a_t_finds_cells a_t_bets_cells a_t_prices_cells a_p1 a_p1_laws a_p1_finds a_p1_bets a_p1_prices a_p1_stepCells a_p1_stepSizes a_p1_laws_cells a_p1_finds_cells a_p1_bets_cells a_p1_prices_cells c_t_steps r8.1 r8.2 r19.1 r19.2 r30.1 r30.2 r41.1 r41.2 u59 u77 c_p1_steps c_p1_laws_size c_p1_laws_cells c_p1_finds_size c_p1_finds_cells c_p1_bets_size c_p1_bets_cells c_p1_prices_size c_p1_prices_cells c_p1_stepCells c_p1_stepSizes)) C (List.mem_of_getElem? (i := 6) rfl) (List.mem_of_getElem? (i := 7) rfl) (List.mem_of_getElem? (i := 8) rfl) (List.mem_of_getElem? (i := 9) rfl) 21 10 1 rfl rfl rfl pb_cok_0_0_8_8_8 eu77 rfl (Nat.le_of_ble_eq_true rfl) (Nat.le_of_ble_eq_true rfl) dX5_takeOver_77 ?_
  refine pb_aload_n (pc := 80) C dX5_takeOver_80 rfl 0 rfl ?_
  refine pb_aload_n (pc := 81) C dX5_takeOver_81 rfl 1 rfl ?_
  refine pb_get (pc := 82) C hnX5_takeOver_X5 11 rfl rfl 6 (by decide) (List.mem_of_getElem? (i := 11) rfl) rfl rfl dX5_takeOver_82 ?_
  refine pb_put (pc := 85) (ws' := (wwX5_takeOver cyB cyI cyJ cyZ cyS a_t a_t_laws a_t_finds a_t_bets a_t_prices a_t_stepCells a_t_stepSizes a_t_laws_cells a_t_finds_cells a_t_bets_cells a_t_prices_cells a_p1 a_p1_laws a_p1_finds a_p1_bets a_p1_prices a_p1_stepCells a_p1_stepSizes a_p1_laws_cells a_p1_finds_cells a_p1_bets_cells a_p1_prices_cells c_p1_steps r8.1 r8.2 r19.1 r19.2 r30.1 r30.2 r41.1 r41.2 u59 u77 c_p1_steps c_p1_laws_size c_p1_laws_cells c_p1_finds_size c_p1_finds_cells c_p1_bets_size c_p1_bets_cells c_p1_prices_size c_p1_prices_cells c_p1_stepCells c_p1_stepSizes)) C hnX5_takeOver_X5 tyX5 tyX5_ok nmX5 0 rfl rfl 6 (by decide) (List.mem_of_getElem? (i := 11) rfl) rfl rfl rfl rfl (Nat.le_of_ble_eq_true rfl) rfl dX5_takeOver_85 ?_
  obtain rfl := Option.some.inj hf
  exact pb_vret (pc := 88) C hr hlk hA dX5_takeOver_88
def rmX6_cell : Room := { frames := 0, cells := 0, slots := 0, locals := 0 }
def wwX6_cell (cyB cyI cyJ cyZ cyS : ClassId) (a_t a_t_cells : Nat) (w_t : Int32) (m_t : Int32) (n_t : Nat) (c_t_size : Int32) (c_t_cells : (Nat → Int32)) : va_W := [(a_t, .inr (6, [.int w_t, .int m_t, .ref a_t_cells, .int c_t_size])), (a_t_cells, .inl (cyI, n_t, .inl c_t_cells))]
theorem hnX6_cell_X6 : ∀ w ∈ wsX60, w ∈ wsX6_cell := fun _ h => List.mem_cons_of_mem _ (List.mem_append_right _ h)
set_option maxHeartbeats 4000000 in
set_option maxRecDepth 100000 in
theorem kcX6_cell (l : Launch) (dC : Nat → ClassId) (dI : Nat → Nat → Nat) (cyB cyI cyJ cyZ cyS : ClassId) (a_t a_t_cells : Nat) (w_t : Int32) (m_t : Int32) (n_t : Nat) (c_t_size : Int32) (c_t_cells : (Nat → Int32)) (p1 : Int32) (p2 : Int32) (out : Int32) (hf : fX6_cell w_t m_t n_t c_t_size c_t_cells p1 p2 = some out) : pb_K l yX6_cell wsX6_cell rmX6_cell (dC, dI) vwCl (pb_tys cyB cyI cyJ cyZ cyS) pb_NW [.ref a_t, .int p1, .int p2] (wwX6_cell cyB cyI cyJ cyZ cyS a_t a_t_cells w_t m_t n_t c_t_size c_t_cells) (wwX6_cell cyB cyI cyJ cyZ cyS a_t a_t_cells w_t m_t n_t c_t_size c_t_cells) (some (.int out)) := by
  unfold fX6_cell at hf
  refine pb_K.ofV (cc := cX6_cell) (maxL := 3) (ret := (some .int)) (lv0 := [(0, .ref a_t), (1, .int p1), (2, .int p2)]) (by decide) rfl (Nat.le_of_ble_eq_true rfl) rfl ?_
  intro p e s m below meth c A C hX hr hlk hA
  refine pb_iload_n (pc := 0) C dX6_cell_0 rfl 1 rfl ?_
  refine pb_if_lt (pc := 1) (tgt := 24) C dX6_cell_1 (by decide) (fun hc1 => ?_) (fun hc1 => ?_)
  · have hf := pb_pos hf hc1
    refine pb_iconst (v := 0) (pc := 24) C dX6_cell_24 pb_kI_0 ?_
    obtain rfl := Option.some.inj hf
    exact pb_iret (pc := 25) C hr hlk hA dX6_cell_25
  · have hf := pb_neg hf hc1
    refine pb_iload_n (pc := 4) C dX6_cell_4 rfl 1 rfl ?_
    refine pb_aload_n (pc := 5) C dX6_cell_5 rfl 0 rfl ?_
    refine pb_get (pc := 6) C hnX6_cell_X6 0 rfl rfl 3 (by decide) (List.mem_of_getElem? (i := 1) rfl) rfl rfl dX6_cell_6 ?_
    refine pb_icmp_ge (pc := 9) (tgt := 24) C dX6_cell_9 (by decide) (fun hc9 => ?_) (fun hc9 => ?_)
    · have hf := pb_pos hf hc9
      refine pb_iconst (v := 0) (pc := 24) C dX6_cell_24 pb_kI_0 ?_
      obtain rfl := Option.some.inj hf
      exact pb_iret (pc := 25) C hr hlk hA dX6_cell_25
    · have hf := pb_neg hf hc9
      refine pb_iload_n (pc := 12) C dX6_cell_12 rfl 2 rfl ?_
      refine pb_if_lt (pc := 13) (tgt := 24) C dX6_cell_13 (by decide) (fun hc13 => ?_) (fun hc13 => ?_)
      · have hf := pb_pos hf hc13
        refine pb_iconst (v := 0) (pc := 24) C dX6_cell_24 pb_kI_0 ?_
        obtain rfl := Option.some.inj hf
        exact pb_iret (pc := 25) C hr hlk hA dX6_cell_25
      · have hf := pb_neg hf hc13
        refine pb_iload_n (pc := 16) C dX6_cell_16 rfl 2 rfl ?_
        refine pb_aload_n (pc := 17) C dX6_cell_17 rfl 0 rfl ?_
        refine pb_get (pc := 18) C hnX6_cell_X6 0 rfl rfl 0 (by decide) (List.mem_of_getElem? (i := 2) rfl) rfl rfl dX6_cell_18 ?_
        refine pb_icmp_lt (pc := 21) (tgt := 26) C dX6_cell_21 (by decide) (fun hc21 => ?_) (fun hc21 => ?_)
        · have hf := pb_pos hf hc21
          refine pb_aload_n (pc := 26) C dX6_cell_26 rfl 0 rfl ?_
          refine pb_get (pc := 27) C hnX6_cell_X6 0 rfl rfl 2 (by decide) (List.mem_of_getElem? (i := 3) rfl) rfl rfl dX6_cell_27 ?_
          refine pb_iload_n (pc := 30) C dX6_cell_30 rfl 1 rfl ?_
          refine pb_aload_n (pc := 31) C dX6_cell_31 rfl 0 rfl ?_
          refine pb_get (pc := 32) C hnX6_cell_X6 0 rfl rfl 0 (by decide) (List.mem_of_getElem? (i := 2) rfl) rfl rfl dX6_cell_32 ?_
          refine pb_imul (pc := 35) C dX6_cell_35 ?_
          refine pb_iload_n (pc := 36) C dX6_cell_36 rfl 2 rfl ?_
          refine pb_iadd (pc := 37) C dX6_cell_37 ?_
          obtain ⟨g38, hf⟩ := pb_grd hf
          refine pb_iald (pc := 38) C 1 1 rfl rfl g38 dX6_cell_38 ?_
          obtain rfl := Option.some.inj hf
          exact pb_iret (pc := 39) C hr hlk hA dX6_cell_39
        · have hf := pb_neg hf hc21
          refine pb_iconst (v := 0) (pc := 24) C dX6_cell_24 pb_kI_0 ?_
          obtain rfl := Option.some.inj hf
          exact pb_iret (pc := 25) C hr hlk hA dX6_cell_25
def rmX0_commonDivisor : Room := { frames := 0, cells := 0, slots := 0, locals := 0 }
def wwX0_commonDivisor (cyB cyI cyJ cyZ cyS : ClassId) : va_W := []
set_option maxHeartbeats 4000000 in
set_option maxRecDepth 100000 in
theorem kcX0_commonDivisor (l : Launch) (dC : Nat → ClassId) (dI : Nat → Nat → Nat) (cyB cyI cyJ cyZ cyS : ClassId) (p1 : Int64) (p2 : Int64) (out : Int64) (hf : fX0_commonDivisor p1 p2 = some out) : pb_K l yX0_commonDivisor wsX0_commonDivisor rmX0_commonDivisor (dC, dI) vwCl (pb_tys cyB cyI cyJ cyZ cyS) pb_NW [.long p1, .long p2] (wwX0_commonDivisor cyB cyI cyJ cyZ cyS) (wwX0_commonDivisor cyB cyI cyJ cyZ cyS) (some (.long out)) := by
  unfold fX0_commonDivisor at hf
  refine pb_K.ofV (cc := cX0_commonDivisor) (maxL := 11) (ret := (some .long)) (lv0 := [(0, .long p1), (2, .long p2)]) (by decide) rfl (Nat.le_of_ble_eq_true rfl) rfl ?_
  intro p e s m below meth c A C hX hr hlk hA
  refine pb_lload_n (pc := 0) C dX0_commonDivisor_0 rfl 0 rfl ?_
  refine pb_lstore (lv' := [(4, .long p1), (0, .long p1), (2, .long p2)]) (pc := 1) C dX0_commonDivisor_1 (by decide) rfl ?_
  refine pb_lload_n (pc := 3) C dX0_commonDivisor_3 rfl 2 rfl ?_
  refine pb_lstore (lv' := [(6, .long p2), (4, .long p1), (0, .long p1), (2, .long p2)]) (pc := 4) C dX0_commonDivisor_4 (by decide) rfl ?_
  refine pb_iconst (v := 0) (pc := 6) C dX0_commonDivisor_6 pb_kI_0 ?_
  refine pb_istore (lv' := [(8, .int 0), (6, .long p2), (4, .long p1), (0, .long p1), (2, .long p2)]) (pc := 7) C dX0_commonDivisor_7 (by decide) rfl ?_
  obtain ⟨z9, hz9, hk9⟩ := pb_bind hf
  have E9 : ∀ (e9_4 : Int64) (e9_6 : Int64) (e9_8 : Int32), fX0_commonDivisor_E9 e9_4 e9_6 e9_8 = some out → pb_V p l e rmX0_commonDivisor s m (([.long p1, .long p2] : List Value).toArray) below meth c 11 (dC, dI) vwCl A 0 0 (pb_MQ below (([.long p1, .long p2] : List Value).toArray) s (dC, dI) vwCl (wwX0_commonDivisor cyB cyI cyJ cyZ cyS) (wwX0_commonDivisor cyB cyI cyJ cyZ cyS) (some (.long out)) A) (wwX0_commonDivisor cyB cyI cyJ cyZ cyS) [(4, .long e9_4)] [] 45 := by
    intro e9_4 e9_6 e9_8 hf
    unfold fX0_commonDivisor_E9 at hf
    refine pb_lload (pc := 45) C dX0_commonDivisor_45 0 rfl ?_
    obtain rfl := Option.some.inj hf
    exact pb_lret (pc := 47) C hr hlk hA dX0_commonDivisor_47
  have L9 : ∀ (n : Nat) (l9_4 : Int64) (l9_6 : Int64) (l9_8 : Int32), pb_lp (fun y => fX0_commonDivisor_L9 y.1 y.2.1 y.2.2) n (l9_4, l9_6, l9_8) = some z9 → pb_V p l e rmX0_commonDivisor s m (([.long p1, .long p2] : List Value).toArray) below meth c 11 (dC, dI) vwCl A 0 0 (pb_MQ below (([.long p1, .long p2] : List Value).toArray) s (dC, dI) vwCl (wwX0_commonDivisor cyB cyI cyJ cyZ cyS) (wwX0_commonDivisor cyB cyI cyJ cyZ cyS) (some (.long out)) A) (wwX0_commonDivisor cyB cyI cyJ cyZ cyS) [(4, .long l9_4), (6, .long l9_6), (8, .int l9_8)] [] 9 := by
    intro n
    induction n with
    | zero => intro l9_4 l9_6 l9_8 hf; exact (pb_lp_zero hf).elim
    | succ n ih9 =>
      intro l9_4 l9_6 l9_8 hf
      obtain ⟨y9, hf, hl9⟩ := pb_lp_succ hf
      have hf : fX0_commonDivisor_L9 l9_4 l9_6 l9_8 = some y9 := hf
      unfold fX0_commonDivisor_L9 at hf
      refine pb_iload (pc := 9) C dX0_commonDivisor_9 2 rfl ?_
      refine pb_sipush (v := 1000) (pc := 11) C dX0_commonDivisor_11 pb_kS_1000 ?_
      refine pb_icmp_ge (pc := 14) (tgt := 45) C dX0_commonDivisor_14 (by decide) (fun hc14 => ?_) (fun hc14 => ?_)
      · have hf := pb_pos hf hc14
        obtain rfl := Option.some.inj hf
        obtain rfl := pb_esc hl9
        refine pb_sub [0] rfl ?_
        exact E9 l9_4 l9_6 l9_8 hk9
      · have hf := pb_neg hf hc14
        refine pb_lload (pc := 17) C dX0_commonDivisor_17 1 rfl ?_
        refine pb_lconst (v := 0) (pc := 19) C dX0_commonDivisor_19 pb_kL_0 ?_
        refine pb_lif_eq (pc := 20) (tgt := 45) C dX0_commonDivisor_20 dX0_commonDivisor_21 (by decide) (fun hc20 => ?_) (fun hc20 => ?_)
        · have hf := pb_pos hf hc20
          obtain rfl := Option.some.inj hf
          obtain rfl := pb_esc hl9
          refine pb_sub [0] rfl ?_
          exact E9 l9_4 l9_6 l9_8 hk9
        · have hf := pb_neg hf hc20
          refine pb_lload (pc := 24) C dX0_commonDivisor_24 0 rfl ?_
          refine pb_lload (pc := 26) C dX0_commonDivisor_26 1 rfl ?_
          obtain ⟨g28, hf⟩ := pb_grd hf
          refine pb_lrem (pc := 28) C dX0_commonDivisor_28 g28 ?_
          obtain ⟨x29, ex29, hf⟩ := pb_bind hf
          have ex29 := Option.some.inj ex29
          refine pb_topl ex29 ?_
          refine pb_lstore (lv' := [(9, .long x29), (4, .long l9_4), (6, .long l9_6), (8, .int l9_8)]) (pc := 29) C dX0_commonDivisor_29 (by decide) rfl ?_
          refine pb_lload (pc := 31) C dX0_commonDivisor_31 2 rfl ?_
          refine pb_lstore (lv' := [(4, .long l9_6), (9, .long x29), (6, .long l9_6), (8, .int l9_8)]) (pc := 33) C dX0_commonDivisor_33 (by decide) rfl ?_
          refine pb_lload (pc := 35) C dX0_commonDivisor_35 1 rfl ?_
          refine pb_lstore (lv' := [(6, .long x29), (4, .long l9_6), (9, .long x29), (8, .int l9_8)]) (pc := 37) C dX0_commonDivisor_37 (by decide) rfl ?_
          refine pb_iinc (v := l9_8 + 1) (lv' := [(8, .int (l9_8 + 1)), (6, .long x29), (4, .long l9_6), (9, .long x29)]) (pc := 39) C dX0_commonDivisor_39 3 rfl (pb_inc pb_kI_1 rfl) (by decide) rfl ?_
          refine pb_goto (pc := 42) (tgt := 9) C dX0_commonDivisor_42 (by decide) ?_
          obtain rfl := Option.some.inj hf
          refine pb_sub [2, 1, 0] rfl ?_
          have hl9 := pb_inl hl9
          exact ih9 l9_6 x29 (l9_8 + 1) hl9
  refine pb_sub [2, 1, 0] rfl ?_
  exact L9 pb_FU p1 p2 0 hz9
def rmX0_put : Room := { frames := 1, cells := 0, slots := 0, locals := 60 }
def wwX0_put (cyB cyI cyJ cyZ cyS : ClassId) (a_t : Nat) (c_t_above : Int64) (c_t_below : Int64) : va_W := [(a_t, .inr (0, [.long c_t_above, .long c_t_below]))]
theorem hnX0_put_X0 : ∀ w ∈ wsX00, w ∈ wsX0_put := fun _ h => List.mem_cons_of_mem _ (List.mem_append_right _ h)
set_option maxHeartbeats 4000000 in
set_option maxRecDepth 100000 in
theorem kcX0_put (l : Launch) (dC : Nat → ClassId) (dI : Nat → Nat → Nat) (cyB cyI cyJ cyZ cyS : ClassId) (a_t : Nat) (c_t_above : Int64) (c_t_below : Int64) (p1 : Int64) (p2 : Int64) (out : (Int64 × Int64)) (hf : fX0_put c_t_above c_t_below p1 p2 = some out) : pb_K l yX0_put wsX0_put rmX0_put (dC, dI) vwCl (pb_tys cyB cyI cyJ cyZ cyS) pb_NW [.ref a_t, .long p1, .long p2] (wwX0_put cyB cyI cyJ cyZ cyS a_t c_t_above c_t_below) (wwX0_put cyB cyI cyJ cyZ cyS a_t out.1 out.2) none := by
  unfold fX0_put at hf
  refine pb_K.ofV (cc := cX0_put) (maxL := 7) (ret := none) (lv0 := [(0, .ref a_t), (1, .long p1), (3, .long p2)]) (by decide) rfl (Nat.le_of_ble_eq_true rfl) rfl ?_
  intro p e s m below meth c A C hX hr hlk hA
  refine pb_lload_n (pc := 0) C dX0_put_0 rfl 1 rfl ?_
  refine pb_mabs_long (pc := 1) C (List.mem_of_getElem? (i := 1) rfl) (List.mem_of_getElem? (i := 2) rfl) (List.mem_of_getElem? (i := 3) rfl) (List.mem_of_getElem? (i := 4) rfl) (Nat.le_of_ble_eq_true rfl) (Nat.le_of_ble_eq_true rfl) (Nat.le_refl _) (Nat.le_refl _) dX0_put_1 ?_
  obtain ⟨x1, ex1, hf⟩ := pb_bind hf
  have ex1 := Option.some.inj ex1
  refine pb_topl ex1 ?_
  refine pb_lload_n (pc := 4) C dX0_put_4 rfl 2 rfl ?_
  obtain ⟨r5, hr5, hf⟩ := pb_bind hf
  refine pb_callS (pc := 5) (n0 := 1) (ws' := (wwX0_put cyB cyI cyJ cyZ cyS a_t c_t_above c_t_below)) (rest := []) (st2 := [.long r5]) C (kcX0_commonDivisor l dC dI cyB cyI cyJ cyZ cyS x1 p2 r5 hr5) pb_NW_b (pb_NW_x hX) (va_cwS 2 C.1.2.2.2.2 gX0_put_X0_commonDivisor rfl rfl rfl kdS_X0_commonDivisor ⟨Nat.le_of_ble_eq_true rfl, Nat.le_of_ble_eq_true rfl⟩) [] [0] rfl rfl ⟨⟨_, rfl, rfl⟩, trivial⟩ rfl (by decide +kernel) (adl := []) rfl rfl rfl rfl rfl (Nat.le_of_ble_eq_true rfl) ⟨Nat.le_refl _, Nat.le_refl _⟩ dX0_put_5 rfl ?_
  refine pb_lstore (lv' := [(5, .long r5), (0, .ref a_t), (1, .long p1), (3, .long p2)]) (pc := 8) C dX0_put_8 (by decide) rfl ?_
  refine pb_lload_n (pc := 10) C dX0_put_10 rfl 3 rfl ?_
  refine pb_lconst (v := 1) (pc := 11) C dX0_put_11 pb_kL_1 ?_
  refine pb_lif_lt (pc := 12) (tgt := 23) C dX0_put_12 dX0_put_13 (by decide) (fun hc12 => ?_) (fun hc12 => ?_)
  · have hf := pb_pos hf hc12
    obtain rfl := Option.some.inj hf
    exact pb_vret (pc := 23) C hr hlk hA dX0_put_23
  · have hf := pb_neg hf hc12
    refine pb_lload (pc := 16) C dX0_put_16 0 rfl ?_
    refine pb_lconst (v := 1) (pc := 18) C dX0_put_18 pb_kL_1 ?_
    refine pb_lif_ge (pc := 19) (tgt := 24) C dX0_put_19 dX0_put_20 (by decide) (fun hc19 => ?_) (fun hc19 => ?_)
    · have hf := pb_pos hf hc19
      refine pb_aload_n (pc := 24) C dX0_put_24 rfl 1 rfl ?_
      refine pb_lload_n (pc := 25) C dX0_put_25 rfl 2 rfl ?_
      refine pb_lload (pc := 26) C dX0_put_26 0 rfl ?_
      obtain ⟨g28, hf⟩ := pb_grd hf
      refine pb_ldiv (pc := 28) C dX0_put_28 g28 ?_
      obtain ⟨x29, ex29, hf⟩ := pb_bind hf
      have ex29 := Option.some.inj ex29
      refine pb_topl ex29 ?_
      refine pb_put (pc := 29) (ws' := (wwX0_put cyB cyI cyJ cyZ cyS a_t x29 c_t_below)) C hnX0_put_X0 tyX0 tyX0_ok nmX0 0 rfl rfl 0 (by decide) (List.mem_of_getElem? (i := 5) rfl) rfl rfl rfl rfl (Nat.le_of_ble_eq_true rfl) rfl dX0_put_29 ?_
      refine pb_aload_n (pc := 32) C dX0_put_32 rfl 1 rfl ?_
      refine pb_lload_n (pc := 33) C dX0_put_33 rfl 3 rfl ?_
      refine pb_lload (pc := 34) C dX0_put_34 0 rfl ?_
      obtain ⟨g36, hf⟩ := pb_grd hf
      refine pb_ldiv (pc := 36) C dX0_put_36 g36 ?_
      obtain ⟨x37, ex37, hf⟩ := pb_bind hf
      have ex37 := Option.some.inj ex37
      refine pb_topl ex37 ?_
      refine pb_put (pc := 37) (ws' := (wwX0_put cyB cyI cyJ cyZ cyS a_t x29 x37)) C hnX0_put_X0 tyX0 tyX0_ok nmX0 0 rfl rfl 1 (by decide) (List.mem_of_getElem? (i := 6) rfl) rfl rfl rfl rfl (Nat.le_of_ble_eq_true rfl) rfl dX0_put_37 ?_
      obtain rfl := Option.some.inj hf
      exact pb_vret (pc := 40) C hr hlk hA dX0_put_40
    · have hf := pb_neg hf hc19
      obtain rfl := Option.some.inj hf
      exact pb_vret (pc := 23) C hr hlk hA dX0_put_23
def rmJ6_bitCount_0f7a4 : Room := { frames := 0, cells := 0, slots := 0, locals := 0 }
def wwJ6_bitCount_0f7a4 (cyB cyI cyJ cyZ cyS : ClassId) : va_W := []
set_option maxHeartbeats 4000000 in
set_option maxRecDepth 100000 in
theorem kcJ6_bitCount_0f7a4 (l : Launch) (dC : Nat → ClassId) (dI : Nat → Nat → Nat) (cyB cyI cyJ cyZ cyS : ClassId) (p1 : Int32) (out : Int32) (hf : fJ6_bitCount_0f7a4 p1 = some out) : pb_K l yJ6_bitCount_0f7a4 wsJ6_bitCount_0f7a4 rmJ6_bitCount_0f7a4 (dC, dI) vwCl (pb_tys cyB cyI cyJ cyZ cyS) pb_NW [.int p1] (wwJ6_bitCount_0f7a4 cyB cyI cyJ cyZ cyS) (wwJ6_bitCount_0f7a4 cyB cyI cyJ cyZ cyS) (some (.int out)) := by
  unfold fJ6_bitCount_0f7a4 at hf
  refine pb_K.ofV (cc := cJ6_bitCount_0f7a4) (maxL := 1) (ret := (some .int)) (lv0 := [(0, .int p1)]) (by decide) rfl (Nat.le_of_ble_eq_true rfl) rfl ?_
  intro p e s m below meth c A C hX hr hlk hA
  refine pb_iload_n (pc := 0) C dJ6_bitCount_0f7a4_0 rfl 0 rfl ?_
  refine pb_iload_n (pc := 1) C dJ6_bitCount_0f7a4_1 rfl 0 rfl ?_
  refine pb_iconst (v := 1) (pc := 2) C dJ6_bitCount_0f7a4_2 pb_kI_1 ?_
  refine pb_iushr (pc := 3) C dJ6_bitCount_0f7a4_3 ?_
  refine pb_ldcw (v := 1431655765) (pc := 4) C dJ6_bitCount_0f7a4_4 (List.mem_of_getElem? (i := 1) rfl) ?_
  refine pb_iand (pc := 7) C dJ6_bitCount_0f7a4_7 ?_
  refine pb_isub (pc := 8) C dJ6_bitCount_0f7a4_8 ?_
  obtain ⟨x9, ex9, hf⟩ := pb_bind hf
  have ex9 := Option.some.inj ex9
  refine pb_topi ex9 ?_
  refine pb_istore_n (lv' := [(0, .int x9)]) (pc := 9) C dJ6_bitCount_0f7a4_9 rfl (by decide) rfl ?_
  refine pb_iload_n (pc := 10) C dJ6_bitCount_0f7a4_10 rfl 0 rfl ?_
  refine pb_ldcw (v := 858993459) (pc := 11) C dJ6_bitCount_0f7a4_11 (List.mem_of_getElem? (i := 2) rfl) ?_
  refine pb_iand (pc := 14) C dJ6_bitCount_0f7a4_14 ?_
  refine pb_iload_n (pc := 15) C dJ6_bitCount_0f7a4_15 rfl 0 rfl ?_
  refine pb_iconst (v := 2) (pc := 16) C dJ6_bitCount_0f7a4_16 pb_kI_2 ?_
  refine pb_iushr (pc := 17) C dJ6_bitCount_0f7a4_17 ?_
  refine pb_ldcw (v := 858993459) (pc := 18) C dJ6_bitCount_0f7a4_18 (List.mem_of_getElem? (i := 2) rfl) ?_
  refine pb_iand (pc := 21) C dJ6_bitCount_0f7a4_21 ?_
  refine pb_iadd (pc := 22) C dJ6_bitCount_0f7a4_22 ?_
  obtain ⟨x23, ex23, hf⟩ := pb_bind hf
  have ex23 := Option.some.inj ex23
  refine pb_topi ex23 ?_
  refine pb_istore_n (lv' := [(0, .int x23)]) (pc := 23) C dJ6_bitCount_0f7a4_23 rfl (by decide) rfl ?_
  refine pb_iload_n (pc := 24) C dJ6_bitCount_0f7a4_24 rfl 0 rfl ?_
  refine pb_iload_n (pc := 25) C dJ6_bitCount_0f7a4_25 rfl 0 rfl ?_
  refine pb_iconst (v := 4) (pc := 26) C dJ6_bitCount_0f7a4_26 pb_kI_4 ?_
  refine pb_iushr (pc := 27) C dJ6_bitCount_0f7a4_27 ?_
  refine pb_iadd (pc := 28) C dJ6_bitCount_0f7a4_28 ?_
  refine pb_ldcw (v := 252645135) (pc := 29) C dJ6_bitCount_0f7a4_29 (List.mem_of_getElem? (i := 3) rfl) ?_
  refine pb_iand (pc := 32) C dJ6_bitCount_0f7a4_32 ?_
  obtain ⟨x33, ex33, hf⟩ := pb_bind hf
  have ex33 := Option.some.inj ex33
  refine pb_topi ex33 ?_
  refine pb_istore_n (lv' := [(0, .int x33)]) (pc := 33) C dJ6_bitCount_0f7a4_33 rfl (by decide) rfl ?_
  refine pb_iload_n (pc := 34) C dJ6_bitCount_0f7a4_34 rfl 0 rfl ?_
  refine pb_iload_n (pc := 35) C dJ6_bitCount_0f7a4_35 rfl 0 rfl ?_
  refine pb_bipush (v := 8) (pc := 36) C dJ6_bitCount_0f7a4_36 pb_kB_8 ?_
  refine pb_iushr (pc := 38) C dJ6_bitCount_0f7a4_38 ?_
  refine pb_iadd (pc := 39) C dJ6_bitCount_0f7a4_39 ?_
  obtain ⟨x40, ex40, hf⟩ := pb_bind hf
  have ex40 := Option.some.inj ex40
  refine pb_topi ex40 ?_
  refine pb_istore_n (lv' := [(0, .int x40)]) (pc := 40) C dJ6_bitCount_0f7a4_40 rfl (by decide) rfl ?_
  refine pb_iload_n (pc := 41) C dJ6_bitCount_0f7a4_41 rfl 0 rfl ?_
  refine pb_iload_n (pc := 42) C dJ6_bitCount_0f7a4_42 rfl 0 rfl ?_
  refine pb_bipush (v := 16) (pc := 43) C dJ6_bitCount_0f7a4_43 pb_kB_16 ?_
  refine pb_iushr (pc := 45) C dJ6_bitCount_0f7a4_45 ?_
  refine pb_iadd (pc := 46) C dJ6_bitCount_0f7a4_46 ?_
  obtain ⟨x47, ex47, hf⟩ := pb_bind hf
  have ex47 := Option.some.inj ex47
  refine pb_topi ex47 ?_
  refine pb_istore_n (lv' := [(0, .int x47)]) (pc := 47) C dJ6_bitCount_0f7a4_47 rfl (by decide) rfl ?_
  refine pb_iload_n (pc := 48) C dJ6_bitCount_0f7a4_48 rfl 0 rfl ?_
  refine pb_bipush (v := 63) (pc := 49) C dJ6_bitCount_0f7a4_49 pb_kB_63 ?_
  refine pb_iand (pc := 51) C dJ6_bitCount_0f7a4_51 ?_
  obtain rfl := Option.some.inj hf
  exact pb_iret (pc := 52) C hr hlk hA dJ6_bitCount_0f7a4_52
def rmJ6_compare_7cf53 : Room := { frames := 0, cells := 0, slots := 0, locals := 0 }
def wwJ6_compare_7cf53 (cyB cyI cyJ cyZ cyS : ClassId) : va_W := []
set_option maxHeartbeats 4000000 in
set_option maxRecDepth 100000 in
theorem kcJ6_compare_7cf53 (l : Launch) (dC : Nat → ClassId) (dI : Nat → Nat → Nat) (cyB cyI cyJ cyZ cyS : ClassId) (p1 : Int32) (p2 : Int32) (out : Int32) (hf : fJ6_compare_7cf53 p1 p2 = some out) : pb_K l yJ6_compare_7cf53 wsJ6_compare_7cf53 rmJ6_compare_7cf53 (dC, dI) vwCl (pb_tys cyB cyI cyJ cyZ cyS) pb_NW [.int p1, .int p2] (wwJ6_compare_7cf53 cyB cyI cyJ cyZ cyS) (wwJ6_compare_7cf53 cyB cyI cyJ cyZ cyS) (some (.int out)) := by
  unfold fJ6_compare_7cf53 at hf
  refine pb_K.ofV (cc := cJ6_compare_7cf53) (maxL := 2) (ret := (some .int)) (lv0 := [(0, .int p1), (1, .int p2)]) (by decide) rfl (Nat.le_of_ble_eq_true rfl) rfl ?_
  intro p e s m below meth c A C hX hr hlk hA
  refine pb_iload_n (pc := 0) C dJ6_compare_7cf53_0 rfl 0 rfl ?_
  refine pb_iload_n (pc := 1) C dJ6_compare_7cf53_1 rfl 1 rfl ?_
  refine pb_icmp_ge (pc := 2) (tgt := 9) C dJ6_compare_7cf53_2 (by decide) (fun hc2 => ?_) (fun hc2 => ?_)
  · have hf := pb_pos hf hc2
    refine pb_iload_n (pc := 9) C dJ6_compare_7cf53_9 rfl 0 rfl ?_
    refine pb_iload_n (pc := 10) C dJ6_compare_7cf53_10 rfl 1 rfl ?_
    refine pb_icmp_ne (pc := 11) (tgt := 18) C dJ6_compare_7cf53_11 (by decide) (fun hc11 => ?_) (fun hc11 => ?_)
    · have hf := pb_neg hf hc11
      refine pb_iconst (v := 1) (pc := 18) C dJ6_compare_7cf53_18 pb_kI_1 ?_
      obtain rfl := Option.some.inj hf
      exact pb_iret (pc := 19) C hr hlk hA dJ6_compare_7cf53_19
    · have hf := pb_pos hf hc11
      refine pb_iconst (v := 0) (pc := 14) C dJ6_compare_7cf53_14 pb_kI_0 ?_
      refine pb_goto (pc := 15) (tgt := 19) C dJ6_compare_7cf53_15 (by decide) ?_
      obtain rfl := Option.some.inj hf
      exact pb_iret (pc := 19) C hr hlk hA dJ6_compare_7cf53_19
  · have hf := pb_neg hf hc2
    refine pb_iconst (v := (-1)) (pc := 5) C dJ6_compare_7cf53_5 pb_kI_m1 ?_
    refine pb_goto (pc := 6) (tgt := 19) C dJ6_compare_7cf53_6 (by decide) ?_
    obtain rfl := Option.some.inj hf
    exact pb_iret (pc := 19) C hr hlk hA dJ6_compare_7cf53_19
def rmX6_mixInto : Room := { frames := 0, cells := 0, slots := 0, locals := 0 }
def wwX6_mixInto (cyB cyI cyJ cyZ cyS : ClassId) (a_t a_t_cells : Nat) (w_t : Int32) (m_t : Int32) (n_t : Nat) (c_t_size : Int32) (c_t_cells : (Nat → Int32)) : va_W := [(a_t, .inr (6, [.int w_t, .int m_t, .ref a_t_cells, .int c_t_size])), (a_t_cells, .inl (cyI, n_t, .inl c_t_cells))]
theorem hnX6_mixInto_X6 : ∀ w ∈ wsX60, w ∈ wsX6_mixInto := fun _ h => List.mem_cons_of_mem _ (List.mem_append_right _ h)
set_option maxHeartbeats 4000000 in
set_option maxRecDepth 100000 in
theorem kcX6_mixInto (l : Launch) (dC : Nat → ClassId) (dI : Nat → Nat → Nat) (cyB cyI cyJ cyZ cyS : ClassId) (a_t a_t_cells : Nat) (w_t : Int32) (m_t : Int32) (n_t : Nat) (c_t_size : Int32) (c_t_cells : (Nat → Int32)) (p1 : Int64) (out : Int64) (hf : fX6_mixInto w_t m_t n_t c_t_size c_t_cells p1 = some out) : pb_K l yX6_mixInto wsX6_mixInto rmX6_mixInto (dC, dI) vwCl (pb_tys cyB cyI cyJ cyZ cyS) pb_NW [.ref a_t, .long p1] (wwX6_mixInto cyB cyI cyJ cyZ cyS a_t a_t_cells w_t m_t n_t c_t_size c_t_cells) (wwX6_mixInto cyB cyI cyJ cyZ cyS a_t a_t_cells w_t m_t n_t c_t_size c_t_cells) (some (.long out)) := by
  unfold fX6_mixInto at hf
  refine pb_K.ofV (cc := cX6_mixInto) (maxL := 6) (ret := (some .long)) (lv0 := [(0, .ref a_t), (1, .long p1)]) (by decide) rfl (Nat.le_of_ble_eq_true rfl) rfl ?_
  intro p e s m below meth c A C hX hr hlk hA
  refine pb_lload_n (pc := 0) C dX6_mixInto_0 rfl 1 rfl ?_
  refine pb_lstore_n (lv' := [(3, .long p1), (0, .ref a_t), (1, .long p1)]) (pc := 1) C dX6_mixInto_1 rfl (by decide) rfl ?_
  refine pb_iconst (v := 0) (pc := 2) C dX6_mixInto_2 pb_kI_0 ?_
  refine pb_istore (lv' := [(5, .int 0), (3, .long p1), (0, .ref a_t), (1, .long p1)]) (pc := 3) C dX6_mixInto_3 (by decide) rfl ?_
  obtain ⟨z5, hz5, hk5⟩ := pb_bind hf
  have E5 : ∀ (e5_3 : Int64) (e5_5 : Int32), fX6_mixInto_E5 e5_3 e5_5 = some out → pb_V p l e rmX6_mixInto s m (([.ref a_t, .long p1] : List Value).toArray) below meth c 6 (dC, dI) vwCl A 0 0 (pb_MQ below (([.ref a_t, .long p1] : List Value).toArray) s (dC, dI) vwCl (wwX6_mixInto cyB cyI cyJ cyZ cyS a_t a_t_cells w_t m_t n_t c_t_size c_t_cells) (wwX6_mixInto cyB cyI cyJ cyZ cyS a_t a_t_cells w_t m_t n_t c_t_size c_t_cells) (some (.long out)) A) (wwX6_mixInto cyB cyI cyJ cyZ cyS a_t a_t_cells w_t m_t n_t c_t_size c_t_cells) [(3, .long e5_3)] [] 50 := by
    intro e5_3 e5_5 hf
    unfold fX6_mixInto_E5 at hf
    refine pb_lload_n (pc := 50) C dX6_mixInto_50 rfl 0 rfl ?_
    obtain rfl := Option.some.inj hf
    exact pb_lret (pc := 51) C hr hlk hA dX6_mixInto_51
  have L5 : ∀ (n : Nat) (l5_3 : Int64) (l5_5 : Int32), pb_lp (fun y => fX6_mixInto_L5 w_t n_t c_t_size c_t_cells y.1 y.2) n (l5_3, l5_5) = some z5 → pb_V p l e rmX6_mixInto s m (([.ref a_t, .long p1] : List Value).toArray) below meth c 6 (dC, dI) vwCl A 0 0 (pb_MQ below (([.ref a_t, .long p1] : List Value).toArray) s (dC, dI) vwCl (wwX6_mixInto cyB cyI cyJ cyZ cyS a_t a_t_cells w_t m_t n_t c_t_size c_t_cells) (wwX6_mixInto cyB cyI cyJ cyZ cyS a_t a_t_cells w_t m_t n_t c_t_size c_t_cells) (some (.long out)) A) (wwX6_mixInto cyB cyI cyJ cyZ cyS a_t a_t_cells w_t m_t n_t c_t_size c_t_cells) [(0, .ref a_t), (3, .long l5_3), (5, .int l5_5)] [] 5 := by
    intro n
    induction n with
    | zero => intro l5_3 l5_5 hf; exact (pb_lp_zero hf).elim
    | succ n ih5 =>
      intro l5_3 l5_5 hf
      obtain ⟨y5, hf, hl5⟩ := pb_lp_succ hf
      have hf : fX6_mixInto_L5 w_t n_t c_t_size c_t_cells l5_3 l5_5 = some y5 := hf
      unfold fX6_mixInto_L5 at hf
      refine pb_iload (pc := 5) C dX6_mixInto_5 2 rfl ?_
      refine pb_aload_n (pc := 7) C dX6_mixInto_7 rfl 0 rfl ?_
      refine pb_get (pc := 8) C hnX6_mixInto_X6 0 rfl rfl 3 (by decide) (List.mem_of_getElem? (i := 1) rfl) rfl rfl dX6_mixInto_8 ?_
      refine pb_aload_n (pc := 11) C dX6_mixInto_11 rfl 0 rfl ?_
      refine pb_get (pc := 12) C hnX6_mixInto_X6 0 rfl rfl 0 (by decide) (List.mem_of_getElem? (i := 2) rfl) rfl rfl dX6_mixInto_12 ?_
      refine pb_imul (pc := 15) C dX6_mixInto_15 ?_
      refine pb_icmp_ge (pc := 16) (tgt := 50) C dX6_mixInto_16 (by decide) (fun hc16 => ?_) (fun hc16 => ?_)
      · have hf := pb_pos hf hc16
        obtain rfl := Option.some.inj hf
        obtain rfl := pb_esc hl5
        refine pb_sub [1] rfl ?_
        exact E5 l5_3 l5_5 hk5
      · have hf := pb_neg hf hc16
        refine pb_iload (pc := 19) C dX6_mixInto_19 2 rfl ?_
        refine pb_aload_n (pc := 21) C dX6_mixInto_21 rfl 0 rfl ?_
        refine pb_get (pc := 22) C hnX6_mixInto_X6 0 rfl rfl 2 (by decide) (List.mem_of_getElem? (i := 3) rfl) rfl rfl dX6_mixInto_22 ?_
        refine pb_alen (pc := 25) (v := Int32.ofNat n_t) C 1 1 rfl rfl rfl dX6_mixInto_25 ?_
        refine pb_icmp_ge (pc := 26) (tgt := 50) C dX6_mixInto_26 (by decide) (fun hc26 => ?_) (fun hc26 => ?_)
        · have hf := pb_pos hf hc26
          obtain rfl := Option.some.inj hf
          obtain rfl := pb_esc hl5
          refine pb_sub [1] rfl ?_
          exact E5 l5_3 l5_5 hk5
        · have hf := pb_neg hf hc26
          refine pb_ldc2 (v := 31) (pc := 29) C dX6_mixInto_29 (List.mem_of_getElem? (i := 4) rfl) ?_
          refine pb_lload_n (pc := 32) C dX6_mixInto_32 rfl 1 rfl ?_
          refine pb_lmul (pc := 33) C dX6_mixInto_33 ?_
          refine pb_aload_n (pc := 34) C dX6_mixInto_34 rfl 0 rfl ?_
          refine pb_get (pc := 35) C hnX6_mixInto_X6 0 rfl rfl 2 (by decide) (List.mem_of_getElem? (i := 3) rfl) rfl rfl dX6_mixInto_35 ?_
          refine pb_iload (pc := 38) C dX6_mixInto_38 2 rfl ?_
          obtain ⟨g40, hf⟩ := pb_grd hf
          refine pb_iald (pc := 40) C 1 1 rfl rfl g40 dX6_mixInto_40 ?_
          refine pb_i2l (pc := 41) C dX6_mixInto_41 ?_
          refine pb_ladd (pc := 42) C dX6_mixInto_42 ?_
          obtain ⟨x43, ex43, hf⟩ := pb_bind hf
          have ex43 := Option.some.inj ex43
          refine pb_topl ex43 ?_
          refine pb_lstore_n (lv' := [(3, .long x43), (0, .ref a_t), (5, .int l5_5)]) (pc := 43) C dX6_mixInto_43 rfl (by decide) rfl ?_
          refine pb_iinc (v := l5_5 + 1) (lv' := [(5, .int (l5_5 + 1)), (3, .long x43), (0, .ref a_t)]) (pc := 44) C dX6_mixInto_44 2 rfl (pb_inc pb_kI_1 rfl) (by decide) rfl ?_
          refine pb_goto (pc := 47) (tgt := 5) C dX6_mixInto_47 (by decide) ?_
          obtain rfl := Option.some.inj hf
          refine pb_sub [2, 1, 0] rfl ?_
          have hl5 := pb_inl hl5
          exact ih5 x43 (l5_5 + 1) hl5
  refine pb_sub [2, 1, 0] rfl ?_
  exact L5 pb_FU p1 0 hz5
