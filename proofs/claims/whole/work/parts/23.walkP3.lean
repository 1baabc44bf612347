def rmX7_doped : Room := { frames := 5, cells := 0, slots := 0, locals := 119 }
def wwX7_doped (cyB cyI cyJ cyZ cyS : ClassId) (a_t a_t_now a_t_draft a_t_images a_t_kept a_t_pasts a_t_ledger a_t_settling a_t_reader a_t_fraction a_t_now_laws a_t_now_finds a_t_now_bets a_t_now_prices a_t_now_stepCells a_t_now_stepSizes a_t_now_laws_cells a_t_now_finds_cells a_t_pasts_open a_t_pasts_weight : Nat) (c_t_refusedBad : Int32) (c_t_refusedNo : Int32) (c_t_refusedFull : Int32) (c_t_now_steps : Int32) (c_t_now_laws_size : Int32) (c_t_now_laws_cells : (Nat → Int32)) (c_t_now_finds_size : Int32) (c_t_now_finds_cells : (Nat → Int32)) (c_t_pasts_total : Int64) (c_t_pasts_stale : Int32) (c_t_pasts_open : (Nat → Int32)) (c_t_pasts_weight : (Nat → Int64)) : va_W := [(a_t, .inr (7, [.ref a_t_now, .ref a_t_draft, .ref a_t_images, .ref a_t_kept, .ref a_t_pasts, .ref a_t_ledger, .ref a_t_settling, .ref a_t_reader, .ref a_t_fraction, .int c_t_refusedBad, .int c_t_refusedNo, .int c_t_refusedFull])), (a_t_now, .inr (5, [.ref a_t_now_laws, .ref a_t_now_finds, .ref a_t_now_bets, .ref a_t_now_prices, .ref a_t_now_stepCells, .ref a_t_now_stepSizes, .int c_t_now_steps])), (a_t_now_laws, .inr (6, [.int 3, .int 8, .ref a_t_now_laws_cells, .int c_t_now_laws_size])), (a_t_now_laws_cells, .inl (cyI, 24, .inl c_t_now_laws_cells)), (a_t_now_finds, .inr (6, [.int 3, .int 10, .ref a_t_now_finds_cells, .int c_t_now_finds_size])), (a_t_now_finds_cells, .inl (cyI, 30, .inl c_t_now_finds_cells)), (a_t_pasts, .inr (2, [.ref a_t_pasts_open, .ref a_t_pasts_weight, .long c_t_pasts_total, .int c_t_pasts_stale])), (a_t_pasts_open, .inl (cyZ, 128, .inl c_t_pasts_open)), (a_t_pasts_weight, .inl (cyJ, 128, .inr (.inl c_t_pasts_weight)))]
theorem hnX7_doped_X5 : ∀ w ∈ wsX50, w ∈ wsX7_doped := fun _ h => List.mem_cons_of_mem _ (List.mem_append_left _ (List.mem_append_left _ (List.mem_append_right _ h)))
theorem hnX7_doped_X7 : ∀ w ∈ wsX70, w ∈ wsX7_doped := fun _ h => List.mem_cons_of_mem _ (List.mem_append_left _ (List.mem_append_left _ (List.mem_append_left _ (List.mem_append_right _ h))))
set_option maxHeartbeats 4000000 in
set_option maxRecDepth 100000 in
theorem kcX7_doped (l : Launch) (dC : Nat → ClassId) (dI : Nat → Nat → Nat) (cyB cyI cyJ cyZ cyS : ClassId) (a_t a_t_now a_t_draft a_t_images a_t_kept a_t_pasts a_t_ledger a_t_settling a_t_reader a_t_fraction a_t_now_laws a_t_now_finds a_t_now_bets a_t_now_prices a_t_now_stepCells a_t_now_stepSizes a_t_now_laws_cells a_t_now_finds_cells a_t_pasts_open a_t_pasts_weight : Nat) (c_t_refusedBad : Int32) (c_t_refusedNo : Int32) (c_t_refusedFull : Int32) (c_t_now_steps : Int32) (c_t_now_laws_size : Int32) (c_t_now_laws_cells : (Nat → Int32)) (c_t_now_finds_size : Int32) (c_t_now_finds_cells : (Nat → Int32)) (c_t_pasts_total : Int64) (c_t_pasts_stale : Int32) (c_t_pasts_open : (Nat → Int32)) (c_t_pasts_weight : (Nat → Int64)) (out : (Int32 × Int64 × Int32 × (Nat → Int32) × (Nat → Int64))) (hf : fX7_doped c_t_now_laws_size c_t_now_laws_cells c_t_now_finds_size c_t_now_finds_cells c_t_pasts_total c_t_pasts_stale c_t_pasts_open c_t_pasts_weight = some out) : pb_K l yX7_doped wsX7_doped rmX7_doped (dC, dI) vwCl (pb_tys cyB cyI cyJ cyZ cyS) pb_NW [.ref a_t] (wwX7_doped cyB cyI cyJ cyZ cyS a_t a_t_now a_t_draft a_t_images a_t_kept a_t_pasts a_t_ledger a_t_settling a_t_reader a_t_fraction a_t_now_laws a_t_now_finds a_t_now_bets a_t_now_prices a_t_now_stepCells a_t_now_stepSizes a_t_now_laws_cells a_t_now_finds_cells a_t_pasts_open a_t_pasts_weight c_t_refusedBad c_t_refusedNo c_t_refusedFull c_t_now_steps c_t_now_laws_size c_t_now_laws_cells c_t_now_finds_size c_t_now_finds_cells c_t_pasts_total c_t_pasts_stale c_t_pasts_open c_t_pasts_weight) (wwX7_doped cyB cyI cyJ cyZ cyS a_t a_t_now a_t_draft a_t_images a_t_kept a_t_pasts a_t_ledger a_t_settling a_t_reader a_t_fraction a_t_now_laws a_t_now_finds a_t_now_bets a_t_now_prices a_t_now_stepCells a_t_now_stepSizes a_t_now_laws_cells a_t_now_finds_cells a_t_pasts_open a_t_pasts_weight c_t_refusedBad c_t_refusedNo c_t_refusedFull c_t_now_steps c_t_now_laws_size c_t_now_laws_cells c_t_now_finds_size c_t_now_finds_cells out.2.1 out.2.2.1 out.2.2.2.1 out.2.2.2.2) (some (.int out.1)) := by
  unfold fX7_doped at hf
  refine pb_K.ofV (cc := cX7_doped) (maxL := 1) (ret := (some .int)) (lv0 := [(0, .ref a_t)]) (by decide) rfl (Nat.le_of_ble_eq_true rfl) rfl ?_
  intro p e s m below meth c A C hX hr hlk hA
  refine pb_aload_n (pc := 0) C dX7_doped_0 rfl 0 rfl ?_
  obtain ⟨r1, hr1, hf⟩ := pb_bind hf
  refine pb_callV (pc := 1) (n0 := 9) (ws' := (wwX7_doped cyB cyI cyJ cyZ cyS a_t a_t_now a_t_draft a_t_images a_t_kept a_t_pasts a_t_ledger a_t_settling a_t_reader a_t_fraction a_t_now_laws a_t_now_finds a_t_now_bets a_t_now_prices a_t_now_stepCells a_t_now_stepSizes a_t_now_laws_cells a_t_now_finds_cells a_t_pasts_open a_t_pasts_weight c_t_refusedBad c_t_refusedNo c_t_refusedFull c_t_now_steps c_t_now_laws_size c_t_now_laws_cells c_t_now_finds_size c_t_now_finds_cells r1.1 r1.2.1 r1.2.2.1 r1.2.2.2)) (rest := []) (st2 := [.ref a_t_pasts]) C (kcX7_weighed l dC dI cyB cyI cyJ cyZ cyS a_t a_t_now a_t_draft a_t_images a_t_kept a_t_pasts a_t_ledger a_t_settling a_t_reader a_t_fraction a_t_now_laws a_t_now_finds a_t_now_bets a_t_now_prices a_t_now_stepCells a_t_now_stepSizes a_t_now_laws_cells a_t_now_finds_cells a_t_pasts_open a_t_pasts_weight c_t_refusedBad c_t_refusedNo c_t_refusedFull c_t_now_steps c_t_now_laws_size c_t_now_laws_cells c_t_now_finds_size c_t_now_finds_cells c_t_pasts_total c_t_pasts_stale c_t_pasts_open c_t_pasts_weight r1 hr1) pb_NW_b (pb_NW_x hX) (cwV 0 C.1.2.2.2.2 gX7_doped_X7_weighed rfl rfl rfl kdV_X7_weighed ⟨Nat.le_of_ble_eq_true rfl, Nat.le_of_ble_eq_true rfl⟩) 0 rfl rfl [0, 1, 2, 3, 4, 5, 6, 7, 8] [] rfl rfl trivial rfl (by decide +kernel) (adl := [a_t, a_t_now, a_t_now_laws, a_t_now_laws_cells, a_t_now_finds, a_t_now_finds_cells, a_t_pasts, a_t_pasts_open, a_t_pasts_weight]) rfl rfl rfl rfl rfl (Nat.le_of_ble_eq_true rfl) ⟨Nat.le_refl _, Nat.le_refl _⟩ dX7_doped_1 rfl ?_
  refine pb_aload_n (pc := 4) C dX7_doped_4 rfl 0 rfl ?_
  refine pb_get (pc := 5) C hnX7_doped_X7 0 rfl rfl 0 (by decide) (List.mem_of_getElem? (i := 1) rfl) rfl rfl dX7_doped_5 ?_
  refine pb_get (pc := 8) C hnX7_doped_X5 1 rfl rfl 1 (by decide) (List.mem_of_getElem? (i := 2) rfl) rfl rfl dX7_doped_8 ?_
  obtain ⟨r11, hr11, hf⟩ := pb_bind hf
  refine pb_callV (pc := 11) (n0 := 9) (ws' := (wwX7_doped cyB cyI cyJ cyZ cyS a_t a_t_now a_t_draft a_t_images a_t_kept a_t_pasts a_t_ledger a_t_settling a_t_reader a_t_fraction a_t_now_laws a_t_now_finds a_t_now_bets a_t_now_prices a_t_now_stepCells a_t_now_stepSizes a_t_now_laws_cells a_t_now_finds_cells a_t_pasts_open a_t_pasts_weight c_t_refusedBad c_t_refusedNo c_t_refusedFull c_t_now_steps c_t_now_laws_size c_t_now_laws_cells c_t_now_finds_size c_t_now_finds_cells r1.1 r1.2.1 r1.2.2.1 r1.2.2.2)) (rest := []) (st2 := [.int r11]) C (kcX2_fewestInTheWay l dC dI cyB cyI cyJ cyZ cyS a_t_pasts a_t_pasts_open a_t_pasts_weight a_t_now_finds a_t_now_finds_cells 3 10 30 r1.1 r1.2.1 r1.2.2.1 c_t_now_finds_size c_t_now_finds_cells r11 hr11) pb_NW_b (pb_NW_x hX) (cwV 1 C.1.2.2.2.2 gX7_doped_X2_fewestInTheWay rfl rfl rfl kdV_X2_fewestInTheWay ⟨Nat.le_of_ble_eq_true rfl, Nat.le_of_ble_eq_true rfl⟩) 0 rfl rfl [6, 7, 4, 5] [0, 1, 2, 3, 8] rfl rfl ⟨⟨_, rfl, rfl⟩, ⟨⟨_, rfl, rfl⟩, ⟨⟨_, rfl, rfl⟩, ⟨⟨_, rfl, rfl⟩, ⟨⟨_, rfl, rfl⟩, trivial⟩⟩⟩⟩⟩ rfl (by decide +kernel) (adl := [a_t_pasts, a_t_pasts_open, a_t_now_finds, a_t_now_finds_cells]) rfl rfl rfl rfl rfl (Nat.le_of_ble_eq_true rfl) ⟨Nat.le_refl _, Nat.le_refl _⟩ dX7_doped_11 rfl ?_
  obtain rfl := Option.some.inj hf
  exact pb_iret (pc := 14) C hr hlk hA dX7_doped_14
def rmX7_price : Room := { frames := 3, cells := 0, slots := 0, locals := 70 }
def wwX7_price (cyB cyI cyJ cyZ cyS : ClassId) (a_t a_t_now a_t_draft a_t_images a_t_kept a_t_pasts a_t_ledger a_t_settling a_t_reader a_t_fraction a_t_now_laws a_t_now_finds a_t_now_bets a_t_now_prices a_t_now_stepCells a_t_now_stepSizes a_t_now_prices_cells : Nat) (c_t_refusedBad : Int32) (c_t_refusedNo : Int32) (c_t_refusedFull : Int32) (c_t_now_steps : Int32) (c_t_now_prices_size : Int32) (c_t_now_prices_cells : (Nat → Int32)) : va_W := [(a_t, .inr (7, [.ref a_t_now, .ref a_t_draft, .ref a_t_images, .ref a_t_kept, .ref a_t_pasts, .ref a_t_ledger, .ref a_t_settling, .ref a_t_reader, .ref a_t_fraction, .int c_t_refusedBad, .int c_t_refusedNo, .int c_t_refusedFull])), (a_t_now, .inr (5, [.ref a_t_now_laws, .ref a_t_now_finds, .ref a_t_now_bets, .ref a_t_now_prices, .ref a_t_now_stepCells, .ref a_t_now_stepSizes, .int c_t_now_steps])), (a_t_now_prices, .inr (6, [.int 5, .int 6, .ref a_t_now_prices_cells, .int c_t_now_prices_size])), (a_t_now_prices_cells, .inl (cyI, 30, .inl c_t_now_prices_cells))]
theorem hnX7_price_X5 : ∀ w ∈ wsX50, w ∈ wsX7_price := fun _ h => List.mem_cons_of_mem _ (List.mem_append_left _ (List.mem_append_right _ h))
theorem hnX7_price_X6 : ∀ w ∈ wsX60, w ∈ wsX7_price := fun _ h => List.mem_cons_of_mem _ (List.mem_append_right _ h)
theorem hnX7_price_X7 : ∀ w ∈ wsX70, w ∈ wsX7_price := fun _ h => List.mem_cons_of_mem _ (List.mem_append_left _ (List.mem_append_left _ (List.mem_append_right _ h)))
set_option maxHeartbeats 4000000 in
set_option maxRecDepth 100000 in
theorem kcX7_price (l : Launch) (dC : Nat → ClassId) (dI : Nat → Nat → Nat) (cyB cyI cyJ cyZ cyS : ClassId) (a_t a_t_now a_t_draft a_t_images a_t_kept a_t_pasts a_t_ledger a_t_settling a_t_reader a_t_fraction a_t_now_laws a_t_now_finds a_t_now_bets a_t_now_prices a_t_now_stepCells a_t_now_stepSizes a_t_now_prices_cells : Nat) (c_t_refusedBad : Int32) (c_t_refusedNo : Int32) (c_t_refusedFull : Int32) (c_t_now_steps : Int32) (c_t_now_prices_size : Int32) (c_t_now_prices_cells : (Nat → Int32)) (p1 : Int32) (p2 : Int32) (p3 : Int32) (p4 : Int32) (p5 : Int32) (out : (Int32 × Int32 × Int32 × Int32 × (Nat → Int32))) (hf : fX7_price c_t_refusedBad c_t_refusedFull c_t_now_prices_size c_t_now_prices_cells p1 p2 p3 p4 p5 = some out) : pb_K l yX7_price wsX7_price rmX7_price (dC, dI) vwCl (pb_tys cyB cyI cyJ cyZ cyS) pb_NW [.ref a_t, .int p1, .int p2, .int p3, .int p4, .int p5] (wwX7_price cyB cyI cyJ cyZ cyS a_t a_t_now a_t_draft a_t_images a_t_kept a_t_pasts a_t_ledger a_t_settling a_t_reader a_t_fraction a_t_now_laws a_t_now_finds a_t_now_bets a_t_now_prices a_t_now_stepCells a_t_now_stepSizes a_t_now_prices_cells c_t_refusedBad c_t_refusedNo c_t_refusedFull c_t_now_steps c_t_now_prices_size c_t_now_prices_cells) (wwX7_price cyB cyI cyJ cyZ cyS a_t a_t_now a_t_draft a_t_images a_t_kept a_t_pasts a_t_ledger a_t_settling a_t_reader a_t_fraction a_t_now_laws a_t_now_finds a_t_now_bets a_t_now_prices a_t_now_stepCells a_t_now_stepSizes a_t_now_prices_cells out.2.1 c_t_refusedNo out.2.2.1 c_t_now_steps out.2.2.2.1 out.2.2.2.2) (some (.int out.1)) := by
  unfold fX7_price at hf
  refine pb_K.ofV (cc := cX7_price) (maxL := 6) (ret := (some .int)) (lv0 := [(0, .ref a_t), (1, .int p1), (2, .int p2), (3, .int p3), (4, .int p4), (5, .int p5)]) (by decide) rfl (Nat.le_of_ble_eq_true rfl) rfl ?_
  intro p e s m below meth c A C hX hr hlk hA
  refine pb_iload_n (pc := 0) C dX7_price_0 rfl 1 rfl ?_
  refine pb_iload_n (pc := 1) C dX7_price_1 rfl 2 rfl ?_
  refine pb_iload_n (pc := 2) C dX7_price_2 rfl 3 rfl ?_
  obtain ⟨r3, hr3, hf⟩ := pb_bind hf
  refine pb_callS (pc := 3) (n0 := 4) (ws' := (wwX7_price cyB cyI cyJ cyZ cyS a_t a_t_now a_t_draft a_t_images a_t_kept a_t_pasts a_t_ledger a_t_settling a_t_reader a_t_fraction a_t_now_laws a_t_now_finds a_t_now_bets a_t_now_prices a_t_now_stepCells a_t_now_stepSizes a_t_now_prices_cells c_t_refusedBad c_t_refusedNo c_t_refusedFull c_t_now_steps c_t_now_prices_size c_t_now_prices_cells)) (rest := []) (st2 := [.int r3]) C (kcX7_isClaim l dC dI cyB cyI cyJ cyZ cyS p1 p2 p3 r3 hr3) pb_NW_b (pb_NW_x hX) (va_cwS 3 C.1.2.2.2.2 gX7_price_X7_isClaim rfl rfl rfl kdS_X7_isClaim ⟨Nat.le_of_ble_eq_true rfl, Nat.le_of_ble_eq_true rfl⟩) [] [0, 1, 2, 3] rfl rfl ⟨⟨_, rfl, rfl⟩, ⟨⟨_, rfl, rfl⟩, ⟨⟨_, rfl, rfl⟩, ⟨⟨_, rfl, rfl⟩, trivial⟩⟩⟩⟩ rfl (by decide +kernel) (adl := []) rfl rfl rfl rfl rfl (Nat.le_of_ble_eq_true rfl) ⟨Nat.le_refl _, Nat.le_refl _⟩ dX7_price_3 rfl ?_
  refine pb_if_eq (pc := 6) (tgt := 30) C dX7_price_6 (by decide) (fun hc6 => ?_) (fun hc6 => ?_)
  · have hf := pb_pos hf hc6
    refine pb_aload_n (pc := 30) C dX7_price_30 rfl 0 rfl ?_
    refine pb_bipush (v := (-2)) (pc := 31) C dX7_price_31 pb_kB_m2 ?_
    obtain ⟨r33, hr33, hf⟩ := pb_bind hf
    refine pb_callV (pc := 33) (n0 := 4) (ws' := (wwX7_price cyB cyI cyJ cyZ cyS a_t a_t_now a_t_draft a_t_images a_t_kept a_t_pasts a_t_ledger a_t_settling a_t_reader a_t_fraction a_t_now_laws a_t_now_finds a_t_now_bets a_t_now_prices a_t_now_stepCells a_t_now_stepSizes a_t_now_prices_cells r33.2 c_t_refusedNo c_t_refusedFull c_t_now_steps c_t_now_prices_size c_t_now_prices_cells)) (rest := []) (st2 := [.int r33.1]) C (kcX7_asBad l dC dI cyB cyI cyJ cyZ cyS a_t a_t_now a_t_draft a_t_images a_t_kept a_t_pasts a_t_ledger a_t_settling a_t_reader a_t_fraction c_t_refusedBad c_t_refusedNo c_t_refusedFull (-2) r33 hr33) pb_NW_b (pb_NW_x hX) (cwV 1 C.1.2.2.2.2 gX7_price_X7_asBad rfl rfl rfl kdV_X7_asBad ⟨Nat.le_of_ble_eq_true rfl, Nat.le_of_ble_eq_true rfl⟩) 0 rfl rfl [0] [1, 2, 3] rfl rfl ⟨⟨_, rfl, rfl⟩, ⟨⟨_, rfl, rfl⟩, ⟨⟨_, rfl, rfl⟩, trivial⟩⟩⟩ rfl (by decide +kernel) (adl := [a_t]) rfl rfl rfl rfl rfl (Nat.le_of_ble_eq_true rfl) ⟨Nat.le_refl _, Nat.le_refl _⟩ dX7_price_33 rfl ?_
    obtain rfl := Option.some.inj hf
    exact pb_iret (pc := 36) C hr hlk hA dX7_price_36
  · have hf := pb_neg hf hc6
    refine pb_iload (pc := 9) C dX7_price_9 4 rfl ?_
    refine pb_iconst (v := 0) (pc := 11) C dX7_price_11 pb_kI_0 ?_
    refine pb_bipush (v := 99) (pc := 12) C dX7_price_12 pb_kB_99 ?_
    obtain ⟨r14, hr14, hf⟩ := pb_bind hf
    refine pb_callS (pc := 14) (n0 := 4) (ws' := (wwX7_price cyB cyI cyJ cyZ cyS a_t a_t_now a_t_draft a_t_images a_t_kept a_t_pasts a_t_ledger a_t_settling a_t_reader a_t_fraction a_t_now_laws a_t_now_finds a_t_now_bets a_t_now_prices a_t_now_stepCells a_t_now_stepSizes a_t_now_prices_cells c_t_refusedBad c_t_refusedNo c_t_refusedFull c_t_now_steps c_t_now_prices_size c_t_now_prices_cells)) (rest := []) (st2 := [.int r14]) C (kcX7_isWithin l dC dI cyB cyI cyJ cyZ cyS p4 0 99 r14 hr14) pb_NW_b (pb_NW_x hX) (va_cwS 3 C.1.2.2.2.2 gX7_price_X7_isWithin rfl rfl rfl kdS_X7_isWithin ⟨Nat.le_of_ble_eq_true rfl, Nat.le_of_ble_eq_true rfl⟩) [] [0, 1, 2, 3] rfl rfl ⟨⟨_, rfl, rfl⟩, ⟨⟨_, rfl, rfl⟩, ⟨⟨_, rfl, rfl⟩, ⟨⟨_, rfl, rfl⟩, trivial⟩⟩⟩⟩ rfl (by decide +kernel) (adl := []) rfl rfl rfl rfl rfl (Nat.le_of_ble_eq_true rfl) ⟨Nat.le_refl _, Nat.le_refl _⟩ dX7_price_14 rfl ?_
    refine pb_if_eq (pc := 17) (tgt := 30) C dX7_price_17 (by decide) (fun hc17 => ?_) (fun hc17 => ?_)
    · have hf := pb_pos hf hc17
      refine pb_aload_n (pc := 30) C dX7_price_30 rfl 0 rfl ?_
      refine pb_bipush (v := (-2)) (pc := 31) C dX7_price_31 pb_kB_m2 ?_
      obtain ⟨r33, hr33, hf⟩ := pb_bind hf
      refine pb_callV (pc := 33) (n0 := 4) (ws' := (wwX7_price cyB cyI cyJ cyZ cyS a_t a_t_now a_t_draft a_t_images a_t_kept a_t_pasts a_t_ledger a_t_settling a_t_reader a_t_fraction a_t_now_laws a_t_now_finds a_t_now_bets a_t_now_prices a_t_now_stepCells a_t_now_stepSizes a_t_now_prices_cells r33.2 c_t_refusedNo c_t_refusedFull c_t_now_steps c_t_now_prices_size c_t_now_prices_cells)) (rest := []) (st2 := [.int r33.1]) C (kcX7_asBad l dC dI cyB cyI cyJ cyZ cyS a_t a_t_now a_t_draft a_t_images a_t_kept a_t_pasts a_t_ledger a_t_settling a_t_reader a_t_fraction c_t_refusedBad c_t_refusedNo c_t_refusedFull (-2) r33 hr33) pb_NW_b (pb_NW_x hX) (cwV 1 C.1.2.2.2.2 gX7_price_X7_asBad rfl rfl rfl kdV_X7_asBad ⟨Nat.le_of_ble_eq_true rfl, Nat.le_of_ble_eq_true rfl⟩) 0 rfl rfl [0] [1, 2, 3] rfl rfl ⟨⟨_, rfl, rfl⟩, ⟨⟨_, rfl, rfl⟩, ⟨⟨_, rfl, rfl⟩, trivial⟩⟩⟩ rfl (by decide +kernel) (adl := [a_t]) rfl rfl rfl rfl rfl (Nat.le_of_ble_eq_true rfl) ⟨Nat.le_refl _, Nat.le_refl _⟩ dX7_price_33 rfl ?_
      obtain rfl := Option.some.inj hf
      exact pb_iret (pc := 36) C hr hlk hA dX7_price_36
    · have hf := pb_neg hf hc17
      refine pb_iload (pc := 20) C dX7_price_20 5 rfl ?_
      refine pb_iconst (v := 0) (pc := 22) C dX7_price_22 pb_kI_0 ?_
      refine pb_iconst (v := 1) (pc := 23) C dX7_price_23 pb_kI_1 ?_
      obtain ⟨r24, hr24, hf⟩ := pb_bind hf
      refine pb_callS (pc := 24) (n0 := 4) (ws' := (wwX7_price cyB cyI cyJ cyZ cyS a_t a_t_now a_t_draft a_t_images a_t_kept a_t_pasts a_t_ledger a_t_settling a_t_reader a_t_fraction a_t_now_laws a_t_now_finds a_t_now_bets a_t_now_prices a_t_now_stepCells a_t_now_stepSizes a_t_now_prices_cells c_t_refusedBad c_t_refusedNo c_t_refusedFull c_t_now_steps c_t_now_prices_size c_t_now_prices_cells)) (rest := []) (st2 := [.int r24]) C (kcX7_isWithin l dC dI cyB cyI cyJ cyZ cyS p5 0 1 r24 hr24) pb_NW_b (pb_NW_x hX) (va_cwS 3 C.1.2.2.2.2 gX7_price_X7_isWithin rfl rfl rfl kdS_X7_isWithin ⟨Nat.le_of_ble_eq_true rfl, Nat.le_of_ble_eq_true rfl⟩) [] [0, 1, 2, 3] rfl rfl ⟨⟨_, rfl, rfl⟩, ⟨⟨_, rfl, rfl⟩, ⟨⟨_, rfl, rfl⟩, ⟨⟨_, rfl, rfl⟩, trivial⟩⟩⟩⟩ rfl (by decide +kernel) (adl := []) rfl rfl rfl rfl rfl (Nat.le_of_ble_eq_true rfl) ⟨Nat.le_refl _, Nat.le_refl _⟩ dX7_price_24 rfl ?_
      refine pb_if_ne (pc := 27) (tgt := 37) C dX7_price_27 (by decide) (fun hc27 => ?_) (fun hc27 => ?_)
      · have hf := pb_neg hf hc27
        refine pb_aload_n (pc := 37) C dX7_price_37 rfl 0 rfl ?_
        refine pb_get (pc := 38) C hnX7_price_X7 0 rfl rfl 0 (by decide) (List.mem_of_getElem? (i := 1) rfl) rfl rfl dX7_price_38 ?_
        refine pb_get (pc := 41) C hnX7_price_X5 1 rfl rfl 3 (by decide) (List.mem_of_getElem? (i := 2) rfl) rfl rfl dX7_price_41 ?_
        obtain ⟨r44, hr44, hf⟩ := pb_bind hf
        refine pb_callV (pc := 44) (n0 := 4) (ws' := (wwX7_price cyB cyI cyJ cyZ cyS a_t a_t_now a_t_draft a_t_images a_t_kept a_t_pasts a_t_ledger a_t_settling a_t_reader a_t_fraction a_t_now_laws a_t_now_finds a_t_now_bets a_t_now_prices a_t_now_stepCells a_t_now_stepSizes a_t_now_prices_cells c_t_refusedBad c_t_refusedNo c_t_refusedFull c_t_now_steps c_t_now_prices_size c_t_now_prices_cells)) (rest := []) (st2 := [.int r44]) C (kcX6_isFull l dC dI cyB cyI cyJ cyZ cyS a_t_now_prices a_t_now_prices_cells 5 6 c_t_now_prices_size r44 hr44) pb_NW_b (pb_NW_x hX) (cwV 0 C.1.2.2.2.2 gX7_price_X6_isFull rfl rfl rfl kdV_X6_isFull ⟨Nat.le_of_ble_eq_true rfl, Nat.le_of_ble_eq_true rfl⟩) 0 rfl rfl [2] [0, 1, 3] rfl rfl ⟨⟨_, rfl, rfl⟩, ⟨⟨_, rfl, rfl⟩, ⟨⟨_, rfl, rfl⟩, trivial⟩⟩⟩ rfl (by decide +kernel) (adl := [a_t_now_prices]) rfl rfl rfl rfl rfl (Nat.le_of_ble_eq_true rfl) ⟨Nat.le_refl _, Nat.le_refl _⟩ dX7_price_44 rfl ?_
        refine pb_if_eq (pc := 47) (tgt := 55) C dX7_price_47 (by decide) (fun hc47 => ?_) (fun hc47 => ?_)
        · have hf := pb_pos hf hc47
          refine pb_aload_n (pc := 55) C dX7_price_55 rfl 0 rfl ?_
          refine pb_get (pc := 56) C hnX7_price_X7 0 rfl rfl 0 (by decide) (List.mem_of_getElem? (i := 1) rfl) rfl rfl dX7_price_56 ?_
          refine pb_get (pc := 59) C hnX7_price_X5 1 rfl rfl 3 (by decide) (List.mem_of_getElem? (i := 2) rfl) rfl rfl dX7_price_59 ?_
          refine pb_iload_n (pc := 62) C dX7_price_62 rfl 1 rfl ?_
          refine pb_iload_n (pc := 63) C dX7_price_63 rfl 2 rfl ?_
          refine pb_iload_n (pc := 64) C dX7_price_64 rfl 3 rfl ?_
          refine pb_iload (pc := 65) C dX7_price_65 4 rfl ?_
          refine pb_iload (pc := 67) C dX7_price_67 5 rfl ?_
          obtain ⟨r69, hr69, hf⟩ := pb_bind hf
          refine pb_callV (pc := 69) (n0 := 4) (ws' := (wwX7_price cyB cyI cyJ cyZ cyS a_t a_t_now a_t_draft a_t_images a_t_kept a_t_pasts a_t_ledger a_t_settling a_t_reader a_t_fraction a_t_now_laws a_t_now_finds a_t_now_bets a_t_now_prices a_t_now_stepCells a_t_now_stepSizes a_t_now_prices_cells c_t_refusedBad c_t_refusedNo c_t_refusedFull c_t_now_steps r69.1 r69.2)) (rest := []) (st2 := []) C (kcX6_addFive l dC dI cyB cyI cyJ cyZ cyS a_t_now_prices a_t_now_prices_cells 5 6 30 c_t_now_prices_size c_t_now_prices_cells p1 p2 p3 p4 p5 r69 hr69) pb_NW_b (pb_NW_x hX) (cwV 5 C.1.2.2.2.2 gX7_price_X6_addFive rfl rfl rfl kdV_X6_addFive ⟨Nat.le_of_ble_eq_true rfl, Nat.le_of_ble_eq_true rfl⟩) 0 rfl rfl [2, 3] [0, 1] rfl rfl ⟨⟨_, rfl, rfl⟩, ⟨⟨_, rfl, rfl⟩, trivial⟩⟩ rfl (by decide +kernel) (adl := [a_t_now_prices, a_t_now_prices_cells]) rfl rfl rfl rfl rfl (Nat.le_of_ble_eq_true rfl) ⟨Nat.le_refl _, Nat.le_refl _⟩ dX7_price_69 rfl ?_
          refine pb_aload_n (pc := 72) C dX7_price_72 rfl 0 rfl ?_
          refine pb_get (pc := 73) C hnX7_price_X7 0 rfl rfl 0 (by decide) (List.mem_of_getElem? (i := 1) rfl) rfl rfl dX7_price_73 ?_
          refine pb_get (pc := 76) C hnX7_price_X5 1 rfl rfl 3 (by decide) (List.mem_of_getElem? (i := 2) rfl) rfl rfl dX7_price_76 ?_
          refine pb_get (pc := 79) C hnX7_price_X6 2 rfl rfl 3 (by decide) (List.mem_of_getElem? (i := 3) rfl) rfl rfl dX7_price_79 ?_
          obtain rfl := Option.some.inj hf
          exact pb_iret (pc := 82) C hr hlk hA dX7_price_82
        · have hf := pb_neg hf hc47
          refine pb_aload_n (pc := 50) C dX7_price_50 rfl 0 rfl ?_
          obtain ⟨r51, hr51, hf⟩ := pb_bind hf
          refine pb_callV (pc := 51) (n0 := 4) (ws' := (wwX7_price cyB cyI cyJ cyZ cyS a_t a_t_now a_t_draft a_t_images a_t_kept a_t_pasts a_t_ledger a_t_settling a_t_reader a_t_fraction a_t_now_laws a_t_now_finds a_t_now_bets a_t_now_prices a_t_now_stepCells a_t_now_stepSizes a_t_now_prices_cells c_t_refusedBad c_t_refusedNo r51.2 c_t_now_steps c_t_now_prices_size c_t_now_prices_cells)) (rest := []) (st2 := [.int r51.1]) C (kcX7_asFull l dC dI cyB cyI cyJ cyZ cyS a_t a_t_now a_t_draft a_t_images a_t_kept a_t_pasts a_t_ledger a_t_settling a_t_reader a_t_fraction c_t_refusedBad c_t_refusedNo c_t_refusedFull r51 hr51) pb_NW_b (pb_NW_x hX) (cwV 0 C.1.2.2.2.2 gX7_price_X7_asFull rfl rfl rfl kdV_X7_asFull ⟨Nat.le_of_ble_eq_true rfl, Nat.le_of_ble_eq_true rfl⟩) 0 rfl rfl [0] [1, 2, 3] rfl rfl ⟨⟨_, rfl, rfl⟩, ⟨⟨_, rfl, rfl⟩, ⟨⟨_, rfl, rfl⟩, trivial⟩⟩⟩ rfl (by decide +kernel) (adl := [a_t]) rfl rfl rfl rfl rfl (Nat.le_of_ble_eq_true rfl) ⟨Nat.le_refl _, Nat.le_refl _⟩ dX7_price_51 rfl ?_
          obtain rfl := Option.some.inj hf
          exact pb_iret (pc := 54) C hr hlk hA dX7_price_54
      · have hf := pb_pos hf hc27
        refine pb_aload_n (pc := 30) C dX7_price_30 rfl 0 rfl ?_
        refine pb_bipush (v := (-2)) (pc := 31) C dX7_price_31 pb_kB_m2 ?_
        obtain ⟨r33, hr33, hf⟩ := pb_bind hf
        refine pb_callV (pc := 33) (n0 := 4) (ws' := (wwX7_price cyB cyI cyJ cyZ cyS a_t a_t_now a_t_draft a_t_images a_t_kept a_t_pasts a_t_ledger a_t_settling a_t_reader a_t_fraction a_t_now_laws a_t_now_finds a_t_now_bets a_t_now_prices a_t_now_stepCells a_t_now_stepSizes a_t_now_prices_cells r33.2 c_t_refusedNo c_t_refusedFull c_t_now_steps c_t_now_prices_size c_t_now_prices_cells)) (rest := []) (st2 := [.int r33.1]) C (kcX7_asBad l dC dI cyB cyI cyJ cyZ cyS a_t a_t_now a_t_draft a_t_images a_t_kept a_t_pasts a_t_ledger a_t_settling a_t_reader a_t_fraction c_t_refusedBad c_t_refusedNo c_t_refusedFull (-2) r33 hr33) pb_NW_b (pb_NW_x hX) (cwV 1 C.1.2.2.2.2 gX7_price_X7_asBad rfl rfl rfl kdV_X7_asBad ⟨Nat.le_of_ble_eq_true rfl, Nat.le_of_ble_eq_true rfl⟩) 0 rfl rfl [0] [1, 2, 3] rfl rfl ⟨⟨_, rfl, rfl⟩, ⟨⟨_, rfl, rfl⟩, ⟨⟨_, rfl, rfl⟩, trivial⟩⟩⟩ rfl (by decide +kernel) (adl := [a_t]) rfl rfl rfl rfl rfl (Nat.le_of_ble_eq_true rfl) ⟨Nat.le_refl _, Nat.le_refl _⟩ dX7_price_33 rfl ?_
        obtain rfl := Option.some.inj hf
        exact pb_iret (pc := 36) C hr hlk hA dX7_price_36
def rmX7_forget : Room := { frames := 1, cells := 0, slots := 0, locals := 20 }
def wwX7_forget (cyB cyI cyJ cyZ cyS : ClassId) (a_t a_t_now a_t_draft a_t_images a_t_kept a_t_pasts a_t_ledger a_t_settling a_t_reader a_t_fraction a_t_now_laws a_t_now_finds a_t_now_bets a_t_now_prices a_t_now_stepCells a_t_now_stepSizes a_t_now_prices_cells : Nat) (c_t_refusedBad : Int32) (c_t_refusedNo : Int32) (c_t_refusedFull : Int32) (c_t_now_steps : Int32) (c_t_now_prices_size : Int32) : va_W := [(a_t, .inr (7, [.ref a_t_now, .ref a_t_draft, .ref a_t_images, .ref a_t_kept, .ref a_t_pasts, .ref a_t_ledger, .ref a_t_settling, .ref a_t_reader, .ref a_t_fraction, .int c_t_refusedBad, .int c_t_refusedNo, .int c_t_refusedFull])), (a_t_now, .inr (5, [.ref a_t_now_laws, .ref a_t_now_finds, .ref a_t_now_bets, .ref a_t_now_prices, .ref a_t_now_stepCells, .ref a_t_now_stepSizes, .int c_t_now_steps])), (a_t_now_prices, .inr (6, [.int 5, .int 6, .ref a_t_now_prices_cells, .int c_t_now_prices_size]))]
theorem hnX7_forget_X5 : ∀ w ∈ wsX50, w ∈ wsX7_forget := fun _ h => List.mem_cons_of_mem _ (List.mem_append_left _ (List.mem_append_right _ h))
theorem hnX7_forget_X6 : ∀ w ∈ wsX60, w ∈ wsX7_forget := fun _ h => List.mem_cons_of_mem _ (List.mem_append_right _ h)
theorem hnX7_forget_X7 : ∀ w ∈ wsX70, w ∈ wsX7_forget := fun _ h => List.mem_cons_of_mem _ (List.mem_append_left _ (List.mem_append_left _ (List.mem_append_right _ h)))
set_option maxHeartbeats 4000000 in
set_option maxRecDepth 100000 in
theorem kcX7_forget (l : Launch) (dC : Nat → ClassId) (dI : Nat → Nat → Nat) (cyB cyI cyJ cyZ cyS : ClassId) (a_t a_t_now a_t_draft a_t_images a_t_kept a_t_pasts a_t_ledger a_t_settling a_t_reader a_t_fraction a_t_now_laws a_t_now_finds a_t_now_bets a_t_now_prices a_t_now_stepCells a_t_now_stepSizes a_t_now_prices_cells : Nat) (c_t_refusedBad : Int32) (c_t_refusedNo : Int32) (c_t_refusedFull : Int32) (c_t_now_steps : Int32) (c_t_now_prices_size : Int32) (out : (Int32 × Int32)) (hf : fX7_forget c_t_now_prices_size = some out) : pb_K l yX7_forget wsX7_forget rmX7_forget (dC, dI) vwCl (pb_tys cyB cyI cyJ cyZ cyS) pb_NW [.ref a_t] (wwX7_forget cyB cyI cyJ cyZ cyS a_t a_t_now a_t_draft a_t_images a_t_kept a_t_pasts a_t_ledger a_t_settling a_t_reader a_t_fraction a_t_now_laws a_t_now_finds a_t_now_bets a_t_now_prices a_t_now_stepCells a_t_now_stepSizes a_t_now_prices_cells c_t_refusedBad c_t_refusedNo c_t_refusedFull c_t_now_steps c_t_now_prices_size) (wwX7_forget cyB cyI cyJ cyZ cyS a_t a_t_now a_t_draft a_t_images a_t_kept a_t_pasts a_t_ledger a_t_settling a_t_reader a_t_fraction a_t_now_laws a_t_now_finds a_t_now_bets a_t_now_prices a_t_now_stepCells a_t_now_stepSizes a_t_now_prices_cells c_t_refusedBad c_t_refusedNo c_t_refusedFull c_t_now_steps out.2) (some (.int out.1)) := by
  unfold fX7_forget at hf
  refine pb_K.ofV (cc := cX7_forget) (maxL := 2) (ret := (some .int)) (lv0 := [(0, .ref a_t)]) (by decide) rfl (Nat.le_of_ble_eq_true rfl) rfl ?_
  intro p e s m below meth c A C hX hr hlk hA
  refine pb_aload_n (pc := 0) C dX7_forget_0 rfl 0 rfl ?_
  refine pb_get (pc := 1) C hnX7_forget_X7 0 rfl rfl 0 (by decide) (List.mem_of_getElem? (i := 1) rfl) rfl rfl dX7_forget_1 ?_
  refine pb_get (pc := 4) C hnX7_forget_X5 1 rfl rfl 3 (by decide) (List.mem_of_getElem? (i := 2) rfl) rfl rfl dX7_forget_4 ?_
  refine pb_get (pc := 7) C hnX7_forget_X6 2 rfl rfl 3 (by decide) (List.mem_of_getElem? (i := 3) rfl) rfl rfl dX7_forget_7 ?_
  refine pb_istore_n (lv' := [(1, .int c_t_now_prices_size), (0, .ref a_t)]) (pc := 10) C dX7_forget_10 rfl (by decide) rfl ?_
  refine pb_aload_n (pc := 11) C dX7_forget_11 rfl 1 rfl ?_
  refine pb_get (pc := 12) C hnX7_forget_X7 0 rfl rfl 0 (by decide) (List.mem_of_getElem? (i := 1) rfl) rfl rfl dX7_forget_12 ?_
  refine pb_get (pc := 15) C hnX7_forget_X5 1 rfl rfl 3 (by decide) (List.mem_of_getElem? (i := 2) rfl) rfl rfl dX7_forget_15 ?_
  obtain ⟨r18, hr18, hf⟩ := pb_bind hf
  refine pb_callV (pc := 18) (n0 := 3) (ws' := (wwX7_forget cyB cyI cyJ cyZ cyS a_t a_t_now a_t_draft a_t_images a_t_kept a_t_pasts a_t_ledger a_t_settling a_t_reader a_t_fraction a_t_now_laws a_t_now_finds a_t_now_bets a_t_now_prices a_t_now_stepCells a_t_now_stepSizes a_t_now_prices_cells c_t_refusedBad c_t_refusedNo c_t_refusedFull c_t_now_steps r18)) (rest := []) (st2 := []) C (kcX6_empty l dC dI cyB cyI cyJ cyZ cyS a_t_now_prices a_t_now_prices_cells 5 6 c_t_now_prices_size r18 hr18) pb_NW_b (pb_NW_x hX) (cwV 0 C.1.2.2.2.2 gX7_forget_X6_empty rfl rfl rfl kdV_X6_empty ⟨Nat.le_of_ble_eq_true rfl, Nat.le_of_ble_eq_true rfl⟩) 0 rfl rfl [2] [0, 1] rfl rfl ⟨⟨_, rfl, rfl⟩, ⟨⟨_, rfl, rfl⟩, trivial⟩⟩ rfl (by decide +kernel) (adl := [a_t_now_prices]) rfl rfl rfl rfl rfl (Nat.le_of_ble_eq_true rfl) ⟨Nat.le_refl _, Nat.le_refl _⟩ dX7_forget_18 rfl ?_
  refine pb_iload_n (pc := 21) C dX7_forget_21 rfl 0 rfl ?_
  obtain rfl := Option.some.inj hf
  exact pb_iret (pc := 22) C hr hlk hA dX7_forget_22
def rmX7_makesAllSo : Room := { frames := 3, cells := 0, slots := 0, locals := 75 }
def wwX7_makesAllSo (cyB cyI cyJ cyZ cyS : ClassId) (a_t a_t_now a_t_draft a_t_images a_t_kept a_t_pasts a_t_ledger a_t_settling a_t_reader a_t_fraction a_t_now_laws a_t_now_finds a_t_now_bets a_t_now_prices a_t_now_stepCells a_t_now_stepSizes a_t_now_prices_cells a_p1 a_p1_open a_p1_weight : Nat) (c_t_refusedBad : Int32) (c_t_refusedNo : Int32) (c_t_refusedFull : Int32) (c_t_now_steps : Int32) (c_t_now_prices_size : Int32) (c_t_now_prices_cells : (Nat → Int32)) (c_p1_total : Int64) (c_p1_stale : Int32) (c_p1_weight : (Nat → Int64)) : va_W := [(a_t, .inr (7, [.ref a_t_now, .ref a_t_draft, .ref a_t_images, .ref a_t_kept, .ref a_t_pasts, .ref a_t_ledger, .ref a_t_settling, .ref a_t_reader, .ref a_t_fraction, .int c_t_refusedBad, .int c_t_refusedNo, .int c_t_refusedFull])), (a_t_now, .inr (5, [.ref a_t_now_laws, .ref a_t_now_finds, .ref a_t_now_bets, .ref a_t_now_prices, .ref a_t_now_stepCells, .ref a_t_now_stepSizes, .int c_t_now_steps])), (a_t_now_prices, .inr (6, [.int 5, .int 6, .ref a_t_now_prices_cells, .int c_t_now_prices_size])), (a_t_now_prices_cells, .inl (cyI, 30, .inl c_t_now_prices_cells)), (a_p1, .inr (2, [.ref a_p1_open, .ref a_p1_weight, .long c_p1_total, .int c_p1_stale])), (a_p1_weight, .inl (cyJ, 128, .inr (.inl c_p1_weight)))]
theorem hnX7_makesAllSo_X2 : ∀ w ∈ wsX20, w ∈ wsX7_makesAllSo := fun _ h => List.mem_cons_of_mem _ (List.mem_append_left _ (List.mem_append_left _ (List.mem_append_left _ (List.mem_append_right _ h))))
theorem hnX7_makesAllSo_X5 : ∀ w ∈ wsX50, w ∈ wsX7_makesAllSo := fun _ h => List.mem_cons_of_mem _ (List.mem_append_left _ (List.mem_append_right _ h))
theorem hnX7_makesAllSo_X6 : ∀ w ∈ wsX60, w ∈ wsX7_makesAllSo := fun _ h => List.mem_cons_of_mem _ (List.mem_append_right _ h)
theorem hnX7_makesAllSo_X7 : ∀ w ∈ wsX70, w ∈ wsX7_makesAllSo := fun _ h => List.mem_cons_of_mem _ (List.mem_append_left _ (List.mem_append_left _ (List.mem_append_right _ h)))
set_option maxHeartbeats 4000000 in
set_option maxRecDepth 100000 in
theorem kcX7_makesAllSo (l : Launch) (dC : Nat → ClassId) (dI : Nat → Nat → Nat) (cyB cyI cyJ cyZ cyS : ClassId) (a_t a_t_now a_t_draft a_t_images a_t_kept a_t_pasts a_t_ledger a_t_settling a_t_reader a_t_fraction a_t_now_laws a_t_now_finds a_t_now_bets a_t_now_prices a_t_now_stepCells a_t_now_stepSizes a_t_now_prices_cells a_p1 a_p1_open a_p1_weight : Nat) (c_t_refusedBad : Int32) (c_t_refusedNo : Int32) (c_t_refusedFull : Int32) (c_t_now_steps : Int32) (c_t_now_prices_size : Int32) (c_t_now_prices_cells : (Nat → Int32)) (c_p1_total : Int64) (c_p1_stale : Int32) (c_p1_weight : (Nat → Int64)) (p2 : Int32) (out : Int32) (hf : fX7_makesAllSo c_t_now_prices_size c_t_now_prices_cells c_p1_total c_p1_weight p2 = some out) : pb_K l yX7_makesAllSo wsX7_makesAllSo rmX7_makesAllSo (dC, dI) vwCl (pb_tys cyB cyI cyJ cyZ cyS) pb_NW [.ref a_t, .ref a_p1, .int p2] (wwX7_makesAllSo cyB cyI cyJ cyZ cyS a_t a_t_now a_t_draft a_t_images a_t_kept a_t_pasts a_t_ledger a_t_settling a_t_reader a_t_fraction a_t_now_laws a_t_now_finds a_t_now_bets a_t_now_prices a_t_now_stepCells a_t_now_stepSizes a_t_now_prices_cells a_p1 a_p1_open a_p1_weight c_t_refusedBad c_t_refusedNo c_t_refusedFull c_t_now_steps c_t_now_prices_size c_t_now_prices_cells c_p1_total c_p1_stale c_p1_weight) (wwX7_makesAllSo cyB cyI cyJ cyZ cyS a_t a_t_now a_t_draft a_t_images a_t_kept a_t_pasts a_t_ledger a_t_settling a_t_reader a_t_fraction a_t_now_laws a_t_now_finds a_t_now_bets a_t_now_prices a_t_now_stepCells a_t_now_stepSizes a_t_now_prices_cells a_p1 a_p1_open a_p1_weight c_t_refusedBad c_t_refusedNo c_t_refusedFull c_t_now_steps c_t_now_prices_size c_t_now_prices_cells c_p1_total c_p1_stale c_p1_weight) (some (.int out)) := by
  unfold fX7_makesAllSo at hf
  refine pb_K.ofV (cc := cX7_makesAllSo) (maxL := 15) (ret := (some .boolean)) (lv0 := [(0, .ref a_t), (1, .ref a_p1), (2, .int p2)]) (by decide) rfl (Nat.le_of_ble_eq_true rfl) rfl ?_
  intro p e s m below meth c A C hX hr hlk hA
  refine pb_iload_n (pc := 0) C dX7_makesAllSo_0 rfl 2 rfl ?_
  refine pb_bipush (v := 14) (pc := 1) C dX7_makesAllSo_1 pb_kB_14 ?_
  obtain ⟨y11, hf, hk11⟩ := pb_bind hf
  have J11 : ∀ (j11_s0 : Int32), fX7_makesAllSo_J11 c_t_now_prices_size c_t_now_prices_cells c_p1_total c_p1_weight p2 j11_s0 = some out → pb_V p l e rmX7_makesAllSo s m (([.ref a_t, .ref a_p1, .int p2] : List Value).toArray) below meth c 15 (dC, dI) vwCl A 0 0 (pb_MQ below (([.ref a_t, .ref a_p1, .int p2] : List Value).toArray) s (dC, dI) vwCl (wwX7_makesAllSo cyB cyI cyJ cyZ cyS a_t a_t_now a_t_draft a_t_images a_t_kept a_t_pasts a_t_ledger a_t_settling a_t_reader a_t_fraction a_t_now_laws a_t_now_finds a_t_now_bets a_t_now_prices a_t_now_stepCells a_t_now_stepSizes a_t_now_prices_cells a_p1 a_p1_open a_p1_weight c_t_refusedBad c_t_refusedNo c_t_refusedFull c_t_now_steps c_t_now_prices_size c_t_now_prices_cells c_p1_total c_p1_stale c_p1_weight) (wwX7_makesAllSo cyB cyI cyJ cyZ cyS a_t a_t_now a_t_draft a_t_images a_t_kept a_t_pasts a_t_ledger a_t_settling a_t_reader a_t_fraction a_t_now_laws a_t_now_finds a_t_now_bets a_t_now_prices a_t_now_stepCells a_t_now_stepSizes a_t_now_prices_cells a_p1 a_p1_open a_p1_weight c_t_refusedBad c_t_refusedNo c_t_refusedFull c_t_now_steps c_t_now_prices_size c_t_now_prices_cells c_p1_total c_p1_stale c_p1_weight) (some (.int out)) A) (wwX7_makesAllSo cyB cyI cyJ cyZ cyS a_t a_t_now a_t_draft a_t_images a_t_kept a_t_pasts a_t_ledger a_t_settling a_t_reader a_t_fraction a_t_now_laws a_t_now_finds a_t_now_bets a_t_now_prices a_t_now_stepCells a_t_now_stepSizes a_t_now_prices_cells a_p1 a_p1_open a_p1_weight c_t_refusedBad c_t_refusedNo c_t_refusedFull c_t_now_steps c_t_now_prices_size c_t_now_prices_cells c_p1_total c_p1_stale c_p1_weight) [(0, .ref a_t), (1, .ref a_p1), (2, .int p2)] [.int j11_s0] 11 := by
    intro j11_s0 hf
    unfold fX7_makesAllSo_J11 at hf
    refine pb_istore_n (lv' := [(3, .int j11_s0), (0, .ref a_t), (1, .ref a_p1), (2, .int p2)]) (pc := 11) C dX7_makesAllSo_11 rfl (by decide) rfl ?_
    refine pb_iload_n (pc := 12) C dX7_makesAllSo_12 rfl 3 rfl ?_
    refine pb_iconst (v := 2) (pc := 13) C dX7_makesAllSo_13 pb_kI_2 ?_
    refine pb_idiv (pc := 14) C dX7_makesAllSo_14 pb_nzI_2 ?_
    obtain ⟨x15, ex15, hf⟩ := pb_bind hf
    have ex15 := Option.some.inj ex15
    refine pb_topi ex15 ?_
    refine pb_istore (lv' := [(4, .int x15), (3, .int j11_s0), (0, .ref a_t), (1, .ref a_p1), (2, .int p2)]) (pc := 15) C dX7_makesAllSo_15 (by decide) rfl ?_
    refine pb_iload_n (pc := 17) C dX7_makesAllSo_17 rfl 4 rfl ?_
    refine pb_iconst (v := 2) (pc := 18) C dX7_makesAllSo_18 pb_kI_2 ?_
    refine pb_irem (pc := 19) C dX7_makesAllSo_19 pb_nzI_2 ?_
    obtain ⟨x20, ex20, hf⟩ := pb_bind hf
    have ex20 := Option.some.inj ex20
    refine pb_topi ex20 ?_
    refine pb_istore (lv' := [(5, .int x20), (4, .int x15), (3, .int j11_s0), (0, .ref a_t), (1, .ref a_p1), (2, .int p2)]) (pc := 20) C dX7_makesAllSo_20 (by decide) rfl ?_
    refine pb_iload_n (pc := 22) C dX7_makesAllSo_22 rfl 2 rfl ?_
    obtain ⟨y43, hf, hk43⟩ := pb_bind hf
    have J43 : ∀ (j43_s0 : Int64), fX7_makesAllSo_J43 c_t_now_prices_size c_t_now_prices_cells c_p1_weight j11_s0 x15 x20 j43_s0 = some out → pb_V p l e rmX7_makesAllSo s m (([.ref a_t, .ref a_p1, .int p2] : List Value).toArray) below meth c 15 (dC, dI) vwCl A 0 0 (pb_MQ below (([.ref a_t, .ref a_p1, .int p2] : List Value).toArray) s (dC, dI) vwCl (wwX7_makesAllSo cyB cyI cyJ cyZ cyS a_t a_t_now a_t_draft a_t_images a_t_kept a_t_pasts a_t_ledger a_t_settling a_t_reader a_t_fraction a_t_now_laws a_t_now_finds a_t_now_bets a_t_now_prices a_t_now_stepCells a_t_now_stepSizes a_t_now_prices_cells a_p1 a_p1_open a_p1_weight c_t_refusedBad c_t_refusedNo c_t_refusedFull c_t_now_steps c_t_now_prices_size c_t_now_prices_cells c_p1_total c_p1_stale c_p1_weight) (wwX7_makesAllSo cyB cyI cyJ cyZ cyS a_t a_t_now a_t_draft a_t_images a_t_kept a_t_pasts a_t_ledger a_t_settling a_t_reader a_t_fraction a_t_now_laws a_t_now_finds a_t_now_bets a_t_now_prices a_t_now_stepCells a_t_now_stepSizes a_t_now_prices_cells a_p1 a_p1_open a_p1_weight c_t_refusedBad c_t_refusedNo c_t_refusedFull c_t_now_steps c_t_now_prices_size c_t_now_prices_cells c_p1_total c_p1_stale c_p1_weight) (some (.int out)) A) (wwX7_makesAllSo cyB cyI cyJ cyZ cyS a_t a_t_now a_t_draft a_t_images a_t_kept a_t_pasts a_t_ledger a_t_settling a_t_reader a_t_fraction a_t_now_laws a_t_now_finds a_t_now_bets a_t_now_prices a_t_now_stepCells a_t_now_stepSizes a_t_now_prices_cells a_p1 a_p1_open a_p1_weight c_t_refusedBad c_t_refusedNo c_t_refusedFull c_t_now_steps c_t_now_prices_size c_t_now_prices_cells c_p1_total c_p1_stale c_p1_weight) [(0, .ref a_t), (1, .ref a_p1), (3, .int j11_s0), (4, .int x15), (5, .int x20)] [.long j43_s0] 43 := by
      intro j43_s0 hf
      unfold fX7_makesAllSo_J43 at hf
      refine pb_lstore (lv' := [(6, .long j43_s0), (0, .ref a_t), (1, .ref a_p1), (3, .int j11_s0), (4, .int x15), (5, .int x20)]) (pc := 43) C dX7_makesAllSo_43 (by decide) rfl ?_
      refine pb_lload (pc := 45) C dX7_makesAllSo_45 0 rfl ?_
      refine pb_lconst (v := 0) (pc := 47) C dX7_makesAllSo_47 pb_kL_0 ?_
      refine pb_lif_gt (pc := 48) (tgt := 54) C dX7_makesAllSo_48 dX7_makesAllSo_49 (by decide) (fun hc48 => ?_) (fun hc48 => ?_)
      · have hf := pb_pos hf hc48
        refine pb_iconst (v := 0) (pc := 54) C dX7_makesAllSo_54 pb_kI_0 ?_
        refine pb_istore (lv' := [(8, .int 0), (6, .long j43_s0), (0, .ref a_t), (1, .ref a_p1), (3, .int j11_s0), (4, .int x15), (5, .int x20)]) (pc := 55) C dX7_makesAllSo_55 (by decide) rfl ?_
        obtain ⟨z57, hz57, hk57⟩ := pb_bind hf
        have E57 : ∀ (e57_8 : Int32), fX7_makesAllSo_E57 e57_8 = some out → pb_V p l e rmX7_makesAllSo s m (([.ref a_t, .ref a_p1, .int p2] : List Value).toArray) below meth c 15 (dC, dI) vwCl A 0 0 (pb_MQ below (([.ref a_t, .ref a_p1, .int p2] : List Value).toArray) s (dC, dI) vwCl (wwX7_makesAllSo cyB cyI cyJ cyZ cyS a_t a_t_now a_t_draft a_t_images a_t_kept a_t_pasts a_t_ledger a_t_settling a_t_reader a_t_fraction a_t_now_laws a_t_now_finds a_t_now_bets a_t_now_prices a_t_now_stepCells a_t_now_stepSizes a_t_now_prices_cells a_p1 a_p1_open a_p1_weight c_t_refusedBad c_t_refusedNo c_t_refusedFull c_t_now_steps c_t_now_prices_size c_t_now_prices_cells c_p1_total c_p1_stale c_p1_weight) (wwX7_makesAllSo cyB cyI cyJ cyZ cyS a_t a_t_now a_t_draft a_t_images a_t_kept a_t_pasts a_t_ledger a_t_settling a_t_reader a_t_fraction a_t_now_laws a_t_now_finds a_t_now_bets a_t_now_prices a_t_now_stepCells a_t_now_stepSizes a_t_now_prices_cells a_p1 a_p1_open a_p1_weight c_t_refusedBad c_t_refusedNo c_t_refusedFull c_t_now_steps c_t_now_prices_size c_t_now_prices_cells c_p1_total c_p1_stale c_p1_weight) (some (.int out)) A) (wwX7_makesAllSo cyB cyI cyJ cyZ cyS a_t a_t_now a_t_draft a_t_images a_t_kept a_t_pasts a_t_ledger a_t_settling a_t_reader a_t_fraction a_t_now_laws a_t_now_finds a_t_now_bets a_t_now_prices a_t_now_stepCells a_t_now_stepSizes a_t_now_prices_cells a_p1 a_p1_open a_p1_weight c_t_refusedBad c_t_refusedNo c_t_refusedFull c_t_now_steps c_t_now_prices_size c_t_now_prices_cells c_p1_total c_p1_stale c_p1_weight) [] [] 220 := by
          intro e57_8 hf
          unfold fX7_makesAllSo_E57 at hf
          refine pb_iconst (v := 1) (pc := 220) C dX7_makesAllSo_220 pb_kI_1 ?_
          obtain rfl := Option.some.inj hf
          exact pb_zret (pc := 221) C hr hlk hA pb_isB1 dX7_makesAllSo_221
        have L57 : ∀ (n : Nat) (l57_8 : Int32), pb_lp (fun y => fX7_makesAllSo_L57 c_t_now_prices_size c_t_now_prices_cells c_p1_weight j11_s0 j43_s0 x15 x20 y) n l57_8 = some z57 → pb_V p l e rmX7_makesAllSo s m (([.ref a_t, .ref a_p1, .int p2] : List Value).toArray) below meth c 15 (dC, dI) vwCl A 0 0 (pb_MQ below (([.ref a_t, .ref a_p1, .int p2] : List Value).toArray) s (dC, dI) vwCl (wwX7_makesAllSo cyB cyI cyJ cyZ cyS a_t a_t_now a_t_draft a_t_images a_t_kept a_t_pasts a_t_ledger a_t_settling a_t_reader a_t_fraction a_t_now_laws a_t_now_finds a_t_now_bets a_t_now_prices a_t_now_stepCells a_t_now_stepSizes a_t_now_prices_cells a_p1 a_p1_open a_p1_weight c_t_refusedBad c_t_refusedNo c_t_refusedFull c_t_now_steps c_t_now_prices_size c_t_now_prices_cells c_p1_total c_p1_stale c_p1_weight) (wwX7_makesAllSo cyB cyI cyJ cyZ cyS a_t a_t_now a_t_draft a_t_images a_t_kept a_t_pasts a_t_ledger a_t_settling a_t_reader a_t_fraction a_t_now_laws a_t_now_finds a_t_now_bets a_t_now_prices a_t_now_stepCells a_t_now_stepSizes a_t_now_prices_cells a_p1 a_p1_open a_p1_weight c_t_refusedBad c_t_refusedNo c_t_refusedFull c_t_now_steps c_t_now_prices_size c_t_now_prices_cells c_p1_total c_p1_stale c_p1_weight) (some (.int out)) A) (wwX7_makesAllSo cyB cyI cyJ cyZ cyS a_t a_t_now a_t_draft a_t_images a_t_kept a_t_pasts a_t_ledger a_t_settling a_t_reader a_t_fraction a_t_now_laws a_t_now_finds a_t_now_bets a_t_now_prices a_t_now_stepCells a_t_now_stepSizes a_t_now_prices_cells a_p1 a_p1_open a_p1_weight c_t_refusedBad c_t_refusedNo c_t_refusedFull c_t_now_steps c_t_now_prices_size c_t_now_prices_cells c_p1_total c_p1_stale c_p1_weight) [(0, .ref a_t), (1, .ref a_p1), (3, .int j11_s0), (4, .int x15), (5, .int x20), (6, .long j43_s0), (8, .int l57_8)] [] 57 := by
          intro n
          induction n with
          | zero => intro l57_8 hf; exact (pb_lp_zero hf).elim
          | succ n ih57 =>
            intro l57_8 hf
            obtain ⟨y57, hf, hl57⟩ := pb_lp_succ hf
            have hf : fX7_makesAllSo_L57 c_t_now_prices_size c_t_now_prices_cells c_p1_weight j11_s0 j43_s0 x15 x20 l57_8 = some y57 := hf
            unfold fX7_makesAllSo_L57 at hf
            refine pb_iload (pc := 57) C dX7_makesAllSo_57 6 rfl ?_
            refine pb_aload_n (pc := 59) C dX7_makesAllSo_59 rfl 0 rfl ?_
            refine pb_get (pc := 60) C hnX7_makesAllSo_X7 0 rfl rfl 0 (by decide) (List.mem_of_getElem? (i := 2) rfl) rfl rfl dX7_makesAllSo_60 ?_
            refine pb_get (pc := 63) C hnX7_makesAllSo_X5 1 rfl rfl 3 (by decide) (List.mem_of_getElem? (i := 3) rfl) rfl rfl dX7_makesAllSo_63 ?_
            refine pb_get (pc := 66) C hnX7_makesAllSo_X6 2 rfl rfl 3 (by decide) (List.mem_of_getElem? (i := 4) rfl) rfl rfl dX7_makesAllSo_66 ?_
            refine pb_icmp_ge (pc := 69) (tgt := 220) C dX7_makesAllSo_69 (by decide) (fun hc69 => ?_) (fun hc69 => ?_)
            · have hf := pb_pos hf hc69
              obtain rfl := Option.some.inj hf
              obtain rfl := pb_esc hl57
              refine pb_sub [] rfl ?_
              have hk57 := pb_inl hk57
              exact E57 l57_8 hk57
            · have hf := pb_neg hf hc69
              refine pb_aload_n (pc := 72) C dX7_makesAllSo_72 rfl 0 rfl ?_
              refine pb_get (pc := 73) C hnX7_makesAllSo_X7 0 rfl rfl 0 (by decide) (List.mem_of_getElem? (i := 2) rfl) rfl rfl dX7_makesAllSo_73 ?_
              refine pb_get (pc := 76) C hnX7_makesAllSo_X5 1 rfl rfl 3 (by decide) (List.mem_of_getElem? (i := 3) rfl) rfl rfl dX7_makesAllSo_76 ?_
              refine pb_iload (pc := 79) C dX7_makesAllSo_79 6 rfl ?_
              refine pb_iconst (v := 0) (pc := 81) C dX7_makesAllSo_81 pb_kI_0 ?_
              obtain ⟨r82, hr82, hf⟩ := pb_bind hf
              refine pb_callV (pc := 82) (n0 := 6) (ws' := (wwX7_makesAllSo cyB cyI cyJ cyZ cyS a_t a_t_now a_t_draft a_t_images a_t_kept a_t_pasts a_t_ledger a_t_settling a_t_reader a_t_fraction a_t_now_laws a_t_now_finds a_t_now_bets a_t_now_prices a_t_now_stepCells a_t_now_stepSizes a_t_now_prices_cells a_p1 a_p1_open a_p1_weight c_t_refusedBad c_t_refusedNo c_t_refusedFull c_t_now_steps c_t_now_prices_size c_t_now_prices_cells c_p1_total c_p1_stale c_p1_weight)) (rest := []) (st2 := [.int r82]) C (kcX6_cell l dC dI cyB cyI cyJ cyZ cyS a_t_now_prices a_t_now_prices_cells 5 6 30 c_t_now_prices_size c_t_now_prices_cells l57_8 0 r82 hr82) pb_NW_b (pb_NW_x hX) (cwV 2 C.1.2.2.2.2 gX7_makesAllSo_X6_cell rfl rfl rfl kdV_X6_cell ⟨Nat.le_of_ble_eq_true rfl, Nat.le_of_ble_eq_true rfl⟩) 0 rfl rfl [2, 3] [0, 1, 4, 5] rfl rfl ⟨⟨_, rfl, rfl⟩, ⟨⟨_, rfl, rfl⟩, ⟨⟨_, rfl, rfl⟩, ⟨⟨_, rfl, rfl⟩, trivial⟩⟩⟩⟩ rfl (by decide +kernel) (adl := [a_t_now_prices, a_t_now_prices_cells]) rfl rfl rfl rfl rfl (Nat.le_of_ble_eq_true rfl) ⟨Nat.le_refl _, Nat.le_refl _⟩ dX7_makesAllSo_82 rfl ?_
              refine pb_istore (lv' := [(9, .int r82), (0, .ref a_t), (1, .ref a_p1), (3, .int j11_s0), (4, .int x15), (5, .int x20), (6, .long j43_s0), (8, .int l57_8)]) (pc := 85) C dX7_makesAllSo_85 (by decide) rfl ?_
              refine pb_aload_n (pc := 87) C dX7_makesAllSo_87 rfl 1 rfl ?_
              refine pb_get (pc := 88) C hnX7_makesAllSo_X7 0 rfl rfl 0 (by decide) (List.mem_of_getElem? (i := 2) rfl) rfl rfl dX7_makesAllSo_88 ?_
              refine pb_get (pc := 91) C hnX7_makesAllSo_X5 1 rfl rfl 3 (by decide) (List.mem_of_getElem? (i := 3) rfl) rfl rfl dX7_makesAllSo_91 ?_
              refine pb_iload (pc := 94) C dX7_makesAllSo_94 7 rfl ?_
              refine pb_iconst (v := 1) (pc := 96) C dX7_makesAllSo_96 pb_kI_1 ?_
              obtain ⟨r97, hr97, hf⟩ := pb_bind hf
              refine pb_callV (pc := 97) (n0 := 6) (ws' := (wwX7_makesAllSo cyB cyI cyJ cyZ cyS a_t a_t_now a_t_draft a_t_images a_t_kept a_t_pasts a_t_ledger a_t_settling a_t_reader a_t_fraction a_t_now_laws a_t_now_finds a_t_now_bets a_t_now_prices a_t_now_stepCells a_t_now_stepSizes a_t_now_prices_cells a_p1 a_p1_open a_p1_weight c_t_refusedBad c_t_refusedNo c_t_refusedFull c_t_now_steps c_t_now_prices_size c_t_now_prices_cells c_p1_total c_p1_stale c_p1_weight)) (rest := []) (st2 := [.int r97]) C (kcX6_cell l dC dI cyB cyI cyJ cyZ cyS a_t_now_prices a_t_now_prices_cells 5 6 30 c_t_now_prices_size c_t_now_prices_cells l57_8 1 r97 hr97) pb_NW_b (pb_NW_x hX) (cwV 2 C.1.2.2.2.2 gX7_makesAllSo_X6_cell rfl rfl rfl kdV_X6_cell ⟨Nat.le_of_ble_eq_true rfl, Nat.le_of_ble_eq_true rfl⟩) 0 rfl rfl [2, 3] [0, 1, 4, 5] rfl rfl ⟨⟨_, rfl, rfl⟩, ⟨⟨_, rfl, rfl⟩, ⟨⟨_, rfl, rfl⟩, ⟨⟨_, rfl, rfl⟩, trivial⟩⟩⟩⟩ rfl (by decide +kernel) (adl := [a_t_now_prices, a_t_now_prices_cells]) rfl rfl rfl rfl rfl (Nat.le_of_ble_eq_true rfl) ⟨Nat.le_refl _, Nat.le_refl _⟩ dX7_makesAllSo_97 rfl ?_
              refine pb_istore (lv' := [(10, .int r97), (9, .int r82), (0, .ref a_t), (1, .ref a_p1), (3, .int j11_s0), (4, .int x15), (5, .int x20), (6, .long j43_s0), (8, .int l57_8)]) (pc := 100) C dX7_makesAllSo_100 (by decide) rfl ?_
              refine pb_aload_n (pc := 102) C dX7_makesAllSo_102 rfl 2 rfl ?_
              refine pb_get (pc := 103) C hnX7_makesAllSo_X7 0 rfl rfl 0 (by decide) (List.mem_of_getElem? (i := 2) rfl) rfl rfl dX7_makesAllSo_103 ?_
              refine pb_get (pc := 106) C hnX7_makesAllSo_X5 1 rfl rfl 3 (by decide) (List.mem_of_getElem? (i := 3) rfl) rfl rfl dX7_makesAllSo_106 ?_
              refine pb_iload (pc := 109) C dX7_makesAllSo_109 8 rfl ?_
              refine pb_iconst (v := 2) (pc := 111) C dX7_makesAllSo_111 pb_kI_2 ?_
              obtain ⟨r112, hr112, hf⟩ := pb_bind hf
              refine pb_callV (pc := 112) (n0 := 6) (ws' := (wwX7_makesAllSo cyB cyI cyJ cyZ cyS a_t a_t_now a_t_draft a_t_images a_t_kept a_t_pasts a_t_ledger a_t_settling a_t_reader a_t_fraction a_t_now_laws a_t_now_finds a_t_now_bets a_t_now_prices a_t_now_stepCells a_t_now_stepSizes a_t_now_prices_cells a_p1 a_p1_open a_p1_weight c_t_refusedBad c_t_refusedNo c_t_refusedFull c_t_now_steps c_t_now_prices_size c_t_now_prices_cells c_p1_total c_p1_stale c_p1_weight)) (rest := []) (st2 := [.int r112]) C (kcX6_cell l dC dI cyB cyI cyJ cyZ cyS a_t_now_prices a_t_now_prices_cells 5 6 30 c_t_now_prices_size c_t_now_prices_cells l57_8 2 r112 hr112) pb_NW_b (pb_NW_x hX) (cwV 2 C.1.2.2.2.2 gX7_makesAllSo_X6_cell rfl rfl rfl kdV_X6_cell ⟨Nat.le_of_ble_eq_true rfl, Nat.le_of_ble_eq_true rfl⟩) 0 rfl rfl [2, 3] [0, 1, 4, 5] rfl rfl ⟨⟨_, rfl, rfl⟩, ⟨⟨_, rfl, rfl⟩, ⟨⟨_, rfl, rfl⟩, ⟨⟨_, rfl, rfl⟩, trivial⟩⟩⟩⟩ rfl (by decide +kernel) (adl := [a_t_now_prices, a_t_now_prices_cells]) rfl rfl rfl rfl rfl (Nat.le_of_ble_eq_true rfl) ⟨Nat.le_refl _, Nat.le_refl _⟩ dX7_makesAllSo_112 rfl ?_
              refine pb_istore (lv' := [(11, .int r112), (10, .int r97), (9, .int r82), (0, .ref a_t), (1, .ref a_p1), (3, .int j11_s0), (4, .int x15), (5, .int x20), (6, .long j43_s0), (8, .int l57_8)]) (pc := 115) C dX7_makesAllSo_115 (by decide) rfl ?_
              refine pb_iload_n (pc := 117) C dX7_makesAllSo_117 rfl 5 rfl ?_
              obtain ⟨y150, hf, hk150⟩ := pb_bind hf
              have J150 : ∀ (j150_s0 : Int64), fX7_makesAllSo_J150 c_t_now_prices_size c_t_now_prices_cells j43_s0 l57_8 j150_s0 = some y57 → pb_V p l e rmX7_makesAllSo s m (([.ref a_t, .ref a_p1, .int p2] : List Value).toArray) below meth c 15 (dC, dI) vwCl A 0 0 (pb_MQ below (([.ref a_t, .ref a_p1, .int p2] : List Value).toArray) s (dC, dI) vwCl (wwX7_makesAllSo cyB cyI cyJ cyZ cyS a_t a_t_now a_t_draft a_t_images a_t_kept a_t_pasts a_t_ledger a_t_settling a_t_reader a_t_fraction a_t_now_laws a_t_now_finds a_t_now_bets a_t_now_prices a_t_now_stepCells a_t_now_stepSizes a_t_now_prices_cells a_p1 a_p1_open a_p1_weight c_t_refusedBad c_t_refusedNo c_t_refusedFull c_t_now_steps c_t_now_prices_size c_t_now_prices_cells c_p1_total c_p1_stale c_p1_weight) (wwX7_makesAllSo cyB cyI cyJ cyZ cyS a_t a_t_now a_t_draft a_t_images a_t_kept a_t_pasts a_t_ledger a_t_settling a_t_reader a_t_fraction a_t_now_laws a_t_now_finds a_t_now_bets a_t_now_prices a_t_now_stepCells a_t_now_stepSizes a_t_now_prices_cells a_p1 a_p1_open a_p1_weight c_t_refusedBad c_t_refusedNo c_t_refusedFull c_t_now_steps c_t_now_prices_size c_t_now_prices_cells c_p1_total c_p1_stale c_p1_weight) (some (.int out)) A) (wwX7_makesAllSo cyB cyI cyJ cyZ cyS a_t a_t_now a_t_draft a_t_images a_t_kept a_t_pasts a_t_ledger a_t_settling a_t_reader a_t_fraction a_t_now_laws a_t_now_finds a_t_now_bets a_t_now_prices a_t_now_stepCells a_t_now_stepSizes a_t_now_prices_cells a_p1 a_p1_open a_p1_weight c_t_refusedBad c_t_refusedNo c_t_refusedFull c_t_now_steps c_t_now_prices_size c_t_now_prices_cells c_p1_total c_p1_stale c_p1_weight) [(0, .ref a_t), (1, .ref a_p1), (3, .int j11_s0), (4, .int x15), (5, .int x20), (6, .long j43_s0), (8, .int l57_8)] [.long j150_s0] 150 := by
                intro j150_s0 hf
                unfold fX7_makesAllSo_J150 at hf
                refine pb_lstore (lv' := [(12, .long j150_s0), (0, .ref a_t), (1, .ref a_p1), (3, .int j11_s0), (4, .int x15), (5, .int x20), (6, .long j43_s0), (8, .int l57_8)]) (pc := 150) C dX7_makesAllSo_150 (by decide) rfl ?_
                refine pb_lload (pc := 152) C dX7_makesAllSo_152 0 rfl ?_
                refine pb_aload_n (pc := 154) C dX7_makesAllSo_154 rfl 1 rfl ?_
                refine pb_get (pc := 155) C hnX7_makesAllSo_X7 0 rfl rfl 0 (by decide) (List.mem_of_getElem? (i := 2) rfl) rfl rfl dX7_makesAllSo_155 ?_
                refine pb_get (pc := 158) C hnX7_makesAllSo_X5 1 rfl rfl 3 (by decide) (List.mem_of_getElem? (i := 3) rfl) rfl rfl dX7_makesAllSo_158 ?_
                refine pb_iload (pc := 161) C dX7_makesAllSo_161 7 rfl ?_
                refine pb_iconst (v := 3) (pc := 163) C dX7_makesAllSo_163 pb_kI_3 ?_
                obtain ⟨r164, hr164, hf⟩ := pb_bind hf
                refine pb_callV (pc := 164) (n0 := 6) (ws' := (wwX7_makesAllSo cyB cyI cyJ cyZ cyS a_t a_t_now a_t_draft a_t_images a_t_kept a_t_pasts a_t_ledger a_t_settling a_t_reader a_t_fraction a_t_now_laws a_t_now_finds a_t_now_bets a_t_now_prices a_t_now_stepCells a_t_now_stepSizes a_t_now_prices_cells a_p1 a_p1_open a_p1_weight c_t_refusedBad c_t_refusedNo c_t_refusedFull c_t_now_steps c_t_now_prices_size c_t_now_prices_cells c_p1_total c_p1_stale c_p1_weight)) (rest := [.long j150_s0]) (st2 := [.int r164, .long j150_s0]) C (kcX6_cell l dC dI cyB cyI cyJ cyZ cyS a_t_now_prices a_t_now_prices_cells 5 6 30 c_t_now_prices_size c_t_now_prices_cells l57_8 3 r164 hr164) pb_NW_b (pb_NW_x hX) (cwV 2 C.1.2.2.2.2 gX7_makesAllSo_X6_cell rfl rfl rfl kdV_X6_cell ⟨Nat.le_of_ble_eq_true rfl, Nat.le_of_ble_eq_true rfl⟩) 0 rfl rfl [2, 3] [0, 1, 4, 5] rfl rfl ⟨⟨_, rfl, rfl⟩, ⟨⟨_, rfl, rfl⟩, ⟨⟨_, rfl, rfl⟩, ⟨⟨_, rfl, rfl⟩, trivial⟩⟩⟩⟩ rfl (by decide +kernel) (adl := [a_t_now_prices, a_t_now_prices_cells]) rfl rfl rfl rfl rfl (Nat.le_of_ble_eq_true rfl) ⟨Nat.le_refl _, Nat.le_refl _⟩ dX7_makesAllSo_164 rfl ?_
                refine pb_i2l (pc := 167) C dX7_makesAllSo_167 ?_
                refine pb_lmul (pc := 168) C dX7_makesAllSo_168 ?_
                refine pb_lload (pc := 169) C dX7_makesAllSo_169 6 rfl ?_
                refine pb_lload (pc := 171) C dX7_makesAllSo_171 0 rfl ?_
                refine pb_lsub (pc := 173) C dX7_makesAllSo_173 ?_
                obtain ⟨y183, hf, hk183⟩ := pb_bind hf
                have J183 : ∀ (j183_s0 : Int32), fX7_makesAllSo_J183 c_t_now_prices_size c_t_now_prices_cells l57_8 j183_s0 = some y57 → pb_V p l e rmX7_makesAllSo s m (([.ref a_t, .ref a_p1, .int p2] : List Value).toArray) below meth c 15 (dC, dI) vwCl A 0 0 (pb_MQ below (([.ref a_t, .ref a_p1, .int p2] : List Value).toArray) s (dC, dI) vwCl (wwX7_makesAllSo cyB cyI cyJ cyZ cyS a_t a_t_now a_t_draft a_t_images a_t_kept a_t_pasts a_t_ledger a_t_settling a_t_reader a_t_fraction a_t_now_laws a_t_now_finds a_t_now_bets a_t_now_prices a_t_now_stepCells a_t_now_stepSizes a_t_now_prices_cells a_p1 a_p1_open a_p1_weight c_t_refusedBad c_t_refusedNo c_t_refusedFull c_t_now_steps c_t_now_prices_size c_t_now_prices_cells c_p1_total c_p1_stale c_p1_weight) (wwX7_makesAllSo cyB cyI cyJ cyZ cyS a_t a_t_now a_t_draft a_t_images a_t_kept a_t_pasts a_t_ledger a_t_settling a_t_reader a_t_fraction a_t_now_laws a_t_now_finds a_t_now_bets a_t_now_prices a_t_now_stepCells a_t_now_stepSizes a_t_now_prices_cells a_p1 a_p1_open a_p1_weight c_t_refusedBad c_t_refusedNo c_t_refusedFull c_t_now_steps c_t_now_prices_size c_t_now_prices_cells c_p1_total c_p1_stale c_p1_weight) (some (.int out)) A) (wwX7_makesAllSo cyB cyI cyJ cyZ cyS a_t a_t_now a_t_draft a_t_images a_t_kept a_t_pasts a_t_ledger a_t_settling a_t_reader a_t_fraction a_t_now_laws a_t_now_finds a_t_now_bets a_t_now_prices a_t_now_stepCells a_t_now_stepSizes a_t_now_prices_cells a_p1 a_p1_open a_p1_weight c_t_refusedBad c_t_refusedNo c_t_refusedFull c_t_now_steps c_t_now_prices_size c_t_now_prices_cells c_p1_total c_p1_stale c_p1_weight) [(0, .ref a_t), (1, .ref a_p1), (3, .int j11_s0), (4, .int x15), (5, .int x20), (6, .long j43_s0), (8, .int l57_8)] [.int j183_s0] 183 := by
                  intro j183_s0 hf
                  unfold fX7_makesAllSo_J183 at hf
                  refine pb_istore (lv' := [(14, .int j183_s0), (0, .ref a_t), (1, .ref a_p1), (3, .int j11_s0), (4, .int x15), (5, .int x20), (6, .long j43_s0), (8, .int l57_8)]) (pc := 183) C dX7_makesAllSo_183 (by decide) rfl ?_
                  refine pb_iload (pc := 185) C dX7_makesAllSo_185 0 rfl ?_
                  refine pb_aload_n (pc := 187) C dX7_makesAllSo_187 rfl 1 rfl ?_
                  refine pb_get (pc := 188) C hnX7_makesAllSo_X7 0 rfl rfl 0 (by decide) (List.mem_of_getElem? (i := 2) rfl) rfl rfl dX7_makesAllSo_188 ?_
                  refine pb_get (pc := 191) C hnX7_makesAllSo_X5 1 rfl rfl 3 (by decide) (List.mem_of_getElem? (i := 3) rfl) rfl rfl dX7_makesAllSo_191 ?_
                  refine pb_iload (pc := 194) C dX7_makesAllSo_194 7 rfl ?_
                  refine pb_iconst (v := 4) (pc := 196) C dX7_makesAllSo_196 pb_kI_4 ?_
                  obtain ⟨r197, hr197, hf⟩ := pb_bind hf
                  refine pb_callV (pc := 197) (n0 := 6) (ws' := (wwX7_makesAllSo cyB cyI cyJ cyZ cyS a_t a_t_now a_t_draft a_t_images a_t_kept a_t_pasts a_t_ledger a_t_settling a_t_reader a_t_fraction a_t_now_laws a_t_now_finds a_t_now_bets a_t_now_prices a_t_now_stepCells a_t_now_stepSizes a_t_now_prices_cells a_p1 a_p1_open a_p1_weight c_t_refusedBad c_t_refusedNo c_t_refusedFull c_t_now_steps c_t_now_prices_size c_t_now_prices_cells c_p1_total c_p1_stale c_p1_weight)) (rest := [.int j183_s0]) (st2 := [.int r197, .int j183_s0]) C (kcX6_cell l dC dI cyB cyI cyJ cyZ cyS a_t_now_prices a_t_now_prices_cells 5 6 30 c_t_now_prices_size c_t_now_prices_cells l57_8 4 r197 hr197) pb_NW_b (pb_NW_x hX) (cwV 2 C.1.2.2.2.2 gX7_makesAllSo_X6_cell rfl rfl rfl kdV_X6_cell ⟨Nat.le_of_ble_eq_true rfl, Nat.le_of_ble_eq_true rfl⟩) 0 rfl rfl [2, 3] [0, 1, 4, 5] rfl rfl ⟨⟨_, rfl, rfl⟩, ⟨⟨_, rfl, rfl⟩, ⟨⟨_, rfl, rfl⟩, ⟨⟨_, rfl, rfl⟩, trivial⟩⟩⟩⟩ rfl (by decide +kernel) (adl := [a_t_now_prices, a_t_now_prices_cells]) rfl rfl rfl rfl rfl (Nat.le_of_ble_eq_true rfl) ⟨Nat.le_refl _, Nat.le_refl _⟩ dX7_makesAllSo_197 rfl ?_
                  refine pb_iconst (v := 1) (pc := 200) C dX7_makesAllSo_200 pb_kI_1 ?_
                  refine pb_icmp_ne (pc := 201) (tgt := 208) C dX7_makesAllSo_201 (by decide) (fun hc201 => ?_) (fun hc201 => ?_)
                  · have hf := pb_neg hf hc201
                    refine pb_iconst (v := 0) (pc := 208) C dX7_makesAllSo_208 pb_kI_0 ?_
                    refine pb_icmp_eq (pc := 209) (tgt := 214) C dX7_makesAllSo_209 (by decide) (fun hc209 => ?_) (fun hc209 => ?_)
                    · have hf := pb_pos hf hc209
                      refine pb_iinc (v := l57_8 + 1) (lv' := [(8, .int (l57_8 + 1)), (14, .int j183_s0), (0, .ref a_t), (1, .ref a_p1), (3, .int j11_s0), (4, .int x15), (5, .int x20), (6, .long j43_s0)]) (pc := 214) C dX7_makesAllSo_214 7 rfl (pb_inc pb_kI_1 rfl) (by decide) rfl ?_
                      refine pb_goto (pc := 217) (tgt := 57) C dX7_makesAllSo_217 (by decide) ?_
                      obtain rfl := Option.some.inj hf
                      refine pb_sub [2, 3, 4, 5, 6, 7, 0] rfl ?_
                      have hl57 := pb_inl hl57
                      exact ih57 (l57_8 + 1) hl57
                    · have hf := pb_neg hf hc209
                      refine pb_iconst (v := 0) (pc := 212) C dX7_makesAllSo_212 pb_kI_0 ?_
                      obtain rfl := Option.some.inj hf
                      obtain rfl := pb_esc hl57
                      obtain rfl := pb_esc hk57
                      exact pb_zret (pc := 213) C hr hlk hA pb_isB0 dX7_makesAllSo_213
                  · have hf := pb_pos hf hc201
                    refine pb_iconst (v := 1) (pc := 204) C dX7_makesAllSo_204 pb_kI_1 ?_
                    refine pb_goto (pc := 205) (tgt := 209) C dX7_makesAllSo_205 (by decide) ?_
                    refine pb_icmp_eq (pc := 209) (tgt := 214) C dX7_makesAllSo_209 (by decide) (fun hc209 => ?_) (fun hc209 => ?_)
                    · have hf := pb_pos hf hc209
                      refine pb_iinc (v := l57_8 + 1) (lv' := [(8, .int (l57_8 + 1)), (14, .int j183_s0), (0, .ref a_t), (1, .ref a_p1), (3, .int j11_s0), (4, .int x15), (5, .int x20), (6, .long j43_s0)]) (pc := 214) C dX7_makesAllSo_214 7 rfl (pb_inc pb_kI_1 rfl) (by decide) rfl ?_
                      refine pb_goto (pc := 217) (tgt := 57) C dX7_makesAllSo_217 (by decide) ?_
                      obtain rfl := Option.some.inj hf
                      refine pb_sub [2, 3, 4, 5, 6, 7, 0] rfl ?_
                      have hl57 := pb_inl hl57
                      exact ih57 (l57_8 + 1) hl57
                    · have hf := pb_neg hf hc209
                      refine pb_iconst (v := 0) (pc := 212) C dX7_makesAllSo_212 pb_kI_0 ?_
                      obtain rfl := Option.some.inj hf
                      obtain rfl := pb_esc hl57
                      obtain rfl := pb_esc hk57
                      exact pb_zret (pc := 213) C hr hlk hA pb_isB0 dX7_makesAllSo_213
                refine pb_lif_le (pc := 174) (tgt := 182) C dX7_makesAllSo_174 dX7_makesAllSo_175 (by decide) (fun hc174 => ?_) (fun hc174 => ?_)
                · have hf := pb_pos hf hc174
                  refine pb_iconst (v := 0) (pc := 182) C dX7_makesAllSo_182 pb_kI_0 ?_
                  obtain rfl := Option.some.inj hf
                  refine pb_sub [1, 2, 3, 4, 5, 6, 7] rfl ?_
                  exact J183 0 hk183
                · have hf := pb_neg hf hc174
                  refine pb_iconst (v := 1) (pc := 178) C dX7_makesAllSo_178 pb_kI_1 ?_
                  refine pb_goto (pc := 179) (tgt := 183) C dX7_makesAllSo_179 (by decide) ?_
                  obtain rfl := Option.some.inj hf
                  refine pb_sub [1, 2, 3, 4, 5, 6, 7] rfl ?_
                  exact J183 1 hk183
              refine pb_if_eq (pc := 118) (tgt := 140) C dX7_makesAllSo_118 (by decide) (fun hc118 => ?_) (fun hc118 => ?_)
              · have hf := pb_pos hf hc118
                refine pb_aload_n (pc := 140) C dX7_makesAllSo_140 rfl 4 rfl ?_
                refine pb_iload (pc := 141) C dX7_makesAllSo_141 2 rfl ?_
                refine pb_iload (pc := 143) C dX7_makesAllSo_143 1 rfl ?_
                refine pb_iload (pc := 145) C dX7_makesAllSo_145 0 rfl ?_
                obtain ⟨r147, hr147, hf⟩ := pb_bind hf
                refine pb_callV (pc := 147) (n0 := 6) (ws' := (wwX7_makesAllSo cyB cyI cyJ cyZ cyS a_t a_t_now a_t_draft a_t_images a_t_kept a_t_pasts a_t_ledger a_t_settling a_t_reader a_t_fraction a_t_now_laws a_t_now_finds a_t_now_bets a_t_now_prices a_t_now_stepCells a_t_now_stepSizes a_t_now_prices_cells a_p1 a_p1_open a_p1_weight c_t_refusedBad c_t_refusedNo c_t_refusedFull c_t_now_steps c_t_now_prices_size c_t_now_prices_cells c_p1_total c_p1_stale c_p1_weight)) (rest := []) (st2 := [.long r147]) C (kcX2_held l dC dI cyB cyI cyJ cyZ cyS a_p1 a_p1_open a_p1_weight c_p1_total c_p1_stale c_p1_weight r82 r97 r112 r147 hr147) pb_NW_b (pb_NW_x hX) (cwV 3 C.1.2.2.2.2 gX7_makesAllSo_X2_held rfl rfl rfl kdV_X2_held ⟨Nat.le_of_ble_eq_true rfl, Nat.le_of_ble_eq_true rfl⟩) 0 rfl rfl [4, 5] [0, 1, 2, 3] rfl rfl ⟨⟨_, rfl, rfl⟩, ⟨⟨_, rfl, rfl⟩, ⟨⟨_, rfl, rfl⟩, ⟨⟨_, rfl, rfl⟩, trivial⟩⟩⟩⟩ rfl (by decide +kernel) (adl := [a_p1, a_p1_weight]) rfl rfl rfl rfl rfl (Nat.le_of_ble_eq_true rfl) ⟨Nat.le_refl _, Nat.le_refl _⟩ dX7_makesAllSo_147 rfl ?_
                obtain rfl := Option.some.inj hf
                refine pb_sub [3, 4, 5, 6, 7, 8, 9] rfl ?_
                exact J150 r147 hk150
              · have hf := pb_neg hf hc118
                refine pb_aload_n (pc := 121) C dX7_makesAllSo_121 rfl 4 rfl ?_
                refine pb_iload (pc := 122) C dX7_makesAllSo_122 2 rfl ?_
                refine pb_iload (pc := 124) C dX7_makesAllSo_124 1 rfl ?_
                refine pb_iload (pc := 126) C dX7_makesAllSo_126 0 rfl ?_
                refine pb_iload (pc := 128) C dX7_makesAllSo_128 6 rfl ?_
                refine pb_iload (pc := 130) C dX7_makesAllSo_130 7 rfl ?_
                refine pb_bipush (v := 10) (pc := 132) C dX7_makesAllSo_132 pb_kB_10 ?_
                obtain ⟨r134, hr134, hf⟩ := pb_bind hf
                refine pb_callV (pc := 134) (n0 := 6) (ws' := (wwX7_makesAllSo cyB cyI cyJ cyZ cyS a_t a_t_now a_t_draft a_t_images a_t_kept a_t_pasts a_t_ledger a_t_settling a_t_reader a_t_fraction a_t_now_laws a_t_now_finds a_t_now_bets a_t_now_prices a_t_now_stepCells a_t_now_stepSizes a_t_now_prices_cells a_p1 a_p1_open a_p1_weight c_t_refusedBad c_t_refusedNo c_t_refusedFull c_t_now_steps c_t_now_prices_size c_t_now_prices_cells c_p1_total c_p1_stale c_p1_weight)) (rest := []) (st2 := [.long r134]) C (kcX2_heldIf l dC dI cyB cyI cyJ cyZ cyS a_p1 a_p1_open a_p1_weight c_p1_total c_p1_stale c_p1_weight r82 r97 r112 x15 x20 10 r134 hr134) pb_NW_b (pb_NW_x hX) (cwV 6 C.1.2.2.2.2 gX7_makesAllSo_X2_heldIf rfl rfl rfl kdV_X2_heldIf ⟨Nat.le_of_ble_eq_true rfl, Nat.le_of_ble_eq_true rfl⟩) 0 rfl rfl [4, 5] [0, 1, 2, 3] rfl rfl ⟨⟨_, rfl, rfl⟩, ⟨⟨_, rfl, rfl⟩, ⟨⟨_, rfl, rfl⟩, ⟨⟨_, rfl, rfl⟩, trivial⟩⟩⟩⟩ rfl (by decide +kernel) (adl := [a_p1, a_p1_weight]) rfl rfl rfl rfl rfl (Nat.le_of_ble_eq_true rfl) ⟨Nat.le_refl _, Nat.le_refl _⟩ dX7_makesAllSo_134 rfl ?_
                refine pb_goto (pc := 137) (tgt := 150) C dX7_makesAllSo_137 (by decide) ?_
                obtain rfl := Option.some.inj hf
                refine pb_sub [3, 4, 5, 6, 7, 8, 9] rfl ?_
                exact J150 r134 hk150
        refine pb_sub [2, 3, 4, 5, 6, 1, 0] rfl ?_
        exact L57 pb_FU 0 hz57
      · have hf := pb_neg hf hc48
        refine pb_iconst (v := 0) (pc := 52) C dX7_makesAllSo_52 pb_kI_0 ?_
        obtain rfl := Option.some.inj hf
        exact pb_zret (pc := 53) C hr hlk hA pb_isB0 dX7_makesAllSo_53
    refine pb_if_eq (pc := 23) (tgt := 39) C dX7_makesAllSo_23 (by decide) (fun hc23 => ?_) (fun hc23 => ?_)
    · have hf := pb_pos hf hc23
      refine pb_aload_n (pc := 39) C dX7_makesAllSo_39 rfl 4 rfl ?_
      refine pb_get (pc := 40) C hnX7_makesAllSo_X2 4 rfl rfl 2 (by decide) (List.mem_of_getElem? (i := 1) rfl) rfl rfl dX7_makesAllSo_40 ?_
      obtain rfl := Option.some.inj hf
      refine pb_sub [3, 4, 2, 1, 0] rfl ?_
      exact J43 c_p1_total hk43
    · have hf := pb_neg hf hc23
      refine pb_aload_n (pc := 26) C dX7_makesAllSo_26 rfl 4 rfl ?_
      refine pb_iload (pc := 27) C dX7_makesAllSo_27 1 rfl ?_
      refine pb_iload (pc := 29) C dX7_makesAllSo_29 0 rfl ?_
      refine pb_bipush (v := 10) (pc := 31) C dX7_makesAllSo_31 pb_kB_10 ?_
      obtain ⟨r33, hr33, hf⟩ := pb_bind hf
      refine pb_callV (pc := 33) (n0 := 6) (ws' := (wwX7_makesAllSo cyB cyI cyJ cyZ cyS a_t a_t_now a_t_draft a_t_images a_t_kept a_t_pasts a_t_ledger a_t_settling a_t_reader a_t_fraction a_t_now_laws a_t_now_finds a_t_now_bets a_t_now_prices a_t_now_stepCells a_t_now_stepSizes a_t_now_prices_cells a_p1 a_p1_open a_p1_weight c_t_refusedBad c_t_refusedNo c_t_refusedFull c_t_now_steps c_t_now_prices_size c_t_now_prices_cells c_p1_total c_p1_stale c_p1_weight)) (rest := []) (st2 := [.long r33]) C (kcX2_totalIf l dC dI cyB cyI cyJ cyZ cyS a_p1 a_p1_open a_p1_weight c_p1_total c_p1_stale c_p1_weight x15 x20 10 r33 hr33) pb_NW_b (pb_NW_x hX) (cwV 3 C.1.2.2.2.2 gX7_makesAllSo_X2_totalIf rfl rfl rfl kdV_X2_totalIf ⟨Nat.le_of_ble_eq_true rfl, Nat.le_of_ble_eq_true rfl⟩) 0 rfl rfl [4, 5] [0, 1, 2, 3] rfl rfl ⟨⟨_, rfl, rfl⟩, ⟨⟨_, rfl, rfl⟩, ⟨⟨_, rfl, rfl⟩, ⟨⟨_, rfl, rfl⟩, trivial⟩⟩⟩⟩ rfl (by decide +kernel) (adl := [a_p1, a_p1_weight]) rfl rfl rfl rfl rfl (Nat.le_of_ble_eq_true rfl) ⟨Nat.le_refl _, Nat.le_refl _⟩ dX7_makesAllSo_33 rfl ?_
      refine pb_goto (pc := 36) (tgt := 43) C dX7_makesAllSo_36 (by decide) ?_
      obtain rfl := Option.some.inj hf
      refine pb_sub [3, 4, 2, 1, 0] rfl ?_
      exact J43 r33 hk43
  refine pb_icmp_ge (pc := 3) (tgt := 10) C dX7_makesAllSo_3 (by decide) (fun hc3 => ?_) (fun hc3 => ?_)
  · have hf := pb_pos hf hc3
    refine pb_iconst (v := 0) (pc := 10) C dX7_makesAllSo_10 pb_kI_0 ?_
    obtain rfl := Option.some.inj hf
    exact J11 0 hk11
  · have hf := pb_neg hf hc3
    refine pb_iconst (v := 1) (pc := 6) C dX7_makesAllSo_6 pb_kI_1 ?_
    refine pb_goto (pc := 7) (tgt := 11) C dX7_makesAllSo_7 (by decide) ?_
    obtain rfl := Option.some.inj hf
    exact J11 1 hk11
def rmX7_told : Room := { frames := 5, cells := 0, slots := 0, locals := 119 }
def wwX7_told (cyB cyI cyJ cyZ cyS : ClassId) (a_t a_t_now a_t_draft a_t_images a_t_kept a_t_pasts a_t_ledger a_t_settling a_t_reader a_t_fraction a_t_now_laws a_t_now_finds a_t_now_bets a_t_now_prices a_t_now_stepCells a_t_now_stepSizes a_t_now_laws_cells a_t_now_finds_cells a_t_now_prices_cells a_t_pasts_open a_t_pasts_weight : Nat) (c_t_refusedBad : Int32) (c_t_refusedNo : Int32) (c_t_refusedFull : Int32) (c_t_now_steps : Int32) (c_t_now_laws_size : Int32) (c_t_now_laws_cells : (Nat → Int32)) (c_t_now_finds_size : Int32) (c_t_now_finds_cells : (Nat → Int32)) (c_t_now_prices_size : Int32) (c_t_now_prices_cells : (Nat → Int32)) (c_t_pasts_total : Int64) (c_t_pasts_stale : Int32) (c_t_pasts_open : (Nat → Int32)) (c_t_pasts_weight : (Nat → Int64)) : va_W := [(a_t, .inr (7, [.ref a_t_now, .ref a_t_draft, .ref a_t_images, .ref a_t_kept, .ref a_t_pasts, .ref a_t_ledger, .ref a_t_settling, .ref a_t_reader, .ref a_t_fraction, .int c_t_refusedBad, .int c_t_refusedNo, .int c_t_refusedFull])), (a_t_now, .inr (5, [.ref a_t_now_laws, .ref a_t_now_finds, .ref a_t_now_bets, .ref a_t_now_prices, .ref a_t_now_stepCells, .ref a_t_now_stepSizes, .int c_t_now_steps])), (a_t_now_laws, .inr (6, [.int 3, .int 8, .ref a_t_now_laws_cells, .int c_t_now_laws_size])), (a_t_now_laws_cells, .inl (cyI, 24, .inl c_t_now_laws_cells)), (a_t_now_finds, .inr (6, [.int 3, .int 10, .ref a_t_now_finds_cells, .int c_t_now_finds_size])), (a_t_now_finds_cells, .inl (cyI, 30, .inl c_t_now_finds_cells)), (a_t_now_prices, .inr (6, [.int 5, .int 6, .ref a_t_now_prices_cells, .int c_t_now_prices_size])), (a_t_now_prices_cells, .inl (cyI, 30, .inl c_t_now_prices_cells)), (a_t_pasts, .inr (2, [.ref a_t_pasts_open, .ref a_t_pasts_weight, .long c_t_pasts_total, .int c_t_pasts_stale])), (a_t_pasts_open, .inl (cyZ, 128, .inl c_t_pasts_open)), (a_t_pasts_weight, .inl (cyJ, 128, .inr (.inl c_t_pasts_weight)))]
set_option maxHeartbeats 4000000 in
set_option maxRecDepth 100000 in
theorem kcX7_told (l : Launch) (dC : Nat → ClassId) (dI : Nat → Nat → Nat) (cyB cyI cyJ cyZ cyS : ClassId) (a_t a_t_now a_t_draft a_t_images a_t_kept a_t_pasts a_t_ledger a_t_settling a_t_reader a_t_fraction a_t_now_laws a_t_now_finds a_t_now_bets a_t_now_prices a_t_now_stepCells a_t_now_stepSizes a_t_now_laws_cells a_t_now_finds_cells a_t_now_prices_cells a_t_pasts_open a_t_pasts_weight : Nat) (c_t_refusedBad : Int32) (c_t_refusedNo : Int32) (c_t_refusedFull : Int32) (c_t_now_steps : Int32) (c_t_now_laws_size : Int32) (c_t_now_laws_cells : (Nat → Int32)) (c_t_now_finds_size : Int32) (c_t_now_finds_cells : (Nat → Int32)) (c_t_now_prices_size : Int32) (c_t_now_prices_cells : (Nat → Int32)) (c_t_pasts_total : Int64) (c_t_pasts_stale : Int32) (c_t_pasts_open : (Nat → Int32)) (c_t_pasts_weight : (Nat → Int64)) (p1 : Int32) (out : (Int32 × Int32 × Int32 × Int64 × Int32 × (Nat → Int32) × (Nat → Int64))) (hf : fX7_told c_t_refusedBad c_t_refusedNo c_t_now_laws_size c_t_now_laws_cells c_t_now_finds_size c_t_now_finds_cells c_t_now_prices_size c_t_now_prices_cells c_t_pasts_total c_t_pasts_stale c_t_pasts_open c_t_pasts_weight p1 = some out) : pb_K l yX7_told wsX7_told rmX7_told (dC, dI) vwCl (pb_tys cyB cyI cyJ cyZ cyS) pb_NW [.ref a_t, .int p1] (wwX7_told cyB cyI cyJ cyZ cyS a_t a_t_now a_t_draft a_t_images a_t_kept a_t_pasts a_t_ledger a_t_settling a_t_reader a_t_fraction a_t_now_laws a_t_now_finds a_t_now_bets a_t_now_prices a_t_now_stepCells a_t_now_stepSizes a_t_now_laws_cells a_t_now_finds_cells a_t_now_prices_cells a_t_pasts_open a_t_pasts_weight c_t_refusedBad c_t_refusedNo c_t_refusedFull c_t_now_steps c_t_now_laws_size c_t_now_laws_cells c_t_now_finds_size c_t_now_finds_cells c_t_now_prices_size c_t_now_prices_cells c_t_pasts_total c_t_pasts_stale c_t_pasts_open c_t_pasts_weight) (wwX7_told cyB cyI cyJ cyZ cyS a_t a_t_now a_t_draft a_t_images a_t_kept a_t_pasts a_t_ledger a_t_settling a_t_reader a_t_fraction a_t_now_laws a_t_now_finds a_t_now_bets a_t_now_prices a_t_now_stepCells a_t_now_stepSizes a_t_now_laws_cells a_t_now_finds_cells a_t_now_prices_cells a_t_pasts_open a_t_pasts_weight out.2.1 out.2.2.1 c_t_refusedFull c_t_now_steps c_t_now_laws_size c_t_now_laws_cells c_t_now_finds_size c_t_now_finds_cells c_t_now_prices_size c_t_now_prices_cells out.2.2.2.1 out.2.2.2.2.1 out.2.2.2.2.2.1 out.2.2.2.2.2.2) (some (.int out.1)) := by
  unfold fX7_told at hf
  refine pb_K.ofV (cc := cX7_told) (maxL := 6) (ret := (some .int)) (lv0 := [(0, .ref a_t), (1, .int p1)]) (by decide) rfl (Nat.le_of_ble_eq_true rfl) rfl ?_
  intro p e s m below meth c A C hX hr hlk hA
  refine pb_iload_n (pc := 0) C dX7_told_0 rfl 1 rfl ?_
  refine pb_iconst (v := 0) (pc := 1) C dX7_told_1 pb_kI_0 ?_
  refine pb_iconst (v := 1) (pc := 2) C dX7_told_2 pb_kI_1 ?_
  obtain ⟨r3, hr3, hf⟩ := pb_bind hf
  refine pb_callS (pc := 3) (n0 := 11) (ws' := (wwX7_told cyB cyI cyJ cyZ cyS a_t a_t_now a_t_draft a_t_images a_t_kept a_t_pasts a_t_ledger a_t_settling a_t_reader a_t_fraction a_t_now_laws a_t_now_finds a_t_now_bets a_t_now_prices a_t_now_stepCells a_t_now_stepSizes a_t_now_laws_cells a_t_now_finds_cells a_t_now_prices_cells a_t_pasts_open a_t_pasts_weight c_t_refusedBad c_t_refusedNo c_t_refusedFull c_t_now_steps c_t_now_laws_size c_t_now_laws_cells c_t_now_finds_size c_t_now_finds_cells c_t_now_prices_size c_t_now_prices_cells c_t_pasts_total c_t_pasts_stale c_t_pasts_open c_t_pasts_weight)) (rest := []) (st2 := [.int r3]) C (kcX7_isWithin l dC dI cyB cyI cyJ cyZ cyS p1 0 1 r3 hr3) pb_NW_b (pb_NW_x hX) (va_cwS 3 C.1.2.2.2.2 gX7_told_X7_isWithin rfl rfl rfl kdS_X7_isWithin ⟨Nat.le_of_ble_eq_true rfl, Nat.le_of_ble_eq_true rfl⟩) [] [0, 1, 2, 3, 4, 5, 6, 7, 8, 9, 10] rfl rfl ⟨⟨_, rfl, rfl⟩, ⟨⟨_, rfl, rfl⟩, ⟨⟨_, rfl, rfl⟩, ⟨⟨_, rfl, rfl⟩, ⟨⟨_, rfl, rfl⟩, ⟨⟨_, rfl, rfl⟩, ⟨⟨_, rfl, rfl⟩, ⟨⟨_, rfl, rfl⟩, ⟨⟨_, rfl, rfl⟩, ⟨⟨_, rfl, rfl⟩, ⟨⟨_, rfl, rfl⟩, trivial⟩⟩⟩⟩⟩⟩⟩⟩⟩⟩⟩ rfl (by decide +kernel) (adl := []) rfl rfl rfl rfl rfl (Nat.le_of_ble_eq_true rfl) ⟨Nat.le_refl _, Nat.le_refl _⟩ dX7_told_3 rfl ?_
  refine pb_if_ne (pc := 6) (tgt := 16) C dX7_told_6 (by decide) (fun hc6 => ?_) (fun hc6 => ?_)
  · have hf := pb_neg hf hc6
    refine pb_aload_n (pc := 16) C dX7_told_16 rfl 0 rfl ?_
    obtain ⟨r17, hr17, hf⟩ := pb_bind hf
    refine pb_callV (pc := 17) (n0 := 11) (ws' := (wwX7_told cyB cyI cyJ cyZ cyS a_t a_t_now a_t_draft a_t_images a_t_kept a_t_pasts a_t_ledger a_t_settling a_t_reader a_t_fraction a_t_now_laws a_t_now_finds a_t_now_bets a_t_now_prices a_t_now_stepCells a_t_now_stepSizes a_t_now_laws_cells a_t_now_finds_cells a_t_now_prices_cells a_t_pasts_open a_t_pasts_weight c_t_refusedBad c_t_refusedNo c_t_refusedFull c_t_now_steps c_t_now_laws_size c_t_now_laws_cells c_t_now_finds_size c_t_now_finds_cells c_t_now_prices_size c_t_now_prices_cells r17.1 r17.2.1 r17.2.2.1 r17.2.2.2)) (rest := []) (st2 := [.ref a_t_pasts]) C (kcX7_weighed l dC dI cyB cyI cyJ cyZ cyS a_t a_t_now a_t_draft a_t_images a_t_kept a_t_pasts a_t_ledger a_t_settling a_t_reader a_t_fraction a_t_now_laws a_t_now_finds a_t_now_bets a_t_now_prices a_t_now_stepCells a_t_now_stepSizes a_t_now_laws_cells a_t_now_finds_cells a_t_pasts_open a_t_pasts_weight c_t_refusedBad c_t_refusedNo c_t_refusedFull c_t_now_steps c_t_now_laws_size c_t_now_laws_cells c_t_now_finds_size c_t_now_finds_cells c_t_pasts_total c_t_pasts_stale c_t_pasts_open c_t_pasts_weight r17 hr17) pb_NW_b (pb_NW_x hX) (cwV 0 C.1.2.2.2.2 gX7_told_X7_weighed rfl rfl rfl kdV_X7_weighed ⟨Nat.le_of_ble_eq_true rfl, Nat.le_of_ble_eq_true rfl⟩) 0 rfl rfl [0, 1, 2, 3, 4, 5, 8, 9, 10] [6, 7] rfl rfl ⟨⟨_, rfl, rfl⟩, ⟨⟨_, rfl, rfl⟩, trivial⟩⟩ rfl (by decide +kernel) (adl := [a_t, a_t_now, a_t_now_laws, a_t_now_laws_cells, a_t_now_finds, a_t_now_finds_cells, a_t_pasts, a_t_pasts_open, a_t_pasts_weight]) rfl rfl rfl rfl rfl (Nat.le_of_ble_eq_true rfl) ⟨Nat.le_refl _, Nat.le_refl _⟩ dX7_told_17 rfl ?_
    refine pb_astore_n (lv' := [(2, .ref a_t_pasts), (0, .ref a_t), (1, .int p1)]) (pc := 20) C dX7_told_20 rfl (by decide) rfl ?_
    refine pb_aload_n (pc := 21) C dX7_told_21 rfl 0 rfl ?_
    obtain ⟨r22, hr22, hf⟩ := pb_bind hf
    refine pb_callV (pc := 22) (n0 := 11) (ws' := (wwX7_told cyB cyI cyJ cyZ cyS a_t a_t_now a_t_draft a_t_images a_t_kept a_t_pasts a_t_ledger a_t_settling a_t_reader a_t_fraction a_t_now_laws a_t_now_finds a_t_now_bets a_t_now_prices a_t_now_stepCells a_t_now_stepSizes a_t_now_laws_cells a_t_now_finds_cells a_t_now_prices_cells a_t_pasts_open a_t_pasts_weight c_t_refusedBad c_t_refusedNo c_t_refusedFull c_t_now_steps c_t_now_laws_size c_t_now_laws_cells c_t_now_finds_size c_t_now_finds_cells c_t_now_prices_size c_t_now_prices_cells r17.1 r17.2.1 r17.2.2.1 r17.2.2.2)) (rest := []) (st2 := [.int r22]) C (kcX2_fits l dC dI cyB cyI cyJ cyZ cyS a_t_pasts a_t_pasts_open a_t_pasts_weight r17.1 r17.2.1 r22 hr22) pb_NW_b (pb_NW_x hX) (cwV 0 C.1.2.2.2.2 gX7_told_X2_fits rfl rfl rfl kdV_X2_fits ⟨Nat.le_of_ble_eq_true rfl, Nat.le_of_ble_eq_true rfl⟩) 0 rfl rfl [8] [0, 1, 2, 3, 4, 5, 6, 7, 9, 10] rfl rfl ⟨⟨_, rfl, rfl⟩, ⟨⟨_, rfl, rfl⟩, ⟨⟨_, rfl, rfl⟩, ⟨⟨_, rfl, rfl⟩, ⟨⟨_, rfl, rfl⟩, ⟨⟨_, rfl, rfl⟩, ⟨⟨_, rfl, rfl⟩, ⟨⟨_, rfl, rfl⟩, ⟨⟨_, rfl, rfl⟩, ⟨⟨_, rfl, rfl⟩, trivial⟩⟩⟩⟩⟩⟩⟩⟩⟩⟩ rfl (by decide +kernel) (adl := [a_t_pasts]) rfl rfl rfl rfl rfl (Nat.le_of_ble_eq_true rfl) ⟨Nat.le_refl _, Nat.le_refl _⟩ dX7_told_22 rfl ?_
    refine pb_if_ne (pc := 25) (tgt := 35) C dX7_told_25 (by decide) (fun hc25 => ?_) (fun hc25 => ?_)
    · have hf := pb_neg hf hc25
      refine pb_iconst (v := 0) (pc := 35) C dX7_told_35 pb_kI_0 ?_
      refine pb_istore_n (lv' := [(3, .int 0), (2, .ref a_t_pasts), (0, .ref a_t), (1, .int p1)]) (pc := 36) C dX7_told_36 rfl (by decide) rfl ?_
      refine pb_iconst (v := (-1)) (pc := 37) C dX7_told_37 pb_kI_m1 ?_
      refine pb_istore (lv' := [(4, .int (-1)), (3, .int 0), (2, .ref a_t_pasts), (0, .ref a_t), (1, .int p1)]) (pc := 38) C dX7_told_38 (by decide) rfl ?_
      refine pb_iconst (v := 0) (pc := 40) C dX7_told_40 pb_kI_0 ?_
      refine pb_istore (lv' := [(5, .int 0), (4, .int (-1)), (3, .int 0), (2, .ref a_t_pasts), (0, .ref a_t), (1, .int p1)]) (pc := 41) C dX7_told_41 (by decide) rfl ?_
      obtain ⟨z43, hz43, hk43⟩ := pb_bind hf
      have E43 : ∀ (e43_3 : Int32) (e43_4 : Int32) (e43_5 : Int32), fX7_told_E43 c_t_refusedBad c_t_refusedNo p1 r17 e43_3 e43_4 e43_5 = some out → pb_V p l e rmX7_told s m (([.ref a_t, .int p1] : List Value).toArray) below meth c 6 (dC, dI) vwCl A 0 0 (pb_MQ below (([.ref a_t, .int p1] : List Value).toArray) s (dC, dI) vwCl (wwX7_told cyB cyI cyJ cyZ cyS a_t a_t_now a_t_draft a_t_images a_t_kept a_t_pasts a_t_ledger a_t_settling a_t_reader a_t_fraction a_t_now_laws a_t_now_finds a_t_now_bets a_t_now_prices a_t_now_stepCells a_t_now_stepSizes a_t_now_laws_cells a_t_now_finds_cells a_t_now_prices_cells a_t_pasts_open a_t_pasts_weight c_t_refusedBad c_t_refusedNo c_t_refusedFull c_t_now_steps c_t_now_laws_size c_t_now_laws_cells c_t_now_finds_size c_t_now_finds_cells c_t_now_prices_size c_t_now_prices_cells c_t_pasts_total c_t_pasts_stale c_t_pasts_open c_t_pasts_weight) (wwX7_told cyB cyI cyJ cyZ cyS a_t a_t_now a_t_draft a_t_images a_t_kept a_t_pasts a_t_ledger a_t_settling a_t_reader a_t_fraction a_t_now_laws a_t_now_finds a_t_now_bets a_t_now_prices a_t_now_stepCells a_t_now_stepSizes a_t_now_laws_cells a_t_now_finds_cells a_t_now_prices_cells a_t_pasts_open a_t_pasts_weight out.2.1 out.2.2.1 c_t_refusedFull c_t_now_steps c_t_now_laws_size c_t_now_laws_cells c_t_now_finds_size c_t_now_finds_cells c_t_now_prices_size c_t_now_prices_cells out.2.2.2.1 out.2.2.2.2.1 out.2.2.2.2.2.1 out.2.2.2.2.2.2) (some (.int out.1)) A) (wwX7_told cyB cyI cyJ cyZ cyS a_t a_t_now a_t_draft a_t_images a_t_kept a_t_pasts a_t_ledger a_t_settling a_t_reader a_t_fraction a_t_now_laws a_t_now_finds a_t_now_bets a_t_now_prices a_t_now_stepCells a_t_now_stepSizes a_t_now_laws_cells a_t_now_finds_cells a_t_now_prices_cells a_t_pasts_open a_t_pasts_weight c_t_refusedBad c_t_refusedNo c_t_refusedFull c_t_now_steps c_t_now_laws_size c_t_now_laws_cells c_t_now_finds_size c_t_now_finds_cells c_t_now_prices_size c_t_now_prices_cells r17.1 r17.2.1 r17.2.2.1 r17.2.2.2) [(1, .int p1), (3, .int e43_3), (4, .int e43_4)] [] 82 := by
        intro e43_3 e43_4 e43_5 hf
        unfold fX7_told_E43 at hf
        refine pb_iload_n (pc := 82) C dX7_told_82 rfl 0 rfl ?_
        refine pb_if_ne (pc := 83) (tgt := 90) C dX7_told_83 (by decide) (fun hc83 => ?_) (fun hc83 => ?_)
        · have hf := pb_neg hf hc83
          refine pb_iload (pc := 90) C dX7_told_90 2 rfl ?_
          obtain rfl := Option.some.inj hf
          exact pb_iret (pc := 92) C hr hlk hA dX7_told_92
        · have hf := pb_pos hf hc83
          refine pb_iload_n (pc := 86) C dX7_told_86 rfl 1 rfl ?_
          refine pb_goto (pc := 87) (tgt := 92) C dX7_told_87 (by decide) ?_
          obtain rfl := Option.some.inj hf
          exact pb_iret (pc := 92) C hr hlk hA dX7_told_92
      have L43 : ∀ (n : Nat) (l43_3 : Int32) (l43_4 : Int32) (l43_5 : Int32), pb_lp (fun y => fX7_told_L43 c_t_now_prices_size c_t_now_prices_cells r17 y.1 y.2.1 y.2.2) n (l43_3, l43_4, l43_5) = some z43 → pb_V p l e rmX7_told s m (([.ref a_t, .int p1] : List Value).toArray) below meth c 6 (dC, dI) vwCl A 0 0 (pb_MQ below (([.ref a_t, .int p1] : List Value).toArray) s (dC, dI) vwCl (wwX7_told cyB cyI cyJ cyZ cyS a_t a_t_now a_t_draft a_t_images a_t_kept a_t_pasts a_t_ledger a_t_settling a_t_reader a_t_fraction a_t_now_laws a_t_now_finds a_t_now_bets a_t_now_prices a_t_now_stepCells a_t_now_stepSizes a_t_now_laws_cells a_t_now_finds_cells a_t_now_prices_cells a_t_pasts_open a_t_pasts_weight c_t_refusedBad c_t_refusedNo c_t_refusedFull c_t_now_steps c_t_now_laws_size c_t_now_laws_cells c_t_now_finds_size c_t_now_finds_cells c_t_now_prices_size c_t_now_prices_cells c_t_pasts_total c_t_pasts_stale c_t_pasts_open c_t_pasts_weight) (wwX7_told cyB cyI cyJ cyZ cyS a_t a_t_now a_t_draft a_t_images a_t_kept a_t_pasts a_t_ledger a_t_settling a_t_reader a_t_fraction a_t_now_laws a_t_now_finds a_t_now_bets a_t_now_prices a_t_now_stepCells a_t_now_stepSizes a_t_now_laws_cells a_t_now_finds_cells a_t_now_prices_cells a_t_pasts_open a_t_pasts_weight out.2.1 out.2.2.1 c_t_refusedFull c_t_now_steps c_t_now_laws_size c_t_now_laws_cells c_t_now_finds_size c_t_now_finds_cells c_t_now_prices_size c_t_now_prices_cells out.2.2.2.1 out.2.2.2.2.1 out.2.2.2.2.2.1 out.2.2.2.2.2.2) (some (.int out.1)) A) (wwX7_told cyB cyI cyJ cyZ cyS a_t a_t_now a_t_draft a_t_images a_t_kept a_t_pasts a_t_ledger a_t_settling a_t_reader a_t_fraction a_t_now_laws a_t_now_finds a_t_now_bets a_t_now_prices a_t_now_stepCells a_t_now_stepSizes a_t_now_laws_cells a_t_now_finds_cells a_t_now_prices_cells a_t_pasts_open a_t_pasts_weight c_t_refusedBad c_t_refusedNo c_t_refusedFull c_t_now_steps c_t_now_laws_size c_t_now_laws_cells c_t_now_finds_size c_t_now_finds_cells c_t_now_prices_size c_t_now_prices_cells r17.1 r17.2.1 r17.2.2.1 r17.2.2.2) [(0, .ref a_t), (1, .int p1), (2, .ref a_t_pasts), (3, .int l43_3), (4, .int l43_4), (5, .int l43_5)] [] 43 := by
        intro n
        induction n with
        | zero => intro l43_3 l43_4 l43_5 hf; exact (pb_lp_zero hf).elim
        | succ n ih43 =>
          intro l43_3 l43_4 l43_5 hf
          obtain ⟨y43, hf, hl43⟩ := pb_lp_succ hf
          have hf : fX7_told_L43 c_t_now_prices_size c_t_now_prices_cells r17 l43_3 l43_4 l43_5 = some y43 := hf
          unfold fX7_told_L43 at hf
          refine pb_iload (pc := 43) C dX7_told_43 5 rfl ?_
          refine pb_bipush (v := 14) (pc := 45) C dX7_told_45 pb_kB_14 ?_
          refine pb_icmp_gt (pc := 47) (tgt := 82) C dX7_told_47 (by decide) (fun hc47 => ?_) (fun hc47 => ?_)
          · have hf := pb_pos hf hc47
            obtain rfl := Option.some.inj hf
            obtain rfl := pb_esc hl43
            refine pb_sub [1, 3, 4] rfl ?_
            exact E43 l43_3 l43_4 l43_5 hk43
          · have hf := pb_neg hf hc47
            refine pb_aload_n (pc := 50) C dX7_told_50 rfl 0 rfl ?_
            refine pb_aload_n (pc := 51) C dX7_told_51 rfl 2 rfl ?_
            refine pb_iload (pc := 52) C dX7_told_52 5 rfl ?_
            obtain ⟨r54, hr54, hf⟩ := pb_bind hf
            refine pb_callV (pc := 54) (n0 := 11) (ws' := (wwX7_told cyB cyI cyJ cyZ cyS a_t a_t_now a_t_draft a_t_images a_t_kept a_t_pasts a_t_ledger a_t_settling a_t_reader a_t_fraction a_t_now_laws a_t_now_finds a_t_now_bets a_t_now_prices a_t_now_stepCells a_t_now_stepSizes a_t_now_laws_cells a_t_now_finds_cells a_t_now_prices_cells a_t_pasts_open a_t_pasts_weight c_t_refusedBad c_t_refusedNo c_t_refusedFull c_t_now_steps c_t_now_laws_size c_t_now_laws_cells c_t_now_finds_size c_t_now_finds_cells c_t_now_prices_size c_t_now_prices_cells r17.1 r17.2.1 r17.2.2.1 r17.2.2.2)) (rest := []) (st2 := [.int r54]) C (kcX7_makesAllSo l dC dI cyB cyI cyJ cyZ cyS a_t a_t_now a_t_draft a_t_images a_t_kept a_t_pasts a_t_ledger a_t_settling a_t_reader a_t_fraction a_t_now_laws a_t_now_finds a_t_now_bets a_t_now_prices a_t_now_stepCells a_t_now_stepSizes a_t_now_prices_cells a_t_pasts a_t_pasts_open a_t_pasts_weight c_t_refusedBad c_t_refusedNo c_t_refusedFull c_t_now_steps c_t_now_prices_size c_t_now_prices_cells r17.1 r17.2.1 r17.2.2.2 l43_5 r54 hr54) pb_NW_b (pb_NW_x hX) (cwV 2 C.1.2.2.2.2 gX7_told_X7_makesAllSo rfl rfl rfl kdV_X7_makesAllSo ⟨Nat.le_of_ble_eq_true rfl, Nat.le_of_ble_eq_true rfl⟩) 0 rfl rfl [0, 1, 6, 7, 8, 10] [2, 3, 4, 5, 9] rfl rfl ⟨⟨_, rfl, rfl⟩, ⟨⟨_, rfl, rfl⟩, ⟨⟨_, rfl, rfl⟩, ⟨⟨_, rfl, rfl⟩, ⟨⟨_, rfl, rfl⟩, trivial⟩⟩⟩⟩⟩ rfl (by decide +kernel) (adl := [a_t, a_t_now, a_t_now_prices, a_t_now_prices_cells, a_t_pasts, a_t_pasts_weight]) rfl rfl rfl rfl rfl (Nat.le_of_ble_eq_true rfl) ⟨Nat.le_refl _, Nat.le_refl _⟩ dX7_told_54 rfl ?_
            refine pb_if_eq (pc := 57) (tgt := 76) C dX7_told_57 (by decide) (fun hc57 => ?_) (fun hc57 => ?_)
            · have hf := pb_pos hf hc57
              refine pb_iinc (v := l43_5 + 1) (lv' := [(5, .int (l43_5 + 1)), (0, .ref a_t), (1, .int p1), (2, .ref a_t_pasts), (3, .int l43_3), (4, .int l43_4)]) (pc := 76) C dX7_told_76 5 rfl (pb_inc pb_kI_1 rfl) (by decide) rfl ?_
              refine pb_goto (pc := 79) (tgt := 43) C dX7_told_79 (by decide) ?_
              obtain rfl := Option.some.inj hf
              refine pb_sub [1, 2, 3, 4, 5, 0] rfl ?_
              have hl43 := pb_inl hl43
              exact ih43 l43_3 l43_4 (l43_5 + 1) hl43
            · have hf := pb_neg hf hc57
              refine pb_iload_n (pc := 60) C dX7_told_60 rfl 3 rfl ?_
              refine pb_if_ne (pc := 61) (tgt := 69) C dX7_told_61 (by decide) (fun hc61 => ?_) (fun hc61 => ?_)
              · have hf := pb_neg hf hc61
                refine pb_iload (pc := 69) C dX7_told_69 4 rfl ?_
                refine pb_istore (lv' := [(4, .int l43_4), (0, .ref a_t), (1, .int p1), (2, .ref a_t_pasts), (3, .int l43_3), (5, .int l43_5)]) (pc := 71) C dX7_told_71 (by decide) rfl ?_
                refine pb_iinc (v := l43_3 + 1) (lv' := [(3, .int (l43_3 + 1)), (4, .int l43_4), (0, .ref a_t), (1, .int p1), (2, .ref a_t_pasts), (5, .int l43_5)]) (pc := 73) C dX7_told_73 4 rfl (pb_inc pb_kI_1 rfl) (by decide) rfl ?_
                refine pb_iinc (v := l43_5 + 1) (lv' := [(5, .int (l43_5 + 1)), (3, .int (l43_3 + 1)), (4, .int l43_4), (0, .ref a_t), (1, .int p1), (2, .ref a_t_pasts)]) (pc := 76) C dX7_told_76 5 rfl (pb_inc pb_kI_1 rfl) (by decide) rfl ?_
                refine pb_goto (pc := 79) (tgt := 43) C dX7_told_79 (by decide) ?_
                obtain rfl := Option.some.inj hf
                refine pb_sub [3, 4, 5, 1, 2, 0] rfl ?_
                have hl43 := pb_inl hl43
                exact ih43 (l43_3 + 1) l43_4 (l43_5 + 1) hl43
              · have hf := pb_pos hf hc61
                refine pb_iload (pc := 64) C dX7_told_64 5 rfl ?_
                refine pb_goto (pc := 66) (tgt := 71) C dX7_told_66 (by decide) ?_
                refine pb_istore (lv' := [(4, .int l43_5), (0, .ref a_t), (1, .int p1), (2, .ref a_t_pasts), (3, .int l43_3), (5, .int l43_5)]) (pc := 71) C dX7_told_71 (by decide) rfl ?_
                refine pb_iinc (v := l43_3 + 1) (lv' := [(3, .int (l43_3 + 1)), (4, .int l43_5), (0, .ref a_t), (1, .int p1), (2, .ref a_t_pasts), (5, .int l43_5)]) (pc := 73) C dX7_told_73 4 rfl (pb_inc pb_kI_1 rfl) (by decide) rfl ?_
                refine pb_iinc (v := l43_5 + 1) (lv' := [(5, .int (l43_5 + 1)), (3, .int (l43_3 + 1)), (4, .int l43_5), (0, .ref a_t), (1, .int p1), (2, .ref a_t_pasts)]) (pc := 76) C dX7_told_76 5 rfl (pb_inc pb_kI_1 rfl) (by decide) rfl ?_
                refine pb_goto (pc := 79) (tgt := 43) C dX7_told_79 (by decide) ?_
                obtain rfl := Option.some.inj hf
                refine pb_sub [3, 4, 5, 1, 2, 0] rfl ?_
                have hl43 := pb_inl hl43
                exact ih43 (l43_3 + 1) l43_5 (l43_5 + 1) hl43
      refine pb_sub [4, 5, 3, 2, 1, 0] rfl ?_
      exact L43 pb_FU 0 (-1) 0 hz43
    · have hf := pb_pos hf hc25
      refine pb_aload_n (pc := 28) C dX7_told_28 rfl 1 rfl ?_
      refine pb_bipush (v := (-3)) (pc := 29) C dX7_told_29 pb_kB_m3 ?_
      obtain ⟨r31, hr31, hf⟩ := pb_bind hf
      refine pb_callV (pc := 31) (n0 := 11) (ws' := (wwX7_told cyB cyI cyJ cyZ cyS a_t a_t_now a_t_draft a_t_images a_t_kept a_t_pasts a_t_ledger a_t_settling a_t_reader a_t_fraction a_t_now_laws a_t_now_finds a_t_now_bets a_t_now_prices a_t_now_stepCells a_t_now_stepSizes a_t_now_laws_cells a_t_now_finds_cells a_t_now_prices_cells a_t_pasts_open a_t_pasts_weight c_t_refusedBad r31.2 c_t_refusedFull c_t_now_steps c_t_now_laws_size c_t_now_laws_cells c_t_now_finds_size c_t_now_finds_cells c_t_now_prices_size c_t_now_prices_cells r17.1 r17.2.1 r17.2.2.1 r17.2.2.2)) (rest := []) (st2 := [.int r31.1]) C (kcX7_asNo l dC dI cyB cyI cyJ cyZ cyS a_t a_t_now a_t_draft a_t_images a_t_kept a_t_pasts a_t_ledger a_t_settling a_t_reader a_t_fraction c_t_refusedBad c_t_refusedNo c_t_refusedFull (-3) r31 hr31) pb_NW_b (pb_NW_x hX) (cwV 1 C.1.2.2.2.2 gX7_told_X7_asNo rfl rfl rfl kdV_X7_asNo ⟨Nat.le_of_ble_eq_true rfl, Nat.le_of_ble_eq_true rfl⟩) 0 rfl rfl [0] [1, 2, 3, 4, 5, 6, 7, 8, 9, 10] rfl rfl ⟨⟨_, rfl, rfl⟩, ⟨⟨_, rfl, rfl⟩, ⟨⟨_, rfl, rfl⟩, ⟨⟨_, rfl, rfl⟩, ⟨⟨_, rfl, rfl⟩, ⟨⟨_, rfl, rfl⟩, ⟨⟨_, rfl, rfl⟩, ⟨⟨_, rfl, rfl⟩, ⟨⟨_, rfl, rfl⟩, ⟨⟨_, rfl, rfl⟩, trivial⟩⟩⟩⟩⟩⟩⟩⟩⟩⟩ rfl (by decide +kernel) (adl := [a_t]) rfl rfl rfl rfl rfl (Nat.le_of_ble_eq_true rfl) ⟨Nat.le_refl _, Nat.le_refl _⟩ dX7_told_31 rfl ?_
      obtain rfl := Option.some.inj hf
      exact pb_iret (pc := 34) C hr hlk hA dX7_told_34
  · have hf := pb_pos hf hc6
    refine pb_aload_n (pc := 9) C dX7_told_9 rfl 0 rfl ?_
    refine pb_bipush (v := (-2)) (pc := 10) C dX7_told_10 pb_kB_m2 ?_
    obtain ⟨r12, hr12, hf⟩ := pb_bind hf
    refine pb_callV (pc := 12) (n0 := 11) (ws' := (wwX7_told cyB cyI cyJ cyZ cyS a_t a_t_now a_t_draft a_t_images a_t_kept a_t_pasts a_t_ledger a_t_settling a_t_reader a_t_fraction a_t_now_laws a_t_now_finds a_t_now_bets a_t_now_prices a_t_now_stepCells a_t_now_stepSizes a_t_now_laws_cells a_t_now_finds_cells a_t_now_prices_cells a_t_pasts_open a_t_pasts_weight r12.2 c_t_refusedNo c_t_refusedFull c_t_now_steps c_t_now_laws_size c_t_now_laws_cells c_t_now_finds_size c_t_now_finds_cells c_t_now_prices_size c_t_now_prices_cells c_t_pasts_total c_t_pasts_stale c_t_pasts_open c_t_pasts_weight)) (rest := []) (st2 := [.int r12.1]) C (kcX7_asBad l dC dI cyB cyI cyJ cyZ cyS a_t a_t_now a_t_draft a_t_images a_t_kept a_t_pasts a_t_ledger a_t_settling a_t_reader a_t_fraction c_t_refusedBad c_t_refusedNo c_t_refusedFull (-2) r12 hr12) pb_NW_b (pb_NW_x hX) (cwV 1 C.1.2.2.2.2 gX7_told_X7_asBad rfl rfl rfl kdV_X7_asBad ⟨Nat.le_of_ble_eq_true rfl, Nat.le_of_ble_eq_true rfl⟩) 0 rfl rfl [0] [1, 2, 3, 4, 5, 6, 7, 8, 9, 10] rfl rfl ⟨⟨_, rfl, rfl⟩, ⟨⟨_, rfl, rfl⟩, ⟨⟨_, rfl, rfl⟩, ⟨⟨_, rfl, rfl⟩, ⟨⟨_, rfl, rfl⟩, ⟨⟨_, rfl, rfl⟩, ⟨⟨_, rfl, rfl⟩, ⟨⟨_, rfl, rfl⟩, ⟨⟨_, rfl, rfl⟩, ⟨⟨_, rfl, rfl⟩, trivial⟩⟩⟩⟩⟩⟩⟩⟩⟩⟩ rfl (by decide +kernel) (adl := [a_t]) rfl rfl rfl rfl rfl (Nat.le_of_ble_eq_true rfl) ⟨Nat.le_refl _, Nat.le_refl _⟩ dX7_told_12 rfl ?_
    obtain rfl := Option.some.inj hf
    exact pb_iret (pc := 15) C hr hlk hA dX7_told_15
def rmX7_days : Room := { frames := 5, cells := 0, slots := 0, locals := 119 }
def wwX7_days (cyB cyI cyJ cyZ cyS : ClassId) (a_t a_t_now a_t_draft a_t_images a_t_kept a_t_pasts a_t_ledger a_t_settling a_t_reader a_t_fraction a_t_now_laws a_t_now_finds a_t_now_bets a_t_now_prices a_t_now_stepCells a_t_now_stepSizes a_t_now_laws_cells a_t_now_finds_cells a_t_pasts_open a_t_pasts_weight a_t_settling_left : Nat) (c_t_refusedBad : Int32) (c_t_refusedNo : Int32) (c_t_refusedFull : Int32) (c_t_now_steps : Int32) (c_t_now_laws_size : Int32) (c_t_now_laws_cells : (Nat → Int32)) (c_t_now_finds_size : Int32) (c_t_now_finds_cells : (Nat → Int32)) (c_t_pasts_total : Int64) (c_t_pasts_stale : Int32) (c_t_pasts_open : (Nat → Int32)) (c_t_pasts_weight : (Nat → Int64)) (c_t_settling_leftCount : Int32) (c_t_settling_x : Int64) (c_t_settling_left : (Nat → Int32)) (c_t_fraction_above : Int64) (c_t_fraction_below : Int64) : va_W := [(a_t, .inr (7, [.ref a_t_now, .ref a_t_draft, .ref a_t_images, .ref a_t_kept, .ref a_t_pasts, .ref a_t_ledger, .ref a_t_settling, .ref a_t_reader, .ref a_t_fraction, .int c_t_refusedBad, .int c_t_refusedNo, .int c_t_refusedFull])), (a_t_now, .inr (5, [.ref a_t_now_laws, .ref a_t_now_finds, .ref a_t_now_bets, .ref a_t_now_prices, .ref a_t_now_stepCells, .ref a_t_now_stepSizes, .int c_t_now_steps])), (a_t_now_laws, .inr (6, [.int 3, .int 8, .ref a_t_now_laws_cells, .int c_t_now_laws_size])), (a_t_now_laws_cells, .inl (cyI, 24, .inl c_t_now_laws_cells)), (a_t_now_finds, .inr (6, [.int 3, .int 10, .ref a_t_now_finds_cells, .int c_t_now_finds_size])), (a_t_now_finds_cells, .inl (cyI, 30, .inl c_t_now_finds_cells)), (a_t_pasts, .inr (2, [.ref a_t_pasts_open, .ref a_t_pasts_weight, .long c_t_pasts_total, .int c_t_pasts_stale])), (a_t_pasts_open, .inl (cyZ, 128, .inl c_t_pasts_open)), (a_t_pasts_weight, .inl (cyJ, 128, .inr (.inl c_t_pasts_weight))), (a_t_settling, .inr (4, [.ref a_t_settling_left, .int c_t_settling_leftCount, .long c_t_settling_x])), (a_t_settling_left, .inl (cyI, 128, .inl c_t_settling_left)), (a_t_fraction, .inr (0, [.long c_t_fraction_above, .long c_t_fraction_below]))]
theorem hnX7_days_X7 : ∀ w ∈ wsX70, w ∈ wsX7_days := fun _ h => List.mem_cons_of_mem _ (List.mem_append_left _ (List.mem_append_left _ (List.mem_append_left _ (List.mem_append_left _ (List.mem_append_left _ (List.mem_append_right _ h))))))
set_option maxHeartbeats 4000000 in
set_option maxRecDepth 100000 in
theorem kcX7_days (l : Launch) (dC : Nat → ClassId) (dI : Nat → Nat → Nat) (cyB cyI cyJ cyZ cyS : ClassId) (a_t a_t_now a_t_draft a_t_images a_t_kept a_t_pasts a_t_ledger a_t_settling a_t_reader a_t_fraction a_t_now_laws a_t_now_finds a_t_now_bets a_t_now_prices a_t_now_stepCells a_t_now_stepSizes a_t_now_laws_cells a_t_now_finds_cells a_t_pasts_open a_t_pasts_weight a_t_settling_left : Nat) (c_t_refusedBad : Int32) (c_t_refusedNo : Int32) (c_t_refusedFull : Int32) (c_t_now_steps : Int32) (c_t_now_laws_size : Int32) (c_t_now_laws_cells : (Nat → Int32)) (c_t_now_finds_size : Int32) (c_t_now_finds_cells : (Nat → Int32)) (c_t_pasts_total : Int64) (c_t_pasts_stale : Int32) (c_t_pasts_open : (Nat → Int32)) (c_t_pasts_weight : (Nat → Int64)) (c_t_settling_leftCount : Int32) (c_t_settling_x : Int64) (c_t_settling_left : (Nat → Int32)) (c_t_fraction_above : Int64) (c_t_fraction_below : Int64) (p1 : Int32) (p2 : Int32) (p3 : Int32) (p4 : Int32) (p5 : Int32) (out : (Int32 × Int32 × Int32 × Int64 × Int32 × (Nat → Int32) × (Nat → Int64) × Int32 × Int64 × (Nat → Int32) × Int64 × Int64)) (hf : fX7_days c_t_refusedBad c_t_refusedNo c_t_now_laws_size c_t_now_laws_cells c_t_now_finds_size c_t_now_finds_cells c_t_pasts_total c_t_pasts_stale c_t_pasts_open c_t_pasts_weight c_t_settling_leftCount c_t_settling_x c_t_settling_left c_t_fraction_above c_t_fraction_below p1 p2 p3 p4 p5 = some out) : pb_K l yX7_days wsX7_days rmX7_days (dC, dI) vwCl (pb_tys cyB cyI cyJ cyZ cyS) pb_NW [.ref a_t, .int p1, .int p2, .int p3, .int p4, .int p5] (wwX7_days cyB cyI cyJ cyZ cyS a_t a_t_now a_t_draft a_t_images a_t_kept a_t_pasts a_t_ledger a_t_settling a_t_reader a_t_fraction a_t_now_laws a_t_now_finds a_t_now_bets a_t_now_prices a_t_now_stepCells a_t_now_stepSizes a_t_now_laws_cells a_t_now_finds_cells a_t_pasts_open a_t_pasts_weight a_t_settling_left c_t_refusedBad c_t_refusedNo c_t_refusedFull c_t_now_steps c_t_now_laws_size c_t_now_laws_cells c_t_now_finds_size c_t_now_finds_cells c_t_pasts_total c_t_pasts_stale c_t_pasts_open c_t_pasts_weight c_t_settling_leftCount c_t_settling_x c_t_settling_left c_t_fraction_above c_t_fraction_below) (wwX7_days cyB cyI cyJ cyZ cyS a_t a_t_now a_t_draft a_t_images a_t_kept a_t_pasts a_t_ledger a_t_settling a_t_reader a_t_fraction a_t_now_laws a_t_now_finds a_t_now_bets a_t_now_prices a_t_now_stepCells a_t_now_stepSizes a_t_now_laws_cells a_t_now_finds_cells a_t_pasts_open a_t_pasts_weight a_t_settling_left out.2.1 out.2.2.1 c_t_refusedFull c_t_now_steps c_t_now_laws_size c_t_now_laws_cells c_t_now_finds_size c_t_now_finds_cells out.2.2.2.1 out.2.2.2.2.1 out.2.2.2.2.2.1 out.2.2.2.2.2.2.1 out.2.2.2.2.2.2.2.1 out.2.2.2.2.2.2.2.2.1 out.2.2.2.2.2.2.2.2.2.1 out.2.2.2.2.2.2.2.2.2.2.1 out.2.2.2.2.2.2.2.2.2.2.2) (some (.int out.1)) := by
  unfold fX7_days at hf
  refine pb_K.ofV (cc := cX7_days) (maxL := 10) (ret := (some .int)) (lv0 := [(0, .ref a_t), (1, .int p1), (2, .int p2), (3, .int p3), (4, .int p4), (5, .int p5)]) (by decide) rfl (Nat.le_of_ble_eq_true rfl) rfl ?_
  intro p e s m below meth c A C hX hr hlk hA
  refine pb_iload_n (pc := 0) C dX7_days_0 rfl 1 rfl ?_
  refine pb_iconst (v := 0) (pc := 1) C dX7_days_1 pb_kI_0 ?_
  refine pb_ldcw (v := 999999) (pc := 2) C dX7_days_2 (List.mem_of_getElem? (i := 1) rfl) ?_
  obtain ⟨r5, hr5, hf⟩ := pb_bind hf
  refine pb_callS (pc := 5) (n0 := 12) (ws' := (wwX7_days cyB cyI cyJ cyZ cyS a_t a_t_now a_t_draft a_t_images a_t_kept a_t_pasts a_t_ledger a_t_settling a_t_reader a_t_fraction a_t_now_laws a_t_now_finds a_t_now_bets a_t_now_prices a_t_now_stepCells a_t_now_stepSizes a_t_now_laws_cells a_t_now_finds_cells a_t_pasts_open a_t_pasts_weight a_t_settling_left c_t_refusedBad c_t_refusedNo c_t_refusedFull c_t_now_steps c_t_now_laws_size c_t_now_laws_cells c_t_now_finds_size c_t_now_finds_cells c_t_pasts_total c_t_pasts_stale c_t_pasts_open c_t_pasts_weight c_t_settling_leftCount c_t_settling_x c_t_settling_left c_t_fraction_above c_t_fraction_below)) (rest := []) (st2 := [.int r5]) C (kcX7_isWithin l dC dI cyB cyI cyJ cyZ cyS p1 0 999999 r5 hr5) pb_NW_b (pb_NW_x hX) (va_cwS 3 C.1.2.2.2.2 gX7_days_X7_isWithin rfl rfl rfl kdS_X7_isWithin ⟨Nat.le_of_ble_eq_true rfl, Nat.le_of_ble_eq_true rfl⟩) [] [0, 1, 2, 3, 4, 5, 6, 7, 8, 9, 10, 11] rfl rfl ⟨⟨_, rfl, rfl⟩, ⟨⟨_, rfl, rfl⟩, ⟨⟨_, rfl, rfl⟩, ⟨⟨_, rfl, rfl⟩, ⟨⟨_, rfl, rfl⟩, ⟨⟨_, rfl, rfl⟩, ⟨⟨_, rfl, rfl⟩, ⟨⟨_, rfl, rfl⟩, ⟨⟨_, rfl, rfl⟩, ⟨⟨_, rfl, rfl⟩, ⟨⟨_, rfl, rfl⟩, ⟨⟨_, rfl, rfl⟩, trivial⟩⟩⟩⟩⟩⟩⟩⟩⟩⟩⟩⟩ rfl (by decide +kernel) (adl := []) rfl rfl rfl rfl rfl (Nat.le_of_ble_eq_true rfl) ⟨Nat.le_refl _, Nat.le_refl _⟩ dX7_days_5 rfl ?_
  refine pb_if_eq (pc := 8) (tgt := 32) C dX7_days_8 (by decide) (fun hc8 => ?_) (fun hc8 => ?_)
  · have hf := pb_pos hf hc8
    refine pb_aload_n (pc := 32) C dX7_days_32 rfl 0 rfl ?_
    refine pb_bipush (v := (-2)) (pc := 33) C dX7_days_33 pb_kB_m2 ?_
    obtain ⟨r35, hr35, hf⟩ := pb_bind hf
    refine pb_callV (pc := 35) (n0 := 12) (ws' := (wwX7_days cyB cyI cyJ cyZ cyS a_t a_t_now a_t_draft a_t_images a_t_kept a_t_pasts a_t_ledger a_t_settling a_t_reader a_t_fraction a_t_now_laws a_t_now_finds a_t_now_bets a_t_now_prices a_t_now_stepCells a_t_now_stepSizes a_t_now_laws_cells a_t_now_finds_cells a_t_pasts_open a_t_pasts_weight a_t_settling_left r35.2 c_t_refusedNo c_t_refusedFull c_t_now_steps c_t_now_laws_size c_t_now_laws_cells c_t_now_finds_size c_t_now_finds_cells c_t_pasts_total c_t_pasts_stale c_t_pasts_open c_t_pasts_weight c_t_settling_leftCount c_t_settling_x c_t_settling_left c_t_fraction_above c_t_fraction_below)) (rest := []) (st2 := [.int r35.1]) C (kcX7_asBad l dC dI cyB cyI cyJ cyZ cyS a_t a_t_now a_t_draft a_t_images a_t_kept a_t_pasts a_t_ledger a_t_settling a_t_reader a_t_fraction c_t_refusedBad c_t_refusedNo c_t_refusedFull (-2) r35 hr35) pb_NW_b (pb_NW_x hX) (cwV 1 C.1.2.2.2.2 gX7_days_X7_asBad rfl rfl rfl kdV_X7_asBad ⟨Nat.le_of_ble_eq_true rfl, Nat.le_of_ble_eq_true rfl⟩) 0 rfl rfl [0] [1, 2, 3, 4, 5, 6, 7, 8, 9, 10, 11] rfl rfl ⟨⟨_, rfl, rfl⟩, ⟨⟨_, rfl, rfl⟩, ⟨⟨_, rfl, rfl⟩, ⟨⟨_, rfl, rfl⟩, ⟨⟨_, rfl, rfl⟩, ⟨⟨_, rfl, rfl⟩, ⟨⟨_, rfl, rfl⟩, ⟨⟨_, rfl, rfl⟩, ⟨⟨_, rfl, rfl⟩, ⟨⟨_, rfl, rfl⟩, ⟨⟨_, rfl, rfl⟩, trivial⟩⟩⟩⟩⟩⟩⟩⟩⟩⟩⟩ rfl (by decide +kernel) (adl := [a_t]) rfl rfl rfl rfl rfl (Nat.le_of_ble_eq_true rfl) ⟨Nat.le_refl _, Nat.le_refl _⟩ dX7_days_35 rfl ?_
    obtain rfl := Option.some.inj hf
    exact pb_iret (pc := 38) C hr hlk hA dX7_days_38
  · have hf := pb_neg hf hc8
    refine pb_iload_n (pc := 11) C dX7_days_11 rfl 2 rfl ?_
    refine pb_iconst (v := 1) (pc := 12) C dX7_days_12 pb_kI_1 ?_
    refine pb_bipush (v := 30) (pc := 13) C dX7_days_13 pb_kB_30 ?_
    obtain ⟨r15, hr15, hf⟩ := pb_bind hf
    refine pb_callS (pc := 15) (n0 := 12) (ws' := (wwX7_days cyB cyI cyJ cyZ cyS a_t a_t_now a_t_draft a_t_images a_t_kept a_t_pasts a_t_ledger a_t_settling a_t_reader a_t_fraction a_t_now_laws a_t_now_finds a_t_now_bets a_t_now_prices a_t_now_stepCells a_t_now_stepSizes a_t_now_laws_cells a_t_now_finds_cells a_t_pasts_open a_t_pasts_weight a_t_settling_left c_t_refusedBad c_t_refusedNo c_t_refusedFull c_t_now_steps c_t_now_laws_size c_t_now_laws_cells c_t_now_finds_size c_t_now_finds_cells c_t_pasts_total c_t_pasts_stale c_t_pasts_open c_t_pasts_weight c_t_settling_leftCount c_t_settling_x c_t_settling_left c_t_fraction_above c_t_fraction_below)) (rest := []) (st2 := [.int r15]) C (kcX7_isWithin l dC dI cyB cyI cyJ cyZ cyS p2 1 30 r15 hr15) pb_NW_b (pb_NW_x hX) (va_cwS 3 C.1.2.2.2.2 gX7_days_X7_isWithin rfl rfl rfl kdS_X7_isWithin ⟨Nat.le_of_ble_eq_true rfl, Nat.le_of_ble_eq_true rfl⟩) [] [0, 1, 2, 3, 4, 5, 6, 7, 8, 9, 10, 11] rfl rfl ⟨⟨_, rfl, rfl⟩, ⟨⟨_, rfl, rfl⟩, ⟨⟨_, rfl, rfl⟩, ⟨⟨_, rfl, rfl⟩, ⟨⟨_, rfl, rfl⟩, ⟨⟨_, rfl, rfl⟩, ⟨⟨_, rfl, rfl⟩, ⟨⟨_, rfl, rfl⟩, ⟨⟨_, rfl, rfl⟩, ⟨⟨_, rfl, rfl⟩, ⟨⟨_, rfl, rfl⟩, ⟨⟨_, rfl, rfl⟩, trivial⟩⟩⟩⟩⟩⟩⟩⟩⟩⟩⟩⟩ rfl (by decide +kernel) (adl := []) rfl rfl rfl rfl rfl (Nat.le_of_ble_eq_true rfl) ⟨Nat.le_refl _, Nat.le_refl _⟩ dX7_days_15 rfl ?_
    refine pb_if_eq (pc := 18) (tgt := 32) C dX7_days_18 (by decide) (fun hc18 => ?_) (fun hc18 => ?_)
    · have hf := pb_pos hf hc18
      refine pb_aload_n (pc := 32) C dX7_days_32 rfl 0 rfl ?_
      refine pb_bipush (v := (-2)) (pc := 33) C dX7_days_33 pb_kB_m2 ?_
      obtain ⟨r35, hr35, hf⟩ := pb_bind hf
      refine pb_callV (pc := 35) (n0 := 12) (ws' := (wwX7_days cyB cyI cyJ cyZ cyS a_t a_t_now a_t_draft a_t_images a_t_kept a_t_pasts a_t_ledger a_t_settling a_t_reader a_t_fraction a_t_now_laws a_t_now_finds a_t_now_bets a_t_now_prices a_t_now_stepCells a_t_now_stepSizes a_t_now_laws_cells a_t_now_finds_cells a_t_pasts_open a_t_pasts_weight a_t_settling_left r35.2 c_t_refusedNo c_t_refusedFull c_t_now_steps c_t_now_laws_size c_t_now_laws_cells c_t_now_finds_size c_t_now_finds_cells c_t_pasts_total c_t_pasts_stale c_t_pasts_open c_t_pasts_weight c_t_settling_leftCount c_t_settling_x c_t_settling_left c_t_fraction_above c_t_fraction_below)) (rest := []) (st2 := [.int r35.1]) C (kcX7_asBad l dC dI cyB cyI cyJ cyZ cyS a_t a_t_now a_t_draft a_t_images a_t_kept a_t_pasts a_t_ledger a_t_settling a_t_reader a_t_fraction c_t_refusedBad c_t_refusedNo c_t_refusedFull (-2) r35 hr35) pb_NW_b (pb_NW_x hX) (cwV 1 C.1.2.2.2.2 gX7_days_X7_asBad rfl rfl rfl kdV_X7_asBad ⟨Nat.le_of_ble_eq_true rfl, Nat.le_of_ble_eq_true rfl⟩) 0 rfl rfl [0] [1, 2, 3, 4, 5, 6, 7, 8, 9, 10, 11] rfl rfl ⟨⟨_, rfl, rfl⟩, ⟨⟨_, rfl, rfl⟩, ⟨⟨_, rfl, rfl⟩, ⟨⟨_, rfl, rfl⟩, ⟨⟨_, rfl, rfl⟩, ⟨⟨_, rfl, rfl⟩, ⟨⟨_, rfl, rfl⟩, ⟨⟨_, rfl, rfl⟩, ⟨⟨_, rfl, rfl⟩, ⟨⟨_, rfl, rfl⟩, ⟨⟨_, rfl, rfl⟩, trivial⟩⟩⟩⟩⟩⟩⟩⟩⟩⟩⟩ rfl (by decide +kernel) (adl := [a_t]) rfl rfl rfl rfl rfl (Nat.le_of_ble_eq_true rfl) ⟨Nat.le_refl _, Nat.le_refl _⟩ dX7_days_35 rfl ?_
      obtain rfl := Option.some.inj hf
      exact pb_iret (pc := 38) C hr hlk hA dX7_days_38
    · have hf := pb_neg hf hc18
      refine pb_iload_n (pc := 21) C dX7_days_21 rfl 3 rfl ?_
      refine pb_iload (pc := 22) C dX7_days_22 4 rfl ?_
      refine pb_iload (pc := 24) C dX7_days_24 5 rfl ?_
      obtain ⟨r26, hr26, hf⟩ := pb_bind hf
      refine pb_callS (pc := 26) (n0 := 12) (ws' := (wwX7_days cyB cyI cyJ cyZ cyS a_t a_t_now a_t_draft a_t_images a_t_kept a_t_pasts a_t_ledger a_t_settling a_t_reader a_t_fraction a_t_now_laws a_t_now_finds a_t_now_bets a_t_now_prices a_t_now_stepCells a_t_now_stepSizes a_t_now_laws_cells a_t_now_finds_cells a_t_pasts_open a_t_pasts_weight a_t_settling_left c_t_refusedBad c_t_refusedNo c_t_refusedFull c_t_now_steps c_t_now_laws_size c_t_now_laws_cells c_t_now_finds_size c_t_now_finds_cells c_t_pasts_total c_t_pasts_stale c_t_pasts_open c_t_pasts_weight c_t_settling_leftCount c_t_settling_x c_t_settling_left c_t_fraction_above c_t_fraction_below)) (rest := []) (st2 := [.int r26]) C (kcX7_isClaim l dC dI cyB cyI cyJ cyZ cyS p3 p4 p5 r26 hr26) pb_NW_b (pb_NW_x hX) (va_cwS 3 C.1.2.2.2.2 gX7_days_X7_isClaim rfl rfl rfl kdS_X7_isClaim ⟨Nat.le_of_ble_eq_true rfl, Nat.le_of_ble_eq_true rfl⟩) [] [0, 1, 2, 3, 4, 5, 6, 7, 8, 9, 10, 11] rfl rfl ⟨⟨_, rfl, rfl⟩, ⟨⟨_, rfl, rfl⟩, ⟨⟨_, rfl, rfl⟩, ⟨⟨_, rfl, rfl⟩, ⟨⟨_, rfl, rfl⟩, ⟨⟨_, rfl, rfl⟩, ⟨⟨_, rfl, rfl⟩, ⟨⟨_, rfl, rfl⟩, ⟨⟨_, rfl, rfl⟩, ⟨⟨_, rfl, rfl⟩, ⟨⟨_, rfl, rfl⟩, ⟨⟨_, rfl, rfl⟩, trivial⟩⟩⟩⟩⟩⟩⟩⟩⟩⟩⟩⟩ rfl (by decide +kernel) (adl := []) rfl rfl rfl rfl rfl (Nat.le_of_ble_eq_true rfl) ⟨Nat.le_refl _, Nat.le_refl _⟩ dX7_days_26 rfl ?_
      refine pb_if_ne (pc := 29) (tgt := 39) C dX7_days_29 (by decide) (fun hc29 => ?_) (fun hc29 => ?_)
      · have hf := pb_neg hf hc29
        refine pb_aload_n (pc := 39) C dX7_days_39 rfl 0 rfl ?_
        obtain ⟨r40, hr40, hf⟩ := pb_bind hf
        refine pb_callV (pc := 40) (n0 := 12) (ws' := (wwX7_days cyB cyI cyJ cyZ cyS a_t a_t_now a_t_draft a_t_images a_t_kept a_t_pasts a_t_ledger a_t_settling a_t_reader a_t_fraction a_t_now_laws a_t_now_finds a_t_now_bets a_t_now_prices a_t_now_stepCells a_t_now_stepSizes a_t_now_laws_cells a_t_now_finds_cells a_t_pasts_open a_t_pasts_weight a_t_settling_left c_t_refusedBad c_t_refusedNo c_t_refusedFull c_t_now_steps c_t_now_laws_size c_t_now_laws_cells c_t_now_finds_size c_t_now_finds_cells r40.1 r40.2.1 r40.2.2.1 r40.2.2.2 c_t_settling_leftCount c_t_settling_x c_t_settling_left c_t_fraction_above c_t_fraction_below)) (rest := []) (st2 := [.ref a_t_pasts]) C (kcX7_weighed l dC dI cyB cyI cyJ cyZ cyS a_t a_t_now a_t_draft a_t_images a_t_kept a_t_pasts a_t_ledger a_t_settling a_t_reader a_t_fraction a_t_now_laws a_t_now_finds a_t_now_bets a_t_now_prices a_t_now_stepCells a_t_now_stepSizes a_t_now_laws_cells a_t_now_finds_cells a_t_pasts_open a_t_pasts_weight c_t_refusedBad c_t_refusedNo c_t_refusedFull c_t_now_steps c_t_now_laws_size c_t_now_laws_cells c_t_now_finds_size c_t_now_finds_cells c_t_pasts_total c_t_pasts_stale c_t_pasts_open c_t_pasts_weight r40 hr40) pb_NW_b (pb_NW_x hX) (cwV 0 C.1.2.2.2.2 gX7_days_X7_weighed rfl rfl rfl kdV_X7_weighed ⟨Nat.le_of_ble_eq_true rfl, Nat.le_of_ble_eq_true rfl⟩) 0 rfl rfl [0, 1, 2, 3, 4, 5, 6, 7, 8] [9, 10, 11] rfl rfl ⟨⟨_, rfl, rfl⟩, ⟨⟨_, rfl, rfl⟩, ⟨⟨_, rfl, rfl⟩, trivial⟩⟩⟩ rfl (by decide +kernel) (adl := [a_t, a_t_now, a_t_now_laws, a_t_now_laws_cells, a_t_now_finds, a_t_now_finds_cells, a_t_pasts, a_t_pasts_open, a_t_pasts_weight]) rfl rfl rfl rfl rfl (Nat.le_of_ble_eq_true rfl) ⟨Nat.le_refl _, Nat.le_refl _⟩ dX7_days_40 rfl ?_
        refine pb_astore (lv' := [(6, .ref a_t_pasts), (0, .ref a_t), (1, .int p1), (2, .int p2), (3, .int p3), (4, .int p4), (5, .int p5)]) (pc := 43) C dX7_days_43 (by decide) rfl ?_
        refine pb_aload (pc := 45) C dX7_days_45 0 rfl ?_
        obtain ⟨r47, hr47, hf⟩ := pb_bind hf
        refine pb_callV (pc := 47) (n0 := 12) (ws' := (wwX7_days cyB cyI cyJ cyZ cyS a_t a_t_now a_t_draft a_t_images a_t_kept a_t_pasts a_t_ledger a_t_settling a_t_reader a_t_fraction a_t_now_laws a_t_now_finds a_t_now_bets a_t_now_prices a_t_now_stepCells a_t_now_stepSizes a_t_now_laws_cells a_t_now_finds_cells a_t_pasts_open a_t_pasts_weight a_t_settling_left c_t_refusedBad c_t_refusedNo c_t_refusedFull c_t_now_steps c_t_now_laws_size c_t_now_laws_cells c_t_now_finds_size c_t_now_finds_cells r40.1 r40.2.1 r40.2.2.1 r40.2.2.2 c_t_settling_leftCount c_t_settling_x c_t_settling_left c_t_fraction_above c_t_fraction_below)) (rest := []) (st2 := [.int r47]) C (kcX2_fits l dC dI cyB cyI cyJ cyZ cyS a_t_pasts a_t_pasts_open a_t_pasts_weight r40.1 r40.2.1 r47 hr47) pb_NW_b (pb_NW_x hX) (cwV 0 C.1.2.2.2.2 gX7_days_X2_fits rfl rfl rfl kdV_X2_fits ⟨Nat.le_of_ble_eq_true rfl, Nat.le_of_ble_eq_true rfl⟩) 0 rfl rfl [6] [0, 1, 2, 3, 4, 5, 7, 8, 9, 10, 11] rfl rfl ⟨⟨_, rfl, rfl⟩, ⟨⟨_, rfl, rfl⟩, ⟨⟨_, rfl, rfl⟩, ⟨⟨_, rfl, rfl⟩, ⟨⟨_, rfl, rfl⟩, ⟨⟨_, rfl, rfl⟩, ⟨⟨_, rfl, rfl⟩, ⟨⟨_, rfl, rfl⟩, ⟨⟨_, rfl, rfl⟩, ⟨⟨_, rfl, rfl⟩, ⟨⟨_, rfl, rfl⟩, trivial⟩⟩⟩⟩⟩⟩⟩⟩⟩⟩⟩ rfl (by decide +kernel) (adl := [a_t_pasts]) rfl rfl rfl rfl rfl (Nat.le_of_ble_eq_true rfl) ⟨Nat.le_refl _, Nat.le_refl _⟩ dX7_days_47 rfl ?_
        refine pb_if_ne (pc := 50) (tgt := 60) C dX7_days_50 (by decide) (fun hc50 => ?_) (fun hc50 => ?_)
        · have hf := pb_neg hf hc50
          refine pb_aload_n (pc := 60) C dX7_days_60 rfl 1 rfl ?_
          refine pb_get (pc := 61) C hnX7_days_X7 0 rfl rfl 6 (by decide) (List.mem_of_getElem? (i := 2) rfl) rfl rfl dX7_days_61 ?_
          refine pb_iload_n (pc := 64) C dX7_days_64 rfl 2 rfl ?_
          obtain ⟨r65, hr65, hf⟩ := pb_bind hf
          refine pb_callV (pc := 65) (n0 := 12) (ws' := (wwX7_days cyB cyI cyJ cyZ cyS a_t a_t_now a_t_draft a_t_images a_t_kept a_t_pasts a_t_ledger a_t_settling a_t_reader a_t_fraction a_t_now_laws a_t_now_finds a_t_now_bets a_t_now_prices a_t_now_stepCells a_t_now_stepSizes a_t_now_laws_cells a_t_now_finds_cells a_t_pasts_open a_t_pasts_weight a_t_settling_left c_t_refusedBad c_t_refusedNo c_t_refusedFull c_t_now_steps c_t_now_laws_size c_t_now_laws_cells c_t_now_finds_size c_t_now_finds_cells r40.1 r40.2.1 r40.2.2.1 r40.2.2.2 c_t_settling_leftCount r65 c_t_settling_left c_t_fraction_above c_t_fraction_below)) (rest := []) (st2 := []) C (kcX4_begin l dC dI cyB cyI cyJ cyZ cyS a_t_settling a_t_settling_left c_t_settling_leftCount c_t_settling_x p1 r65 hr65) pb_NW_b (pb_NW_x hX) (cwV 1 C.1.2.2.2.2 gX7_days_X4_begin rfl rfl rfl kdV_X4_begin ⟨Nat.le_of_ble_eq_true rfl, Nat.le_of_ble_eq_true rfl⟩) 0 rfl rfl [9] [0, 1, 2, 3, 4, 5, 6, 7, 8, 10, 11] rfl rfl ⟨⟨_, rfl, rfl⟩, ⟨⟨_, rfl, rfl⟩, ⟨⟨_, rfl, rfl⟩, ⟨⟨_, rfl, rfl⟩, ⟨⟨_, rfl, rfl⟩, ⟨⟨_, rfl, rfl⟩, ⟨⟨_, rfl, rfl⟩, ⟨⟨_, rfl, rfl⟩, ⟨⟨_, rfl, rfl⟩, ⟨⟨_, rfl, rfl⟩, ⟨⟨_, rfl, rfl⟩, trivial⟩⟩⟩⟩⟩⟩⟩⟩⟩⟩⟩ rfl (by decide +kernel) (adl := [a_t_settling]) rfl rfl rfl rfl rfl (Nat.le_of_ble_eq_true rfl) ⟨Nat.le_refl _, Nat.le_refl _⟩ dX7_days_65 rfl ?_
          refine pb_lconst (v := 0) (pc := 68) C dX7_days_68 pb_kL_0 ?_
          refine pb_lstore (lv' := [(7, .long 0), (6, .ref a_t_pasts), (0, .ref a_t), (1, .int p1), (2, .int p2), (3, .int p3), (4, .int p4), (5, .int p5)]) (pc := 69) C dX7_days_69 (by decide) rfl ?_
          refine pb_iconst (v := 0) (pc := 71) C dX7_days_71 pb_kI_0 ?_
          refine pb_istore (lv' := [(9, .int 0), (7, .long 0), (6, .ref a_t_pasts), (0, .ref a_t), (1, .int p1), (2, .int p2), (3, .int p3), (4, .int p4), (5, .int p5)]) (pc := 72) C dX7_days_72 (by decide) rfl ?_
          obtain ⟨z74, hz74, hk74⟩ := pb_bind hf
          have E74 : ∀ (e74_7 : Int64) (e74_9 : Int32) (e74_c_t_settling_leftCount : Int32) (e74_c_t_settling_x : Int64) (e74_c_t_settling_left : (Nat → Int32)), fX7_days_E74 c_t_refusedBad c_t_refusedNo c_t_fraction_above c_t_fraction_below p2 r40 e74_7 e74_9 e74_c_t_settling_leftCount e74_c_t_settling_x e74_c_t_settling_left = some out → pb_V p l e rmX7_days s m (([.ref a_t, .int p1, .int p2, .int p3, .int p4, .int p5] : List Value).toArray) below meth c 10 (dC, dI) vwCl A 0 0 (pb_MQ below (([.ref a_t, .int p1, .int p2, .int p3, .int p4, .int p5] : List Value).toArray) s (dC, dI) vwCl (wwX7_days cyB cyI cyJ cyZ cyS a_t a_t_now a_t_draft a_t_images a_t_kept a_t_pasts a_t_ledger a_t_settling a_t_reader a_t_fraction a_t_now_laws a_t_now_finds a_t_now_bets a_t_now_prices a_t_now_stepCells a_t_now_stepSizes a_t_now_laws_cells a_t_now_finds_cells a_t_pasts_open a_t_pasts_weight a_t_settling_left c_t_refusedBad c_t_refusedNo c_t_refusedFull c_t_now_steps c_t_now_laws_size c_t_now_laws_cells c_t_now_finds_size c_t_now_finds_cells c_t_pasts_total c_t_pasts_stale c_t_pasts_open c_t_pasts_weight c_t_settling_leftCount c_t_settling_x c_t_settling_left c_t_fraction_above c_t_fraction_below) (wwX7_days cyB cyI cyJ cyZ cyS a_t a_t_now a_t_draft a_t_images a_t_kept a_t_pasts a_t_ledger a_t_settling a_t_reader a_t_fraction a_t_now_laws a_t_now_finds a_t_now_bets a_t_now_prices a_t_now_stepCells a_t_now_stepSizes a_t_now_laws_cells a_t_now_finds_cells a_t_pasts_open a_t_pasts_weight a_t_settling_left out.2.1 out.2.2.1 c_t_refusedFull c_t_now_steps c_t_now_laws_size c_t_now_laws_cells c_t_now_finds_size c_t_now_finds_cells out.2.2.2.1 out.2.2.2.2.1 out.2.2.2.2.2.1 out.2.2.2.2.2.2.1 out.2.2.2.2.2.2.2.1 out.2.2.2.2.2.2.2.2.1 out.2.2.2.2.2.2.2.2.2.1 out.2.2.2.2.2.2.2.2.2.2.1 out.2.2.2.2.2.2.2.2.2.2.2) (some (.int out.1)) A) (wwX7_days cyB cyI cyJ cyZ cyS a_t a_t_now a_t_draft a_t_images a_t_kept a_t_pasts a_t_ledger a_t_settling a_t_reader a_t_fraction a_t_now_laws a_t_now_finds a_t_now_bets a_t_now_prices a_t_now_stepCells a_t_now_stepSizes a_t_now_laws_cells a_t_now_finds_cells a_t_pasts_open a_t_pasts_weight a_t_settling_left c_t_refusedBad c_t_refusedNo c_t_refusedFull c_t_now_steps c_t_now_laws_size c_t_now_laws_cells c_t_now_finds_size c_t_now_finds_cells r40.1 r40.2.1 r40.2.2.1 r40.2.2.2 e74_c_t_settling_leftCount e74_c_t_settling_x e74_c_t_settling_left c_t_fraction_above c_t_fraction_below) [(0, .ref a_t), (2, .int p2), (7, .long e74_7)] [] 106 := by
            intro e74_7 e74_9 e74_c_t_settling_leftCount e74_c_t_settling_x e74_c_t_settling_left hf
            unfold fX7_days_E74 at hf
            refine pb_aload_n (pc := 106) C dX7_days_106 rfl 0 rfl ?_
            refine pb_get (pc := 107) C hnX7_days_X7 0 rfl rfl 8 (by decide) (List.mem_of_getElem? (i := 3) rfl) rfl rfl dX7_days_107 ?_
            refine pb_lload (pc := 110) C dX7_days_110 2 rfl ?_
            refine pb_iload_n (pc := 112) C dX7_days_112 rfl 1 rfl ?_
            refine pb_i2l (pc := 113) C dX7_days_113 ?_
            obtain ⟨r114, hr114, hf⟩ := pb_bind hf
            refine pb_callV (pc := 114) (n0 := 12) (ws' := (wwX7_days cyB cyI cyJ cyZ cyS a_t a_t_now a_t_draft a_t_images a_t_kept a_t_pasts a_t_ledger a_t_settling a_t_reader a_t_fraction a_t_now_laws a_t_now_finds a_t_now_bets a_t_now_prices a_t_now_stepCells a_t_now_stepSizes a_t_now_laws_cells a_t_now_finds_cells a_t_pasts_open a_t_pasts_weight a_t_settling_left c_t_refusedBad c_t_refusedNo c_t_refusedFull c_t_now_steps c_t_now_laws_size c_t_now_laws_cells c_t_now_finds_size c_t_now_finds_cells r40.1 r40.2.1 r40.2.2.1 r40.2.2.2 e74_c_t_settling_leftCount e74_c_t_settling_x e74_c_t_settling_left r114.1 r114.2)) (rest := []) (st2 := []) C (kcX0_put l dC dI cyB cyI cyJ cyZ cyS a_t_fraction c_t_fraction_above c_t_fraction_below e74_7 (Int32.toInt64 p2) r114 hr114) pb_NW_b (pb_NW_x hX) (cwV 2 C.1.2.2.2.2 gX7_days_X0_put rfl rfl rfl kdV_X0_put ⟨Nat.le_of_ble_eq_true rfl, Nat.le_of_ble_eq_true rfl⟩) 0 rfl rfl [11] [0, 1, 2, 3, 4, 5, 6, 7, 8, 9, 10] rfl rfl ⟨⟨_, rfl, rfl⟩, ⟨⟨_, rfl, rfl⟩, ⟨⟨_, rfl, rfl⟩, ⟨⟨_, rfl, rfl⟩, ⟨⟨_, rfl, rfl⟩, ⟨⟨_, rfl, rfl⟩, ⟨⟨_, rfl, rfl⟩, ⟨⟨_, rfl, rfl⟩, ⟨⟨_, rfl, rfl⟩, ⟨⟨_, rfl, rfl⟩, ⟨⟨_, rfl, rfl⟩, trivial⟩⟩⟩⟩⟩⟩⟩⟩⟩⟩⟩ rfl (by decide +kernel) (adl := [a_t_fraction]) rfl rfl rfl rfl rfl (Nat.le_of_ble_eq_true rfl) ⟨Nat.le_refl _, Nat.le_refl _⟩ dX7_days_114 rfl ?_
            refine pb_iconst (v := 1) (pc := 117) C dX7_days_117 pb_kI_1 ?_
            obtain rfl := Option.some.inj hf
            exact pb_iret (pc := 118) C hr hlk hA dX7_days_118
          have L74 : ∀ (n : Nat) (l74_7 : Int64) (l74_9 : Int32) (l74_c_t_settling_leftCount : Int32) (l74_c_t_settling_x : Int64) (l74_c_t_settling_left : (Nat → Int32)), pb_lp (fun y => fX7_days_L74 p2 p3 p4 p5 r40 y.1 y.2.1 y.2.2.1 y.2.2.2.1 y.2.2.2.2) n (l74_7, l74_9, l74_c_t_settling_leftCount, l74_c_t_settling_x, l74_c_t_settling_left) = some z74 → pb_V p l e rmX7_days s m (([.ref a_t, .int p1, .int p2, .int p3, .int p4, .int p5] : List Value).toArray) below meth c 10 (dC, dI) vwCl A 0 0 (pb_MQ below (([.ref a_t, .int p1, .int p2, .int p3, .int p4, .int p5] : List Value).toArray) s (dC, dI) vwCl (wwX7_days cyB cyI cyJ cyZ cyS a_t a_t_now a_t_draft a_t_images a_t_kept a_t_pasts a_t_ledger a_t_settling a_t_reader a_t_fraction a_t_now_laws a_t_now_finds a_t_now_bets a_t_now_prices a_t_now_stepCells a_t_now_stepSizes a_t_now_laws_cells a_t_now_finds_cells a_t_pasts_open a_t_pasts_weight a_t_settling_left c_t_refusedBad c_t_refusedNo c_t_refusedFull c_t_now_steps c_t_now_laws_size c_t_now_laws_cells c_t_now_finds_size c_t_now_finds_cells c_t_pasts_total c_t_pasts_stale c_t_pasts_open c_t_pasts_weight c_t_settling_leftCount c_t_settling_x c_t_settling_left c_t_fraction_above c_t_fraction_below) (wwX7_days cyB cyI cyJ cyZ cyS a_t a_t_now a_t_draft a_t_images a_t_kept a_t_pasts a_t_ledger a_t_settling a_t_reader a_t_fraction a_t_now_laws a_t_now_finds a_t_now_bets a_t_now_prices a_t_now_stepCells a_t_now_stepSizes a_t_now_laws_cells a_t_now_finds_cells a_t_pasts_open a_t_pasts_weight a_t_settling_left out.2.1 out.2.2.1 c_t_refusedFull c_t_now_steps c_t_now_laws_size c_t_now_laws_cells c_t_now_finds_size c_t_now_finds_cells out.2.2.2.1 out.2.2.2.2.1 out.2.2.2.2.2.1 out.2.2.2.2.2.2.1 out.2.2.2.2.2.2.2.1 out.2.2.2.2.2.2.2.2.1 out.2.2.2.2.2.2.2.2.2.1 out.2.2.2.2.2.2.2.2.2.2.1 out.2.2.2.2.2.2.2.2.2.2.2) (some (.int out.1)) A) (wwX7_days cyB cyI cyJ cyZ cyS a_t a_t_now a_t_draft a_t_images a_t_kept a_t_pasts a_t_ledger a_t_settling a_t_reader a_t_fraction a_t_now_laws a_t_now_finds a_t_now_bets a_t_now_prices a_t_now_stepCells a_t_now_stepSizes a_t_now_laws_cells a_t_now_finds_cells a_t_pasts_open a_t_pasts_weight a_t_settling_left c_t_refusedBad c_t_refusedNo c_t_refusedFull c_t_now_steps c_t_now_laws_size c_t_now_laws_cells c_t_now_finds_size c_t_now_finds_cells r40.1 r40.2.1 r40.2.2.1 r40.2.2.2 l74_c_t_settling_leftCount l74_c_t_settling_x l74_c_t_settling_left c_t_fraction_above c_t_fraction_below) [(0, .ref a_t), (2, .int p2), (3, .int p3), (4, .int p4), (5, .int p5), (6, .ref a_t_pasts), (7, .long l74_7), (9, .int l74_9)] [] 74 := by
            intro n
            induction n with
            | zero => intro l74_7 l74_9 l74_c_t_settling_leftCount l74_c_t_settling_x l74_c_t_settling_left hf; exact (pb_lp_zero hf).elim
            | succ n ih74 =>
              intro l74_7 l74_9 l74_c_t_settling_leftCount l74_c_t_settling_x l74_c_t_settling_left hf
              obtain ⟨y74, hf, hl74⟩ := pb_lp_succ hf
              have hf : fX7_days_L74 p2 p3 p4 p5 r40 l74_7 l74_9 l74_c_t_settling_leftCount l74_c_t_settling_x l74_c_t_settling_left = some y74 := hf
              unfold fX7_days_L74 at hf
              refine pb_iload (pc := 74) C dX7_days_74 7 rfl ?_
              refine pb_iload_n (pc := 76) C dX7_days_76 rfl 1 rfl ?_
              refine pb_icmp_ge (pc := 77) (tgt := 106) C dX7_days_77 (by decide) (fun hc77 => ?_) (fun hc77 => ?_)
              · have hf := pb_pos hf hc77
                obtain rfl := Option.some.inj hf
                obtain rfl := pb_esc hl74
                refine pb_sub [0, 1, 6] rfl ?_
                exact E74 l74_7 l74_9 l74_c_t_settling_leftCount l74_c_t_settling_x l74_c_t_settling_left hk74
              · have hf := pb_neg hf hc77
                refine pb_lload (pc := 80) C dX7_days_80 6 rfl ?_
                refine pb_aload_n (pc := 82) C dX7_days_82 rfl 0 rfl ?_
                refine pb_get (pc := 83) C hnX7_days_X7 0 rfl rfl 6 (by decide) (List.mem_of_getElem? (i := 2) rfl) rfl rfl dX7_days_83 ?_
                refine pb_aload (pc := 86) C dX7_days_86 5 rfl ?_
                refine pb_iload_n (pc := 88) C dX7_days_88 rfl 2 rfl ?_
                refine pb_iload (pc := 89) C dX7_days_89 3 rfl ?_
                refine pb_iload (pc := 91) C dX7_days_91 4 rfl ?_
                obtain ⟨r93, hr93, hf⟩ := pb_bind hf
                refine pb_callV (pc := 93) (n0 := 12) (ws' := (wwX7_days cyB cyI cyJ cyZ cyS a_t a_t_now a_t_draft a_t_images a_t_kept a_t_pasts a_t_ledger a_t_settling a_t_reader a_t_fraction a_t_now_laws a_t_now_finds a_t_now_bets a_t_now_prices a_t_now_stepCells a_t_now_stepSizes a_t_now_laws_cells a_t_now_finds_cells a_t_pasts_open a_t_pasts_weight a_t_settling_left c_t_refusedBad c_t_refusedNo c_t_refusedFull c_t_now_steps c_t_now_laws_size c_t_now_laws_cells c_t_now_finds_size c_t_now_finds_cells r40.1 r40.2.1 r40.2.2.1 r40.2.2.2 r93.2.1 r93.2.2.1 r93.2.2.2 c_t_fraction_above c_t_fraction_below)) (rest := [.long l74_7]) (st2 := [.int r93.1, .long l74_7]) C (kcX4_daysOnce l dC dI cyB cyI cyJ cyZ cyS a_t_settling a_t_settling_left a_t_pasts a_t_pasts_open a_t_pasts_weight l74_c_t_settling_leftCount l74_c_t_settling_x l74_c_t_settling_left r40.1 r40.2.1 r40.2.2.2 p3 p4 p5 r93 hr93) pb_NW_b (pb_NW_x hX) (cwV 4 C.1.2.2.2.2 gX7_days_X4_daysOnce rfl rfl rfl kdV_X4_daysOnce ⟨Nat.le_of_ble_eq_true rfl, Nat.le_of_ble_eq_true rfl⟩) 0 rfl rfl [9, 10, 6, 8] [0, 1, 2, 3, 4, 5, 7, 11] rfl rfl ⟨⟨_, rfl, rfl⟩, ⟨⟨_, rfl, rfl⟩, ⟨⟨_, rfl, rfl⟩, ⟨⟨_, rfl, rfl⟩, ⟨⟨_, rfl, rfl⟩, ⟨⟨_, rfl, rfl⟩, ⟨⟨_, rfl, rfl⟩, ⟨⟨_, rfl, rfl⟩, trivial⟩⟩⟩⟩⟩⟩⟩⟩ rfl (by decide +kernel) (adl := [a_t_settling, a_t_settling_left, a_t_pasts, a_t_pasts_weight]) rfl rfl rfl rfl rfl (Nat.le_of_ble_eq_true rfl) ⟨Nat.le_refl _, Nat.le_refl _⟩ dX7_days_93 rfl ?_
                refine pb_i2l (pc := 96) C dX7_days_96 ?_
                refine pb_ladd (pc := 97) C dX7_days_97 ?_
                obtain ⟨x98, ex98, hf⟩ := pb_bind hf
                have ex98 := Option.some.inj ex98
                refine pb_topl ex98 ?_
                refine pb_lstore (lv' := [(7, .long x98), (0, .ref a_t), (2, .int p2), (3, .int p3), (4, .int p4), (5, .int p5), (6, .ref a_t_pasts), (9, .int l74_9)]) (pc := 98) C dX7_days_98 (by decide) rfl ?_
                refine pb_iinc (v := l74_9 + 1) (lv' := [(9, .int (l74_9 + 1)), (7, .long x98), (0, .ref a_t), (2, .int p2), (3, .int p3), (4, .int p4), (5, .int p5), (6, .ref a_t_pasts)]) (pc := 100) C dX7_days_100 7 rfl (pb_inc pb_kI_1 rfl) (by decide) rfl ?_
                refine pb_goto (pc := 103) (tgt := 74) C dX7_days_103 (by decide) ?_
                obtain rfl := Option.some.inj hf
                refine pb_sub [2, 3, 4, 5, 6, 7, 1, 0] rfl ?_
                have hl74 := pb_inl hl74
                exact ih74 x98 (l74_9 + 1) r93.2.1 r93.2.2.1 r93.2.2.2 hl74
          refine pb_sub [3, 5, 6, 7, 8, 2, 1, 0] rfl ?_
          exact L74 pb_FU 0 0 c_t_settling_leftCount r65 c_t_settling_left hz74
        · have hf := pb_pos hf hc50
          refine pb_aload_n (pc := 53) C dX7_days_53 rfl 1 rfl ?_
          refine pb_bipush (v := (-3)) (pc := 54) C dX7_days_54 pb_kB_m3 ?_
          obtain ⟨r56, hr56, hf⟩ := pb_bind hf
          refine pb_callV (pc := 56) (n0 := 12) (ws' := (wwX7_days cyB cyI cyJ cyZ cyS a_t a_t_now a_t_draft a_t_images a_t_kept a_t_pasts a_t_ledger a_t_settling a_t_reader a_t_fraction a_t_now_laws a_t_now_finds a_t_now_bets a_t_now_prices a_t_now_stepCells a_t_now_stepSizes a_t_now_laws_cells a_t_now_finds_cells a_t_pasts_open a_t_pasts_weight a_t_settling_left c_t_refusedBad r56.2 c_t_refusedFull c_t_now_steps c_t_now_laws_size c_t_now_laws_cells c_t_now_finds_size c_t_now_finds_cells r40.1 r40.2.1 r40.2.2.1 r40.2.2.2 c_t_settling_leftCount c_t_settling_x c_t_settling_left c_t_fraction_above c_t_fraction_below)) (rest := []) (st2 := [.int r56.1]) C (kcX7_asNo l dC dI cyB cyI cyJ cyZ cyS a_t a_t_now a_t_draft a_t_images a_t_kept a_t_pasts a_t_ledger a_t_settling a_t_reader a_t_fraction c_t_refusedBad c_t_refusedNo c_t_refusedFull (-3) r56 hr56) pb_NW_b (pb_NW_x hX) (cwV 1 C.1.2.2.2.2 gX7_days_X7_asNo rfl rfl rfl kdV_X7_asNo ⟨Nat.le_of_ble_eq_true rfl, Nat.le_of_ble_eq_true rfl⟩) 0 rfl rfl [0] [1, 2, 3, 4, 5, 6, 7, 8, 9, 10, 11] rfl rfl ⟨⟨_, rfl, rfl⟩, ⟨⟨_, rfl, rfl⟩, ⟨⟨_, rfl, rfl⟩, ⟨⟨_, rfl, rfl⟩, ⟨⟨_, rfl, rfl⟩, ⟨⟨_, rfl, rfl⟩, ⟨⟨_, rfl, rfl⟩, ⟨⟨_, rfl, rfl⟩, ⟨⟨_, rfl, rfl⟩, ⟨⟨_, rfl, rfl⟩, ⟨⟨_, rfl, rfl⟩, trivial⟩⟩⟩⟩⟩⟩⟩⟩⟩⟩⟩ rfl (by decide +kernel) (adl := [a_t]) rfl rfl rfl rfl rfl (Nat.le_of_ble_eq_true rfl) ⟨Nat.le_refl _, Nat.le_refl _⟩ dX7_days_56 rfl ?_
          obtain rfl := Option.some.inj hf
          exact pb_iret (pc := 59) C hr hlk hA dX7_days_59
      · have hf := pb_pos hf hc29
        refine pb_aload_n (pc := 32) C dX7_days_32 rfl 0 rfl ?_
        refine pb_bipush (v := (-2)) (pc := 33) C dX7_days_33 pb_kB_m2 ?_
        obtain ⟨r35, hr35, hf⟩ := pb_bind hf
        refine pb_callV (pc := 35) (n0 := 12) (ws' := (wwX7_days cyB cyI cyJ cyZ cyS a_t a_t_now a_t_draft a_t_images a_t_kept a_t_pasts a_t_ledger a_t_settling a_t_reader a_t_fraction a_t_now_laws a_t_now_finds a_t_now_bets a_t_now_prices a_t_now_stepCells a_t_now_stepSizes a_t_now_laws_cells a_t_now_finds_cells a_t_pasts_open a_t_pasts_weight a_t_settling_left r35.2 c_t_refusedNo c_t_refusedFull c_t_now_steps c_t_now_laws_size c_t_now_laws_cells c_t_now_finds_size c_t_now_finds_cells c_t_pasts_total c_t_pasts_stale c_t_pasts_open c_t_pasts_weight c_t_settling_leftCount c_t_settling_x c_t_settling_left c_t_fraction_above c_t_fraction_below)) (rest := []) (st2 := [.int r35.1]) C (kcX7_asBad l dC dI cyB cyI cyJ cyZ cyS a_t a_t_now a_t_draft a_t_images a_t_kept a_t_pasts a_t_ledger a_t_settling a_t_reader a_t_fraction c_t_refusedBad c_t_refusedNo c_t_refusedFull (-2) r35 hr35) pb_NW_b (pb_NW_x hX) (cwV 1 C.1.2.2.2.2 gX7_days_X7_asBad rfl rfl rfl kdV_X7_asBad ⟨Nat.le_of_ble_eq_true rfl, Nat.le_of_ble_eq_true rfl⟩) 0 rfl rfl [0] [1, 2, 3, 4, 5, 6, 7, 8, 9, 10, 11] rfl rfl ⟨⟨_, rfl, rfl⟩, ⟨⟨_, rfl, rfl⟩, ⟨⟨_, rfl, rfl⟩, ⟨⟨_, rfl, rfl⟩, ⟨⟨_, rfl, rfl⟩, ⟨⟨_, rfl, rfl⟩, ⟨⟨_, rfl, rfl⟩, ⟨⟨_, rfl, rfl⟩, ⟨⟨_, rfl, rfl⟩, ⟨⟨_, rfl, rfl⟩, ⟨⟨_, rfl, rfl⟩, trivial⟩⟩⟩⟩⟩⟩⟩⟩⟩⟩⟩ rfl (by decide +kernel) (adl := [a_t]) rfl rfl rfl rfl rfl (Nat.le_of_ble_eq_true rfl) ⟨Nat.le_refl _, Nat.le_refl _⟩ dX7_days_35 rfl ?_
        obtain rfl := Option.some.inj hf
        exact pb_iret (pc := 38) C hr hlk hA dX7_days_38
def rmX7_part : Room := { frames := 1, cells := 0, slots := 0, locals := 22 }
def wwX7_part (cyB cyI cyJ cyZ cyS : ClassId) (a_t a_t_now a_t_draft a_t_images a_t_kept a_t_pasts a_t_ledger a_t_settling a_t_reader a_t_fraction : Nat) (c_t_refusedBad : Int32) (c_t_refusedNo : Int32) (c_t_refusedFull : Int32) (c_t_fraction_above : Int64) (c_t_fraction_below : Int64) : va_W := [(a_t, .inr (7, [.ref a_t_now, .ref a_t_draft, .ref a_t_images, .ref a_t_kept, .ref a_t_pasts, .ref a_t_ledger, .ref a_t_settling, .ref a_t_reader, .ref a_t_fraction, .int c_t_refusedBad, .int c_t_refusedNo, .int c_t_refusedFull])), (a_t_fraction, .inr (0, [.long c_t_fraction_above, .long c_t_fraction_below]))]
theorem hnX7_part_X0 : ∀ w ∈ wsX00, w ∈ wsX7_part := fun _ h => List.mem_cons_of_mem _ (List.mem_append_right _ h)
theorem hnX7_part_X7 : ∀ w ∈ wsX70, w ∈ wsX7_part := fun _ h => List.mem_cons_of_mem _ (List.mem_append_left _ (List.mem_append_right _ h))
set_option maxHeartbeats 4000000 in
set_option maxRecDepth 100000 in
theorem kcX7_part (l : Launch) (dC : Nat → ClassId) (dI : Nat → Nat → Nat) (cyB cyI cyJ cyZ cyS : ClassId) (a_t a_t_now a_t_draft a_t_images a_t_kept a_t_pasts a_t_ledger a_t_settling a_t_reader a_t_fraction : Nat) (c_t_refusedBad : Int32) (c_t_refusedNo : Int32) (c_t_refusedFull : Int32) (c_t_fraction_above : Int64) (c_t_fraction_below : Int64) (p1 : Int32) (out : (Int64 × Int32)) (hf : fX7_part c_t_refusedBad c_t_fraction_above c_t_fraction_below p1 = some out) : pb_K l yX7_part wsX7_part rmX7_part (dC, dI) vwCl (pb_tys cyB cyI cyJ cyZ cyS) pb_NW [.ref a_t, .int p1] (wwX7_part cyB cyI cyJ cyZ cyS a_t a_t_now a_t_draft a_t_images a_t_kept a_t_pasts a_t_ledger a_t_settling a_t_reader a_t_fraction c_t_refusedBad c_t_refusedNo c_t_refusedFull c_t_fraction_above c_t_fraction_below) (wwX7_part cyB cyI cyJ cyZ cyS a_t a_t_now a_t_draft a_t_images a_t_kept a_t_pasts a_t_ledger a_t_settling a_t_reader a_t_fraction out.2 c_t_refusedNo c_t_refusedFull c_t_fraction_above c_t_fraction_below) (some (.long out.1)) := by
  unfold fX7_part at hf
  refine pb_K.ofV (cc := cX7_part) (maxL := 2) (ret := (some .long)) (lv0 := [(0, .ref a_t), (1, .int p1)]) (by decide) rfl (Nat.le_of_ble_eq_true rfl) rfl ?_
  intro p e s m below meth c A C hX hr hlk hA
  refine pb_iload_n (pc := 0) C dX7_part_0 rfl 1 rfl ?_
  refine pb_iconst (v := 0) (pc := 1) C dX7_part_1 pb_kI_0 ?_
  refine pb_iconst (v := 1) (pc := 2) C dX7_part_2 pb_kI_1 ?_
  obtain ⟨r3, hr3, hf⟩ := pb_bind hf
  refine pb_callS (pc := 3) (n0 := 2) (ws' := (wwX7_part cyB cyI cyJ cyZ cyS a_t a_t_now a_t_draft a_t_images a_t_kept a_t_pasts a_t_ledger a_t_settling a_t_reader a_t_fraction c_t_refusedBad c_t_refusedNo c_t_refusedFull c_t_fraction_above c_t_fraction_below)) (rest := []) (st2 := [.int r3]) C (kcX7_isWithin l dC dI cyB cyI cyJ cyZ cyS p1 0 1 r3 hr3) pb_NW_b (pb_NW_x hX) (va_cwS 3 C.1.2.2.2.2 gX7_part_X7_isWithin rfl rfl rfl kdS_X7_isWithin ⟨Nat.le_of_ble_eq_true rfl, Nat.le_of_ble_eq_true rfl⟩) [] [0, 1] rfl rfl ⟨⟨_, rfl, rfl⟩, ⟨⟨_, rfl, rfl⟩, trivial⟩⟩ rfl (by decide +kernel) (adl := []) rfl rfl rfl rfl rfl (Nat.le_of_ble_eq_true rfl) ⟨Nat.le_refl _, Nat.le_refl _⟩ dX7_part_3 rfl ?_
  refine pb_if_ne (pc := 6) (tgt := 17) C dX7_part_6 (by decide) (fun hc6 => ?_) (fun hc6 => ?_)
  · have hf := pb_neg hf hc6
    refine pb_iload_n (pc := 17) C dX7_part_17 rfl 1 rfl ?_
    refine pb_if_ne (pc := 18) (tgt := 31) C dX7_part_18 (by decide) (fun hc18 => ?_) (fun hc18 => ?_)
    · have hf := pb_neg hf hc18
      refine pb_aload_n (pc := 31) C dX7_part_31 rfl 0 rfl ?_
      refine pb_get (pc := 32) C hnX7_part_X7 0 rfl rfl 8 (by decide) (List.mem_of_getElem? (i := 1) rfl) rfl rfl dX7_part_32 ?_
      refine pb_get (pc := 35) C hnX7_part_X0 1 rfl rfl 1 (by decide) (List.mem_of_getElem? (i := 3) rfl) rfl rfl dX7_part_35 ?_
      obtain rfl := Option.some.inj hf
      exact pb_lret (pc := 38) C hr hlk hA dX7_part_38
    · have hf := pb_pos hf hc18
      refine pb_aload_n (pc := 21) C dX7_part_21 rfl 0 rfl ?_
      refine pb_get (pc := 22) C hnX7_part_X7 0 rfl rfl 8 (by decide) (List.mem_of_getElem? (i := 1) rfl) rfl rfl dX7_part_22 ?_
      refine pb_get (pc := 25) C hnX7_part_X0 1 rfl rfl 0 (by decide) (List.mem_of_getElem? (i := 2) rfl) rfl rfl dX7_part_25 ?_
      refine pb_goto (pc := 28) (tgt := 38) C dX7_part_28 (by decide) ?_
      obtain rfl := Option.some.inj hf
      exact pb_lret (pc := 38) C hr hlk hA dX7_part_38
  · have hf := pb_pos hf hc6
    refine pb_aload_n (pc := 9) C dX7_part_9 rfl 0 rfl ?_
    refine pb_bipush (v := (-2)) (pc := 10) C dX7_part_10 pb_kB_m2 ?_
    obtain ⟨r12, hr12, hf⟩ := pb_bind hf
    refine pb_callV (pc := 12) (n0 := 2) (ws' := (wwX7_part cyB cyI cyJ cyZ cyS a_t a_t_now a_t_draft a_t_images a_t_kept a_t_pasts a_t_ledger a_t_settling a_t_reader a_t_fraction r12.2 c_t_refusedNo c_t_refusedFull c_t_fraction_above c_t_fraction_below)) (rest := []) (st2 := [.int r12.1]) C (kcX7_asBad l dC dI cyB cyI cyJ cyZ cyS a_t a_t_now a_t_draft a_t_images a_t_kept a_t_pasts a_t_ledger a_t_settling a_t_reader a_t_fraction c_t_refusedBad c_t_refusedNo c_t_refusedFull (-2) r12 hr12) pb_NW_b (pb_NW_x hX) (cwV 1 C.1.2.2.2.2 gX7_part_X7_asBad rfl rfl rfl kdV_X7_asBad ⟨Nat.le_of_ble_eq_true rfl, Nat.le_of_ble_eq_true rfl⟩) 0 rfl rfl [0] [1] rfl rfl ⟨⟨_, rfl, rfl⟩, trivial⟩ rfl (by decide +kernel) (adl := [a_t]) rfl rfl rfl rfl rfl (Nat.le_of_ble_eq_true rfl) ⟨Nat.le_refl _, Nat.le_refl _⟩ dX7_part_12 rfl ?_
    refine pb_i2l (pc := 15) C dX7_part_15 ?_
    obtain rfl := Option.some.inj hf
    exact pb_lret (pc := 16) C hr hlk hA dX7_part_16
def rmX7_status : Room := { frames := 1, cells := 0, slots := 0, locals := 21 }
def wwX7_status (cyB cyI cyJ cyZ cyS : ClassId) (a_t a_t_now a_t_draft a_t_images a_t_kept a_t_pasts a_t_ledger a_t_settling a_t_reader a_t_fraction : Nat) (c_t_refusedBad : Int32) (c_t_refusedNo : Int32) (c_t_refusedFull : Int32) : va_W := [(a_t, .inr (7, [.ref a_t_now, .ref a_t_draft, .ref a_t_images, .ref a_t_kept, .ref a_t_pasts, .ref a_t_ledger, .ref a_t_settling, .ref a_t_reader, .ref a_t_fraction, .int c_t_refusedBad, .int c_t_refusedNo, .int c_t_refusedFull]))]
theorem hnX7_status_X7 : ∀ w ∈ wsX70, w ∈ wsX7_status := fun _ h => List.mem_cons_of_mem _ (List.mem_append_right _ h)
set_option maxHeartbeats 4000000 in
set_option maxRecDepth 100000 in
theorem kcX7_status (l : Launch) (dC : Nat → ClassId) (dI : Nat → Nat → Nat) (cyB cyI cyJ cyZ cyS : ClassId) (a_t a_t_now a_t_draft a_t_images a_t_kept a_t_pasts a_t_ledger a_t_settling a_t_reader a_t_fraction : Nat) (c_t_refusedBad : Int32) (c_t_refusedNo : Int32) (c_t_refusedFull : Int32) (p1 : Int32) (out : (Int32 × Int32)) (hf : fX7_status c_t_refusedBad c_t_refusedNo c_t_refusedFull p1 = some out) : pb_K l yX7_status wsX7_status rmX7_status (dC, dI) vwCl (pb_tys cyB cyI cyJ cyZ cyS) pb_NW [.ref a_t, .int p1] (wwX7_status cyB cyI cyJ cyZ cyS a_t a_t_now a_t_draft a_t_images a_t_kept a_t_pasts a_t_ledger a_t_settling a_t_reader a_t_fraction c_t_refusedBad c_t_refusedNo c_t_refusedFull) (wwX7_status cyB cyI cyJ cyZ cyS a_t a_t_now a_t_draft a_t_images a_t_kept a_t_pasts a_t_ledger a_t_settling a_t_reader a_t_fraction out.2 c_t_refusedNo c_t_refusedFull) (some (.int out.1)) := by
  unfold fX7_status at hf
  refine pb_K.ofV (cc := cX7_status) (maxL := 2) (ret := (some .int)) (lv0 := [(0, .ref a_t), (1, .int p1)]) (by decide) rfl (Nat.le_of_ble_eq_true rfl) rfl ?_
  intro p e s m below meth c A C hX hr hlk hA
  refine pb_iload_n (pc := 0) C dX7_status_0 rfl 1 rfl ?_
  by_cases hs1_0 : p1 = 0
  · have hf := pb_pos hf hs1_0
    refine pb_tableIn (pc := 1) (tgt := 28) C dX7_status_1 (by rw [hs1_0]; decide) (by rw [hs1_0]; decide) (by rw [hs1_0]; rfl) (by decide) ?_
    refine pb_aload_n (pc := 28) C dX7_status_28 rfl 0 rfl ?_
    refine pb_get (pc := 29) C hnX7_status_X7 0 rfl rfl 9 (by decide) (List.mem_of_getElem? (i := 1) rfl) rfl rfl dX7_status_29 ?_
    obtain rfl := Option.some.inj hf
    exact pb_iret (pc := 32) C hr hlk hA dX7_status_32
  have hf := pb_neg hf hs1_0
  by_cases hs1_1 : p1 = 1
  · have hf := pb_pos hf hs1_1
    refine pb_tableIn (pc := 1) (tgt := 33) C dX7_status_1 (by rw [hs1_1]; decide) (by rw [hs1_1]; decide) (by rw [hs1_1]; rfl) (by decide) ?_
    refine pb_aload_n (pc := 33) C dX7_status_33 rfl 0 rfl ?_
    refine pb_get (pc := 34) C hnX7_status_X7 0 rfl rfl 10 (by decide) (List.mem_of_getElem? (i := 2) rfl) rfl rfl dX7_status_34 ?_
    obtain rfl := Option.some.inj hf
    exact pb_iret (pc := 37) C hr hlk hA dX7_status_37
  have hf := pb_neg hf hs1_1
  by_cases hs1_2 : p1 = 2
  · have hf := pb_pos hf hs1_2
    refine pb_tableIn (pc := 1) (tgt := 38) C dX7_status_1 (by rw [hs1_2]; decide) (by rw [hs1_2]; decide) (by rw [hs1_2]; rfl) (by decide) ?_
    refine pb_aload_n (pc := 38) C dX7_status_38 rfl 0 rfl ?_
    refine pb_get (pc := 39) C hnX7_status_X7 0 rfl rfl 11 (by decide) (List.mem_of_getElem? (i := 3) rfl) rfl rfl dX7_status_39 ?_
    obtain rfl := Option.some.inj hf
    exact pb_iret (pc := 42) C hr hlk hA dX7_status_42
  have hf := pb_neg hf hs1_2
  refine pb_tableOut (pc := 1) (tgt := 43) C dX7_status_1 (by have q0 := lv_neT (a := 0) hs1_0 (by decide); have q1 := lv_neT (a := 1) hs1_1 (by decide); have q2 := lv_neT (a := 2) hs1_2 (by decide); omega) (by decide) ?_
  refine pb_aload_n (pc := 43) C dX7_status_43 rfl 0 rfl ?_
  refine pb_iconst (v := (-1)) (pc := 44) C dX7_status_44 pb_kI_m1 ?_
  obtain ⟨r45, hr45, hf⟩ := pb_bind hf
  refine pb_callV (pc := 45) (n0 := 1) (ws' := (wwX7_status cyB cyI cyJ cyZ cyS a_t a_t_now a_t_draft a_t_images a_t_kept a_t_pasts a_t_ledger a_t_settling a_t_reader a_t_fraction r45.2 c_t_refusedNo c_t_refusedFull)) (rest := []) (st2 := [.int r45.1]) C (kcX7_asBad l dC dI cyB cyI cyJ cyZ cyS a_t a_t_now a_t_draft a_t_images a_t_kept a_t_pasts a_t_ledger a_t_settling a_t_reader a_t_fraction c_t_refusedBad c_t_refusedNo c_t_refusedFull (-1) r45 hr45) pb_NW_b (pb_NW_x hX) (cwV 1 C.1.2.2.2.2 gX7_status_X7_asBad rfl rfl rfl kdV_X7_asBad ⟨Nat.le_of_ble_eq_true rfl, Nat.le_of_ble_eq_true rfl⟩) 0 rfl rfl [0] [] rfl rfl trivial rfl (by decide +kernel) (adl := [a_t]) rfl rfl rfl rfl rfl (Nat.le_of_ble_eq_true rfl) ⟨Nat.le_refl _, Nat.le_refl _⟩ dX7_status_45 rfl ?_
  obtain rfl := Option.some.inj hf
  exact pb_iret (pc := 48) C hr hlk hA dX7_status_48
def rmX7_howMany : Room := { frames := 0, cells := 0, slots := 0, locals := 0 }
def wwX7_howMany (cyB cyI cyJ cyZ cyS : ClassId) (a_t a_t_now a_t_draft a_t_images a_t_kept a_t_pasts a_t_ledger a_t_settling a_t_reader a_t_fraction a_t_now_laws a_t_now_finds a_t_now_bets a_t_now_prices a_t_now_stepCells a_t_now_stepSizes a_t_now_laws_cells a_t_now_finds_cells a_t_now_bets_cells a_t_now_prices_cells a_t_reader_bytes a_t_reader_numbers : Nat) (c_t_refusedBad : Int32) (c_t_refusedNo : Int32) (c_t_refusedFull : Int32) (c_t_now_steps : Int32) (c_t_now_laws_size : Int32) (c_t_now_finds_size : Int32) (c_t_now_bets_size : Int32) (c_t_now_prices_size : Int32) (c_t_reader_size : Int32) (c_t_reader_place : Int32) (c_t_reader_behind : Int32) (c_t_reader_sort : Int32) : va_W := [(a_t, .inr (7, [.ref a_t_now, .ref a_t_draft, .ref a_t_images, .ref a_t_kept, .ref a_t_pasts, .ref a_t_ledger, .ref a_t_settling, .ref a_t_reader, .ref a_t_fraction, .int c_t_refusedBad, .int c_t_refusedNo, .int c_t_refusedFull])), (a_t_now, .inr (5, [.ref a_t_now_laws, .ref a_t_now_finds, .ref a_t_now_bets, .ref a_t_now_prices, .ref a_t_now_stepCells, .ref a_t_now_stepSizes, .int c_t_now_steps])), (a_t_now_laws, .inr (6, [.int 3, .int 8, .ref a_t_now_laws_cells, .int c_t_now_laws_size])), (a_t_now_finds, .inr (6, [.int 3, .int 10, .ref a_t_now_finds_cells, .int c_t_now_finds_size])), (a_t_now_bets, .inr (6, [.int 5, .int 8, .ref a_t_now_bets_cells, .int c_t_now_bets_size])), (a_t_now_prices, .inr (6, [.int 5, .int 6, .ref a_t_now_prices_cells, .int c_t_now_prices_size])), (a_t_reader, .inr (3, [.ref a_t_reader_bytes, .ref a_t_reader_numbers, .int c_t_reader_size, .int c_t_reader_place, .int c_t_reader_behind, .int c_t_reader_sort]))]
theorem hnX7_howMany_X3 : ∀ w ∈ wsX30, w ∈ wsX7_howMany := fun _ h => List.mem_cons_of_mem _ (List.mem_append_right _ h)
theorem hnX7_howMany_X5 : ∀ w ∈ wsX50, w ∈ wsX7_howMany := fun _ h => List.mem_cons_of_mem _ (List.mem_append_left _ (List.mem_append_left _ (List.mem_append_right _ h)))
theorem hnX7_howMany_X6 : ∀ w ∈ wsX60, w ∈ wsX7_howMany := fun _ h => List.mem_cons_of_mem _ (List.mem_append_left _ (List.mem_append_right _ h))
theorem hnX7_howMany_X7 : ∀ w ∈ wsX70, w ∈ wsX7_howMany := fun _ h => List.mem_cons_of_mem _ (List.mem_append_left _ (List.mem_append_left _ (List.mem_append_left _ (List.mem_append_right _ h))))
set_option maxHeartbeats 4000000 in
set_option maxRecDepth 100000 in
theorem kcX7_howMany (l : Launch) (dC : Nat → ClassId) (dI : Nat → Nat → Nat) (cyB cyI cyJ cyZ cyS : ClassId) (a_t a_t_now a_t_draft a_t_images a_t_kept a_t_pasts a_t_ledger a_t_settling a_t_reader a_t_fraction a_t_now_laws a_t_now_finds a_t_now_bets a_t_now_prices a_t_now_stepCells a_t_now_stepSizes a_t_now_laws_cells a_t_now_finds_cells a_t_now_bets_cells a_t_now_prices_cells a_t_reader_bytes a_t_reader_numbers : Nat) (c_t_refusedBad : Int32) (c_t_refusedNo : Int32) (c_t_refusedFull : Int32) (c_t_now_steps : Int32) (c_t_now_laws_size : Int32) (c_t_now_finds_size : Int32) (c_t_now_bets_size : Int32) (c_t_now_prices_size : Int32) (c_t_reader_size : Int32) (c_t_reader_place : Int32) (c_t_reader_behind : Int32) (c_t_reader_sort : Int32) (p1 : Int32) (out : Int32) (hf : fX7_howMany c_t_now_steps c_t_now_laws_size c_t_now_finds_size c_t_now_bets_size c_t_now_prices_size c_t_reader_size p1 = some out) : pb_K l yX7_howMany wsX7_howMany rmX7_howMany (dC, dI) vwCl (pb_tys cyB cyI cyJ cyZ cyS) pb_NW [.ref a_t, .int p1] (wwX7_howMany cyB cyI cyJ cyZ cyS a_t a_t_now a_t_draft a_t_images a_t_kept a_t_pasts a_t_ledger a_t_settling a_t_reader a_t_fraction a_t_now_laws a_t_now_finds a_t_now_bets a_t_now_prices a_t_now_stepCells a_t_now_stepSizes a_t_now_laws_cells a_t_now_finds_cells a_t_now_bets_cells a_t_now_prices_cells a_t_reader_bytes a_t_reader_numbers c_t_refusedBad c_t_refusedNo c_t_refusedFull c_t_now_steps c_t_now_laws_size c_t_now_finds_size c_t_now_bets_size c_t_now_prices_size c_t_reader_size c_t_reader_place c_t_reader_behind c_t_reader_sort) (wwX7_howMany cyB cyI cyJ cyZ cyS a_t a_t_now a_t_draft a_t_images a_t_kept a_t_pasts a_t_ledger a_t_settling a_t_reader a_t_fraction a_t_now_laws a_t_now_finds a_t_now_bets a_t_now_prices a_t_now_stepCells a_t_now_stepSizes a_t_now_laws_cells a_t_now_finds_cells a_t_now_bets_cells a_t_now_prices_cells a_t_reader_bytes a_t_reader_numbers c_t_refusedBad c_t_refusedNo c_t_refusedFull c_t_now_steps c_t_now_laws_size c_t_now_finds_size c_t_now_bets_size c_t_now_prices_size c_t_reader_size c_t_reader_place c_t_reader_behind c_t_reader_sort) (some (.int out)) := by
  unfold fX7_howMany at hf
  refine pb_K.ofV (cc := cX7_howMany) (maxL := 2) (ret := (some .int)) (lv0 := [(0, .ref a_t), (1, .int p1)]) (by decide) rfl (Nat.le_of_ble_eq_true rfl) rfl ?_
  intro p e s m below meth c A C hX hr hlk hA
  refine pb_iload_n (pc := 0) C dX7_howMany_0 rfl 1 rfl ?_
  by_cases hs1_0 : p1 = 0
  · have hf := pb_pos hf hs1_0
    refine pb_tableIn (pc := 1) (tgt := 36) C dX7_howMany_1 (by rw [hs1_0]; decide) (by rw [hs1_0]; decide) (by rw [hs1_0]; rfl) (by decide) ?_
    refine pb_aload_n (pc := 36) C dX7_howMany_36 rfl 0 rfl ?_
    refine pb_get (pc := 37) C hnX7_howMany_X7 0 rfl rfl 0 (by decide) (List.mem_of_getElem? (i := 1) rfl) rfl rfl dX7_howMany_37 ?_
    refine pb_get (pc := 40) C hnX7_howMany_X5 1 rfl rfl 0 (by decide) (List.mem_of_getElem? (i := 2) rfl) rfl rfl dX7_howMany_40 ?_
    refine pb_get (pc := 43) C hnX7_howMany_X6 2 rfl rfl 3 (by decide) (List.mem_of_getElem? (i := 3) rfl) rfl rfl dX7_howMany_43 ?_
    obtain rfl := Option.some.inj hf
    exact pb_iret (pc := 46) C hr hlk hA dX7_howMany_46
  have hf := pb_neg hf hs1_0
  by_cases hs1_1 : p1 = 1
  · have hf := pb_pos hf hs1_1
    refine pb_tableIn (pc := 1) (tgt := 47) C dX7_howMany_1 (by rw [hs1_1]; decide) (by rw [hs1_1]; decide) (by rw [hs1_1]; rfl) (by decide) ?_
    refine pb_aload_n (pc := 47) C dX7_howMany_47 rfl 0 rfl ?_
    refine pb_get (pc := 48) C hnX7_howMany_X7 0 rfl rfl 0 (by decide) (List.mem_of_getElem? (i := 1) rfl) rfl rfl dX7_howMany_48 ?_
    refine pb_get (pc := 51) C hnX7_howMany_X5 1 rfl rfl 1 (by decide) (List.mem_of_getElem? (i := 4) rfl) rfl rfl dX7_howMany_51 ?_
    refine pb_get (pc := 54) C hnX7_howMany_X6 3 rfl rfl 3 (by decide) (List.mem_of_getElem? (i := 3) rfl) rfl rfl dX7_howMany_54 ?_
    obtain rfl := Option.some.inj hf
    exact pb_iret (pc := 57) C hr hlk hA dX7_howMany_57
  have hf := pb_neg hf hs1_1
  by_cases hs1_2 : p1 = 2
  · have hf := pb_pos hf hs1_2
    refine pb_tableIn (pc := 1) (tgt := 58) C dX7_howMany_1 (by rw [hs1_2]; decide) (by rw [hs1_2]; decide) (by rw [hs1_2]; rfl) (by decide) ?_
    refine pb_aload_n (pc := 58) C dX7_howMany_58 rfl 0 rfl ?_
    refine pb_get (pc := 59) C hnX7_howMany_X7 0 rfl rfl 0 (by decide) (List.mem_of_getElem? (i := 1) rfl) rfl rfl dX7_howMany_59 ?_
    refine pb_get (pc := 62) C hnX7_howMany_X5 1 rfl rfl 2 (by decide) (List.mem_of_getElem? (i := 5) rfl) rfl rfl dX7_howMany_62 ?_
    refine pb_get (pc := 65) C hnX7_howMany_X6 4 rfl rfl 3 (by decide) (List.mem_of_getElem? (i := 3) rfl) rfl rfl dX7_howMany_65 ?_
    obtain rfl := Option.some.inj hf
    exact pb_iret (pc := 68) C hr hlk hA dX7_howMany_68
  have hf := pb_neg hf hs1_2
  by_cases hs1_3 : p1 = 3
  · have hf := pb_pos hf hs1_3
    refine pb_tableIn (pc := 1) (tgt := 69) C dX7_howMany_1 (by rw [hs1_3]; decide) (by rw [hs1_3]; decide) (by rw [hs1_3]; rfl) (by decide) ?_
    refine pb_aload_n (pc := 69) C dX7_howMany_69 rfl 0 rfl ?_
    refine pb_get (pc := 70) C hnX7_howMany_X7 0 rfl rfl 0 (by decide) (List.mem_of_getElem? (i := 1) rfl) rfl rfl dX7_howMany_70 ?_
    refine pb_get (pc := 73) C hnX7_howMany_X5 1 rfl rfl 3 (by decide) (List.mem_of_getElem? (i := 6) rfl) rfl rfl dX7_howMany_73 ?_
    refine pb_get (pc := 76) C hnX7_howMany_X6 5 rfl rfl 3 (by decide) (List.mem_of_getElem? (i := 3) rfl) rfl rfl dX7_howMany_76 ?_
    obtain rfl := Option.some.inj hf
    exact pb_iret (pc := 79) C hr hlk hA dX7_howMany_79
  have hf := pb_neg hf hs1_3
  by_cases hs1_4 : p1 = 4
  · have hf := pb_pos hf hs1_4
    refine pb_tableIn (pc := 1) (tgt := 80) C dX7_howMany_1 (by rw [hs1_4]; decide) (by rw [hs1_4]; decide) (by rw [hs1_4]; rfl) (by decide) ?_
    refine pb_aload_n (pc := 80) C dX7_howMany_80 rfl 0 rfl ?_
    refine pb_get (pc := 81) C hnX7_howMany_X7 0 rfl rfl 0 (by decide) (List.mem_of_getElem? (i := 1) rfl) rfl rfl dX7_howMany_81 ?_
    refine pb_get (pc := 84) C hnX7_howMany_X5 1 rfl rfl 6 (by decide) (List.mem_of_getElem? (i := 7) rfl) rfl rfl dX7_howMany_84 ?_
    obtain rfl := Option.some.inj hf
    exact pb_iret (pc := 87) C hr hlk hA dX7_howMany_87
  have hf := pb_neg hf hs1_4
  refine pb_tableOut (pc := 1) (tgt := 88) C dX7_howMany_1 (by have q0 := lv_neT (a := 0) hs1_0 (by decide); have q1 := lv_neT (a := 1) hs1_1 (by decide); have q2 := lv_neT (a := 2) hs1_2 (by decide); have q3 := lv_neT (a := 3) hs1_3 (by decide); have q4 := lv_neT (a := 4) hs1_4 (by decide); omega) (by decide) ?_
  refine pb_aload_n (pc := 88) C dX7_howMany_88 rfl 0 rfl ?_
  refine pb_get (pc := 89) C hnX7_howMany_X7 0 rfl rfl 7 (by decide) (List.mem_of_getElem? (i := 8) rfl) rfl rfl dX7_howMany_89 ?_
  refine pb_get (pc := 92) C hnX7_howMany_X3 6 rfl rfl 2 (by decide) (List.mem_of_getElem? (i := 9) rfl) rfl rfl dX7_howMany_92 ?_
  obtain rfl := Option.some.inj hf
  exact pb_iret (pc := 95) C hr hlk hA dX7_howMany_95
