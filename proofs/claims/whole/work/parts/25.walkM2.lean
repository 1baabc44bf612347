def rmX8_bet : Room := { frames := 4, cells := 0, slots := 0, locals := 91 }
def wwX8_bet (cyB cyI cyJ cyZ cyS : ClassId) (a_t a_t_w a_t_isKept a_t_text a_t_refused a_t_numbers a_t_weights : Nat) (c_t_texted : Int32) (c_t_above : Int64) (c_t_below : Int64) (c_t_at : Int32) (c_t_start : Int32) (c_t_isWord : Int32) (c_t_isFigures : Int32) (c_t_all : Int64) (c_t_known : Int32) (c_t_truth : Int32) (c_t_x : Int64) (c_t_h : Int64) (c_t_w : (Nat → Int32)) (c_t_refused : (Nat → Int32)) : va_W := [(a_t, .inr (8, [.ref a_t_w, .ref a_t_isKept, .ref a_t_text, .int c_t_texted, .ref a_t_refused, .long c_t_above, .long c_t_below, .int c_t_at, .int c_t_start, .int c_t_isWord, .int c_t_isFigures, .ref a_t_numbers, .ref a_t_weights, .long c_t_all, .int c_t_known, .int c_t_truth, .long c_t_x, .long c_t_h])), (a_t_w, .inl (cyI, 1508, .inl c_t_w)), (a_t_refused, .inl (cyI, 3, .inl c_t_refused))]
theorem hnX8_bet_X8 : ∀ w ∈ wsX80, w ∈ wsX8_bet := fun _ h => List.mem_cons_of_mem _ (List.mem_append_right _ h)
set_option maxHeartbeats 4000000 in
set_option maxRecDepth 100000 in
theorem kcX8_bet (l : Launch) (dC : Nat → ClassId) (dI : Nat → Nat → Nat) (cyB cyI cyJ cyZ cyS : ClassId) (a_t a_t_w a_t_isKept a_t_text a_t_refused a_t_numbers a_t_weights : Nat) (c_t_texted : Int32) (c_t_above : Int64) (c_t_below : Int64) (c_t_at : Int32) (c_t_start : Int32) (c_t_isWord : Int32) (c_t_isFigures : Int32) (c_t_all : Int64) (c_t_known : Int32) (c_t_truth : Int32) (c_t_x : Int64) (c_t_h : Int64) (c_t_w : (Nat → Int32)) (c_t_refused : (Nat → Int32)) (p1 : Int32) (p2 : Int32) (p3 : Int32) (p4 : Int32) (p5 : Int32) (out : (Int32 × (Nat → Int32) × (Nat → Int32))) (hf : fX8_bet c_t_w c_t_refused p1 p2 p3 p4 p5 = some out) : pb_K l yX8_bet wsX8_bet rmX8_bet (dC, dI) vwCl (pb_tys cyB cyI cyJ cyZ cyS) pb_NW [.ref a_t, .int p1, .int p2, .int p3, .int p4, .int p5] (wwX8_bet cyB cyI cyJ cyZ cyS a_t a_t_w a_t_isKept a_t_text a_t_refused a_t_numbers a_t_weights c_t_texted c_t_above c_t_below c_t_at c_t_start c_t_isWord c_t_isFigures c_t_all c_t_known c_t_truth c_t_x c_t_h c_t_w c_t_refused) (wwX8_bet cyB cyI cyJ cyZ cyS a_t a_t_w a_t_isKept a_t_text a_t_refused a_t_numbers a_t_weights c_t_texted c_t_above c_t_below c_t_at c_t_start c_t_isWord c_t_isFigures c_t_all c_t_known c_t_truth c_t_x c_t_h out.2.1 out.2.2) (some (.int out.1)) := by
  unfold fX8_bet at hf
  refine pb_K.ofV (cc := cX8_bet) (maxL := 6) (ret := (some .int)) (lv0 := [(0, .ref a_t), (1, .int p1), (2, .int p2), (3, .int p3), (4, .int p4), (5, .int p5)]) (by decide) rfl (Nat.le_of_ble_eq_true rfl) rfl ?_
  intro p e s m below meth c A C hX hr hlk hA
  refine pb_iload_n (pc := 0) C dX8_bet_0 rfl 1 rfl ?_
  refine pb_iload_n (pc := 1) C dX8_bet_1 rfl 2 rfl ?_
  refine pb_iload_n (pc := 2) C dX8_bet_2 rfl 3 rfl ?_
  refine pb_iload (pc := 3) C dX8_bet_3 4 rfl ?_
  refine pb_iload (pc := 5) C dX8_bet_5 5 rfl ?_
  obtain ⟨r7, hr7, hf⟩ := pb_bind hf
  refine pb_callS (pc := 7) (n0 := 3) (ws' := (wwX8_bet cyB cyI cyJ cyZ cyS a_t a_t_w a_t_isKept a_t_text a_t_refused a_t_numbers a_t_weights c_t_texted c_t_above c_t_below c_t_at c_t_start c_t_isWord c_t_isFigures c_t_all c_t_known c_t_truth c_t_x c_t_h c_t_w c_t_refused)) (rest := []) (st2 := [.int r7]) C (kcX8_isStake l dC dI cyB cyI cyJ cyZ cyS p1 p2 p3 p4 p5 r7 hr7) pb_NW_b (pb_NW_x hX) (va_cwS 5 C.1.2.2.2.2 gX8_bet_X8_isStake rfl rfl rfl kdS_X8_isStake ⟨Nat.le_of_ble_eq_true rfl, Nat.le_of_ble_eq_true rfl⟩) [] [0, 1, 2] rfl rfl ⟨⟨_, rfl, rfl⟩, ⟨⟨_, rfl, rfl⟩, ⟨⟨_, rfl, rfl⟩, trivial⟩⟩⟩ rfl (by decide +kernel) (adl := []) rfl rfl rfl rfl rfl (Nat.le_of_ble_eq_true rfl) ⟨Nat.le_refl _, Nat.le_refl _⟩ dX8_bet_7 rfl ?_
  refine pb_if_ne (pc := 10) (tgt := 18) C dX8_bet_10 (by decide) (fun hc10 => ?_) (fun hc10 => ?_)
  · have hf := pb_neg hf hc10
    refine pb_aload_n (pc := 18) C dX8_bet_18 rfl 0 rfl ?_
    refine pb_get (pc := 19) C hnX8_bet_X8 0 rfl rfl 0 (by decide) (List.mem_of_getElem? (i := 1) rfl) rfl rfl dX8_bet_19 ?_
    refine pb_iconst (v := 2) (pc := 22) C dX8_bet_22 pb_kI_2 ?_
    refine pb_iald (pc := 23) C 1 1 rfl rfl pb_ok_2_1508 dX8_bet_23 ?_
    refine pb_topi (congrArg c_t_w pb_kN_2) ?_
    refine pb_bipush (v := 8) (pc := 24) C dX8_bet_24 pb_kB_8 ?_
    refine pb_icmp_ne (pc := 26) (tgt := 36) C dX8_bet_26 (by decide) (fun hc26 => ?_) (fun hc26 => ?_)
    · have hf := pb_neg hf hc26
      refine pb_aload_n (pc := 36) C dX8_bet_36 rfl 0 rfl ?_
      refine pb_iconst (v := 0) (pc := 37) C dX8_bet_37 pb_kI_0 ?_
      refine pb_iconst (v := 2) (pc := 38) C dX8_bet_38 pb_kI_2 ?_
      refine pb_bipush (v := 59) (pc := 39) C dX8_bet_39 pb_kB_59 ?_
      refine pb_iload_n (pc := 41) C dX8_bet_41 rfl 1 rfl ?_
      refine pb_iload_n (pc := 42) C dX8_bet_42 rfl 2 rfl ?_
      refine pb_iload_n (pc := 43) C dX8_bet_43 rfl 3 rfl ?_
      refine pb_iload (pc := 44) C dX8_bet_44 4 rfl ?_
      refine pb_iload (pc := 46) C dX8_bet_46 5 rfl ?_
      obtain ⟨r48, hr48, hf⟩ := pb_bind hf
      refine pb_callV (pc := 48) (n0 := 3) (ws' := (wwX8_bet cyB cyI cyJ cyZ cyS a_t a_t_w a_t_isKept a_t_text a_t_refused a_t_numbers a_t_weights c_t_texted c_t_above c_t_below c_t_at c_t_start c_t_isWord c_t_isFigures c_t_all c_t_known c_t_truth c_t_x c_t_h r48.2 c_t_refused)) (rest := []) (st2 := [.int r48.1]) C (kcX8_adds5 l dC dI cyB cyI cyJ cyZ cyS a_t a_t_w a_t_isKept a_t_text a_t_refused a_t_numbers a_t_weights c_t_texted c_t_above c_t_below c_t_at c_t_start c_t_isWord c_t_isFigures c_t_all c_t_known c_t_truth c_t_x c_t_h c_t_w 0 2 59 p1 p2 p3 p4 p5 r48 hr48) pb_NW_b (pb_NW_x hX) (cwV 8 C.1.2.2.2.2 gX8_bet_X8_adds5 rfl rfl rfl kdV_X8_adds5 ⟨Nat.le_of_ble_eq_true rfl, Nat.le_of_ble_eq_true rfl⟩) 0 rfl rfl [0, 1] [2] rfl rfl ⟨⟨_, rfl, rfl⟩, trivial⟩ rfl (by decide +kernel) (adl := [a_t, a_t_w]) rfl rfl rfl rfl rfl (Nat.le_of_ble_eq_true rfl) ⟨Nat.le_refl _, Nat.le_refl _⟩ dX8_bet_48 rfl ?_
      obtain rfl := Option.some.inj hf
      exact pb_iret (pc := 51) C hr hlk hA dX8_bet_51
    · have hf := pb_pos hf hc26
      refine pb_aload_n (pc := 29) C dX8_bet_29 rfl 0 rfl ?_
      obtain ⟨r30, hr30, hf⟩ := pb_bind hf
      refine pb_callV (pc := 30) (n0 := 3) (ws' := (wwX8_bet cyB cyI cyJ cyZ cyS a_t a_t_w a_t_isKept a_t_text a_t_refused a_t_numbers a_t_weights c_t_texted c_t_above c_t_below c_t_at c_t_start c_t_isWord c_t_isFigures c_t_all c_t_known c_t_truth c_t_x c_t_h c_t_w r30.2)) (rest := []) (st2 := [.int r30.1]) C (kcX8_full l dC dI cyB cyI cyJ cyZ cyS a_t a_t_w a_t_isKept a_t_text a_t_refused a_t_numbers a_t_weights c_t_texted c_t_above c_t_below c_t_at c_t_start c_t_isWord c_t_isFigures c_t_all c_t_known c_t_truth c_t_x c_t_h c_t_refused r30 hr30) pb_NW_b (pb_NW_x hX) (cwV 0 C.1.2.2.2.2 gX8_bet_X8_full rfl rfl rfl kdV_X8_full ⟨Nat.le_of_ble_eq_true rfl, Nat.le_of_ble_eq_true rfl⟩) 0 rfl rfl [0, 2] [1] rfl rfl ⟨⟨_, rfl, rfl⟩, trivial⟩ rfl (by decide +kernel) (adl := [a_t, a_t_refused]) rfl rfl rfl rfl rfl (Nat.le_of_ble_eq_true rfl) ⟨Nat.le_refl _, Nat.le_refl _⟩ dX8_bet_30 rfl ?_
      refine pb_goto (pc := 33) (tgt := 51) C dX8_bet_33 (by decide) ?_
      obtain rfl := Option.some.inj hf
      exact pb_iret (pc := 51) C hr hlk hA dX8_bet_51
  · have hf := pb_pos hf hc10
    refine pb_aload_n (pc := 13) C dX8_bet_13 rfl 0 rfl ?_
    obtain ⟨r14, hr14, hf⟩ := pb_bind hf
    refine pb_callV (pc := 14) (n0 := 3) (ws' := (wwX8_bet cyB cyI cyJ cyZ cyS a_t a_t_w a_t_isKept a_t_text a_t_refused a_t_numbers a_t_weights c_t_texted c_t_above c_t_below c_t_at c_t_start c_t_isWord c_t_isFigures c_t_all c_t_known c_t_truth c_t_x c_t_h c_t_w r14.2)) (rest := []) (st2 := [.int r14.1]) C (kcX8_bad l dC dI cyB cyI cyJ cyZ cyS a_t a_t_w a_t_isKept a_t_text a_t_refused a_t_numbers a_t_weights c_t_texted c_t_above c_t_below c_t_at c_t_start c_t_isWord c_t_isFigures c_t_all c_t_known c_t_truth c_t_x c_t_h c_t_refused r14 hr14) pb_NW_b (pb_NW_x hX) (cwV 0 C.1.2.2.2.2 gX8_bet_X8_bad rfl rfl rfl kdV_X8_bad ⟨Nat.le_of_ble_eq_true rfl, Nat.le_of_ble_eq_true rfl⟩) 0 rfl rfl [0, 2] [1] rfl rfl ⟨⟨_, rfl, rfl⟩, trivial⟩ rfl (by decide +kernel) (adl := [a_t, a_t_refused]) rfl rfl rfl rfl rfl (Nat.le_of_ble_eq_true rfl) ⟨Nat.le_refl _, Nat.le_refl _⟩ dX8_bet_14 rfl ?_
    obtain rfl := Option.some.inj hf
    exact pb_iret (pc := 17) C hr hlk hA dX8_bet_17
def rmX8_off : Room := { frames := 0, cells := 0, slots := 0, locals := 0 }
def wwX8_off (cyB cyI cyJ cyZ cyS : ClassId) (a_t a_t_w a_t_isKept a_t_text a_t_refused a_t_numbers a_t_weights : Nat) (c_t_texted : Int32) (c_t_above : Int64) (c_t_below : Int64) (c_t_at : Int32) (c_t_start : Int32) (c_t_isWord : Int32) (c_t_isFigures : Int32) (c_t_all : Int64) (c_t_known : Int32) (c_t_truth : Int32) (c_t_x : Int64) (c_t_h : Int64) (c_t_w : (Nat → Int32)) : va_W := [(a_t, .inr (8, [.ref a_t_w, .ref a_t_isKept, .ref a_t_text, .int c_t_texted, .ref a_t_refused, .long c_t_above, .long c_t_below, .int c_t_at, .int c_t_start, .int c_t_isWord, .int c_t_isFigures, .ref a_t_numbers, .ref a_t_weights, .long c_t_all, .int c_t_known, .int c_t_truth, .long c_t_x, .long c_t_h])), (a_t_w, .inl (cyI, 1508, .inl c_t_w))]
theorem hnX8_off_X8 : ∀ w ∈ wsX80, w ∈ wsX8_off := fun _ h => List.mem_cons_of_mem _ (List.mem_append_right _ h)
set_option maxHeartbeats 4000000 in
set_option maxRecDepth 100000 in
theorem kcX8_off (l : Launch) (dC : Nat → ClassId) (dI : Nat → Nat → Nat) (cyB cyI cyJ cyZ cyS : ClassId) (a_t a_t_w a_t_isKept a_t_text a_t_refused a_t_numbers a_t_weights : Nat) (c_t_texted : Int32) (c_t_above : Int64) (c_t_below : Int64) (c_t_at : Int32) (c_t_start : Int32) (c_t_isWord : Int32) (c_t_isFigures : Int32) (c_t_all : Int64) (c_t_known : Int32) (c_t_truth : Int32) (c_t_x : Int64) (c_t_h : Int64) (c_t_w : (Nat → Int32)) (out : (Int32 × (Nat → Int32))) (hf : fX8_off c_t_w = some out) : pb_K l yX8_off wsX8_off rmX8_off (dC, dI) vwCl (pb_tys cyB cyI cyJ cyZ cyS) pb_NW [.ref a_t] (wwX8_off cyB cyI cyJ cyZ cyS a_t a_t_w a_t_isKept a_t_text a_t_refused a_t_numbers a_t_weights c_t_texted c_t_above c_t_below c_t_at c_t_start c_t_isWord c_t_isFigures c_t_all c_t_known c_t_truth c_t_x c_t_h c_t_w) (wwX8_off cyB cyI cyJ cyZ cyS a_t a_t_w a_t_isKept a_t_text a_t_refused a_t_numbers a_t_weights c_t_texted c_t_above c_t_below c_t_at c_t_start c_t_isWord c_t_isFigures c_t_all c_t_known c_t_truth c_t_x c_t_h out.2) (some (.int out.1)) := by
  unfold fX8_off at hf
  refine pb_K.ofV (cc := cX8_off) (maxL := 2) (ret := (some .int)) (lv0 := [(0, .ref a_t)]) (by decide) rfl (Nat.le_of_ble_eq_true rfl) rfl ?_
  intro p e s m below meth c A C hX hr hlk hA
  refine pb_aload_n (pc := 0) C dX8_off_0 rfl 0 rfl ?_
  refine pb_get (pc := 1) C hnX8_off_X8 0 rfl rfl 0 (by decide) (List.mem_of_getElem? (i := 1) rfl) rfl rfl dX8_off_1 ?_
  refine pb_iconst (v := 2) (pc := 4) C dX8_off_4 pb_kI_2 ?_
  refine pb_iald (pc := 5) C 1 1 rfl rfl pb_ok_2_1508 dX8_off_5 ?_
  refine pb_topi (congrArg c_t_w pb_kN_2) ?_
  obtain ⟨x6, ex6, hf⟩ := pb_bind hf
  have ex6 := Option.some.inj ex6
  refine pb_topi ex6 ?_
  refine pb_istore_n (lv' := [(1, .int x6), (0, .ref a_t)]) (pc := 6) C dX8_off_6 rfl (by decide) rfl ?_
  refine pb_aload_n (pc := 7) C dX8_off_7 rfl 1 rfl ?_
  refine pb_get (pc := 8) C hnX8_off_X8 0 rfl rfl 0 (by decide) (List.mem_of_getElem? (i := 1) rfl) rfl rfl dX8_off_8 ?_
  refine pb_iconst (v := 2) (pc := 11) C dX8_off_11 pb_kI_2 ?_
  refine pb_iconst (v := 0) (pc := 12) C dX8_off_12 pb_kI_0 ?_
  obtain ⟨u13, eu13, hf⟩ := pb_bind hf
  have eu13 := Option.some.inj eu13
  refine pb_iast (pc := 13) (ws' := (wwX8_off cyB cyI cyJ cyZ cyS a_t a_t_w a_t_isKept a_t_text a_t_refused a_t_numbers a_t_weights c_t_texted c_t_above c_t_below c_t_at c_t_start c_t_isWord c_t_isFigures c_t_all c_t_known c_t_truth c_t_x c_t_h u13)) C 1 1 rfl rfl pb_ok_2_1508 ((congrArg (fun k => upd c_t_w k 0) pb_kN_2).trans eu13) rfl dX8_off_13 ?_
  refine pb_iload_n (pc := 14) C dX8_off_14 rfl 0 rfl ?_
  obtain rfl := Option.some.inj hf
  exact pb_iret (pc := 15) C hr hlk hA dX8_off_15
def rmX8_type : Room := { frames := 1, cells := 0, slots := 0, locals := 25 }
def wwX8_type (cyB cyI cyJ cyZ cyS : ClassId) (a_t a_t_w a_t_isKept a_t_text a_t_refused a_t_numbers a_t_weights : Nat) (c_t_texted : Int32) (c_t_above : Int64) (c_t_below : Int64) (c_t_at : Int32) (c_t_start : Int32) (c_t_isWord : Int32) (c_t_isFigures : Int32) (c_t_all : Int64) (c_t_known : Int32) (c_t_truth : Int32) (c_t_x : Int64) (c_t_h : Int64) (c_t_text : (Nat → Int32)) (c_t_refused : (Nat → Int32)) : va_W := [(a_t, .inr (8, [.ref a_t_w, .ref a_t_isKept, .ref a_t_text, .int c_t_texted, .ref a_t_refused, .long c_t_above, .long c_t_below, .int c_t_at, .int c_t_start, .int c_t_isWord, .int c_t_isFigures, .ref a_t_numbers, .ref a_t_weights, .long c_t_all, .int c_t_known, .int c_t_truth, .long c_t_x, .long c_t_h])), (a_t_text, .inl (cyI, 150, .inl c_t_text)), (a_t_refused, .inl (cyI, 3, .inl c_t_refused))]
theorem hnX8_type_X8 : ∀ w ∈ wsX80, w ∈ wsX8_type := fun _ h => List.mem_cons_of_mem _ (List.mem_append_right _ h)
set_option maxHeartbeats 4000000 in
set_option maxRecDepth 100000 in
theorem kcX8_type (l : Launch) (dC : Nat → ClassId) (dI : Nat → Nat → Nat) (cyB cyI cyJ cyZ cyS : ClassId) (a_t a_t_w a_t_isKept a_t_text a_t_refused a_t_numbers a_t_weights : Nat) (c_t_texted : Int32) (c_t_above : Int64) (c_t_below : Int64) (c_t_at : Int32) (c_t_start : Int32) (c_t_isWord : Int32) (c_t_isFigures : Int32) (c_t_all : Int64) (c_t_known : Int32) (c_t_truth : Int32) (c_t_x : Int64) (c_t_h : Int64) (c_t_text : (Nat → Int32)) (c_t_refused : (Nat → Int32)) (p1 : Int32) (out : (Int32 × Int32 × (Nat → Int32) × (Nat → Int32))) (hf : fX8_type c_t_texted c_t_text c_t_refused p1 = some out) : pb_K l yX8_type wsX8_type rmX8_type (dC, dI) vwCl (pb_tys cyB cyI cyJ cyZ cyS) pb_NW [.ref a_t, .int p1] (wwX8_type cyB cyI cyJ cyZ cyS a_t a_t_w a_t_isKept a_t_text a_t_refused a_t_numbers a_t_weights c_t_texted c_t_above c_t_below c_t_at c_t_start c_t_isWord c_t_isFigures c_t_all c_t_known c_t_truth c_t_x c_t_h c_t_text c_t_refused) (wwX8_type cyB cyI cyJ cyZ cyS a_t a_t_w a_t_isKept a_t_text a_t_refused a_t_numbers a_t_weights out.2.1 c_t_above c_t_below c_t_at c_t_start c_t_isWord c_t_isFigures c_t_all c_t_known c_t_truth c_t_x c_t_h out.2.2.1 out.2.2.2) (some (.int out.1)) := by
  unfold fX8_type at hf
  refine pb_K.ofV (cc := cX8_type) (maxL := 2) (ret := (some .int)) (lv0 := [(0, .ref a_t), (1, .int p1)]) (by decide) rfl (Nat.le_of_ble_eq_true rfl) rfl ?_
  intro p e s m below meth c A C hX hr hlk hA
  refine pb_iload_n (pc := 0) C dX8_type_0 rfl 1 rfl ?_
  refine pb_i2l (pc := 1) C dX8_type_1 ?_
  refine pb_lconst (v := 0) (pc := 2) C dX8_type_2 pb_kL_0 ?_
  refine pb_ldc2 (v := 127) (pc := 3) C dX8_type_3 (List.mem_of_getElem? (i := 1) rfl) ?_
  obtain ⟨r6, hr6, hf⟩ := pb_bind hf
  refine pb_callS (pc := 6) (n0 := 3) (ws' := (wwX8_type cyB cyI cyJ cyZ cyS a_t a_t_w a_t_isKept a_t_text a_t_refused a_t_numbers a_t_weights c_t_texted c_t_above c_t_below c_t_at c_t_start c_t_isWord c_t_isFigures c_t_all c_t_known c_t_truth c_t_x c_t_h c_t_text c_t_refused)) (rest := []) (st2 := [.int r6]) C (kcX8_in l dC dI cyB cyI cyJ cyZ cyS (Int32.toInt64 p1) 0 127 r6 hr6) pb_NW_b (pb_NW_x hX) (va_cwS 3 C.1.2.2.2.2 gX8_type_X8_in rfl rfl rfl kdS_X8_in ⟨Nat.le_of_ble_eq_true rfl, Nat.le_of_ble_eq_true rfl⟩) [] [0, 1, 2] rfl rfl ⟨⟨_, rfl, rfl⟩, ⟨⟨_, rfl, rfl⟩, ⟨⟨_, rfl, rfl⟩, trivial⟩⟩⟩ rfl (by decide +kernel) (adl := []) rfl rfl rfl rfl rfl (Nat.le_of_ble_eq_true rfl) ⟨Nat.le_refl _, Nat.le_refl _⟩ dX8_type_6 rfl ?_
  refine pb_if_ne (pc := 9) (tgt := 17) C dX8_type_9 (by decide) (fun hc9 => ?_) (fun hc9 => ?_)
  · have hf := pb_neg hf hc9
    refine pb_aload_n (pc := 17) C dX8_type_17 rfl 0 rfl ?_
    refine pb_get (pc := 18) C hnX8_type_X8 0 rfl rfl 3 (by decide) (List.mem_of_getElem? (i := 2) rfl) rfl rfl dX8_type_18 ?_
    refine pb_sipush (v := 150) (pc := 21) C dX8_type_21 pb_kS_150 ?_
    refine pb_icmp_ne (pc := 24) (tgt := 32) C dX8_type_24 (by decide) (fun hc24 => ?_) (fun hc24 => ?_)
    · have hf := pb_neg hf hc24
      refine pb_aload_n (pc := 32) C dX8_type_32 rfl 0 rfl ?_
      refine pb_get (pc := 33) C hnX8_type_X8 0 rfl rfl 2 (by decide) (List.mem_of_getElem? (i := 3) rfl) rfl rfl dX8_type_33 ?_
      refine pb_aload_n (pc := 36) C dX8_type_36 rfl 0 rfl ?_
      refine pb_get (pc := 37) C hnX8_type_X8 0 rfl rfl 3 (by decide) (List.mem_of_getElem? (i := 2) rfl) rfl rfl dX8_type_37 ?_
      refine pb_iload_n (pc := 40) C dX8_type_40 rfl 1 rfl ?_
      obtain ⟨g41, hf⟩ := pb_grd hf
      obtain ⟨u41, eu41, hf⟩ := pb_bind hf
      have eu41 := Option.some.inj eu41
      refine pb_iast (pc := 41) (ws' := (wwX8_type cyB cyI cyJ cyZ cyS a_t a_t_w a_t_isKept a_t_text a_t_refused a_t_numbers a_t_weights c_t_texted c_t_above c_t_below c_t_at c_t_start c_t_isWord c_t_isFigures c_t_all c_t_known c_t_truth c_t_x c_t_h u41 c_t_refused)) C 1 1 rfl rfl g41 eu41 rfl dX8_type_41 ?_
      refine pb_aload_n (pc := 42) C dX8_type_42 rfl 0 rfl ?_
      refine pb_dup (pc := 43) C dX8_type_43 rfl ?_
      refine pb_get (pc := 44) C hnX8_type_X8 0 rfl rfl 3 (by decide) (List.mem_of_getElem? (i := 2) rfl) rfl rfl dX8_type_44 ?_
      refine pb_iconst (v := 1) (pc := 47) C dX8_type_47 pb_kI_1 ?_
      refine pb_iadd (pc := 48) C dX8_type_48 ?_
      obtain ⟨x49, ex49, hf⟩ := pb_bind hf
      have ex49 := Option.some.inj ex49
      refine pb_topi ex49 ?_
      refine pb_put (pc := 49) (ws' := (wwX8_type cyB cyI cyJ cyZ cyS a_t a_t_w a_t_isKept a_t_text a_t_refused a_t_numbers a_t_weights x49 c_t_above c_t_below c_t_at c_t_start c_t_isWord c_t_isFigures c_t_all c_t_known c_t_truth c_t_x c_t_h u41 c_t_refused)) C hnX8_type_X8 tyX8 tyX8_ok nmX8 0 rfl rfl 3 (by decide) (List.mem_of_getElem? (i := 2) rfl) rfl rfl rfl rfl (Nat.le_of_ble_eq_true rfl) rfl dX8_type_49 ?_
      refine pb_aload_n (pc := 52) C dX8_type_52 rfl 0 rfl ?_
      refine pb_get (pc := 53) C hnX8_type_X8 0 rfl rfl 3 (by decide) (List.mem_of_getElem? (i := 2) rfl) rfl rfl dX8_type_53 ?_
      obtain rfl := Option.some.inj hf
      exact pb_iret (pc := 56) C hr hlk hA dX8_type_56
    · have hf := pb_pos hf hc24
      refine pb_aload_n (pc := 27) C dX8_type_27 rfl 0 rfl ?_
      obtain ⟨r28, hr28, hf⟩ := pb_bind hf
      refine pb_callV (pc := 28) (n0 := 3) (ws' := (wwX8_type cyB cyI cyJ cyZ cyS a_t a_t_w a_t_isKept a_t_text a_t_refused a_t_numbers a_t_weights c_t_texted c_t_above c_t_below c_t_at c_t_start c_t_isWord c_t_isFigures c_t_all c_t_known c_t_truth c_t_x c_t_h c_t_text r28.2)) (rest := []) (st2 := [.int r28.1]) C (kcX8_full l dC dI cyB cyI cyJ cyZ cyS a_t a_t_w a_t_isKept a_t_text a_t_refused a_t_numbers a_t_weights c_t_texted c_t_above c_t_below c_t_at c_t_start c_t_isWord c_t_isFigures c_t_all c_t_known c_t_truth c_t_x c_t_h c_t_refused r28 hr28) pb_NW_b (pb_NW_x hX) (cwV 0 C.1.2.2.2.2 gX8_type_X8_full rfl rfl rfl kdV_X8_full ⟨Nat.le_of_ble_eq_true rfl, Nat.le_of_ble_eq_true rfl⟩) 0 rfl rfl [0, 2] [1] rfl rfl ⟨⟨_, rfl, rfl⟩, trivial⟩ rfl (by decide +kernel) (adl := [a_t, a_t_refused]) rfl rfl rfl rfl rfl (Nat.le_of_ble_eq_true rfl) ⟨Nat.le_refl _, Nat.le_refl _⟩ dX8_type_28 rfl ?_
      obtain rfl := Option.some.inj hf
      exact pb_iret (pc := 31) C hr hlk hA dX8_type_31
  · have hf := pb_pos hf hc9
    refine pb_aload_n (pc := 12) C dX8_type_12 rfl 0 rfl ?_
    obtain ⟨r13, hr13, hf⟩ := pb_bind hf
    refine pb_callV (pc := 13) (n0 := 3) (ws' := (wwX8_type cyB cyI cyJ cyZ cyS a_t a_t_w a_t_isKept a_t_text a_t_refused a_t_numbers a_t_weights c_t_texted c_t_above c_t_below c_t_at c_t_start c_t_isWord c_t_isFigures c_t_all c_t_known c_t_truth c_t_x c_t_h c_t_text r13.2)) (rest := []) (st2 := [.int r13.1]) C (kcX8_bad l dC dI cyB cyI cyJ cyZ cyS a_t a_t_w a_t_isKept a_t_text a_t_refused a_t_numbers a_t_weights c_t_texted c_t_above c_t_below c_t_at c_t_start c_t_isWord c_t_isFigures c_t_all c_t_known c_t_truth c_t_x c_t_h c_t_refused r13 hr13) pb_NW_b (pb_NW_x hX) (cwV 0 C.1.2.2.2.2 gX8_type_X8_bad rfl rfl rfl kdV_X8_bad ⟨Nat.le_of_ble_eq_true rfl, Nat.le_of_ble_eq_true rfl⟩) 0 rfl rfl [0, 2] [1] rfl rfl ⟨⟨_, rfl, rfl⟩, trivial⟩ rfl (by decide +kernel) (adl := [a_t, a_t_refused]) rfl rfl rfl rfl rfl (Nat.le_of_ble_eq_true rfl) ⟨Nat.le_refl _, Nat.le_refl _⟩ dX8_type_13 rfl ?_
    obtain rfl := Option.some.inj hf
    exact pb_iret (pc := 16) C hr hlk hA dX8_type_16
def rmX8_clear : Room := { frames := 0, cells := 0, slots := 0, locals := 0 }
def wwX8_clear (cyB cyI cyJ cyZ cyS : ClassId) (a_t a_t_w a_t_isKept a_t_text a_t_refused a_t_numbers a_t_weights : Nat) (c_t_texted : Int32) (c_t_above : Int64) (c_t_below : Int64) (c_t_at : Int32) (c_t_start : Int32) (c_t_isWord : Int32) (c_t_isFigures : Int32) (c_t_all : Int64) (c_t_known : Int32) (c_t_truth : Int32) (c_t_x : Int64) (c_t_h : Int64) : va_W := [(a_t, .inr (8, [.ref a_t_w, .ref a_t_isKept, .ref a_t_text, .int c_t_texted, .ref a_t_refused, .long c_t_above, .long c_t_below, .int c_t_at, .int c_t_start, .int c_t_isWord, .int c_t_isFigures, .ref a_t_numbers, .ref a_t_weights, .long c_t_all, .int c_t_known, .int c_t_truth, .long c_t_x, .long c_t_h]))]
theorem hnX8_clear_X8 : ∀ w ∈ wsX80, w ∈ wsX8_clear := fun _ h => List.mem_cons_of_mem _ (List.mem_append_right _ h)
set_option maxHeartbeats 4000000 in
set_option maxRecDepth 100000 in
theorem kcX8_clear (l : Launch) (dC : Nat → ClassId) (dI : Nat → Nat → Nat) (cyB cyI cyJ cyZ cyS : ClassId) (a_t a_t_w a_t_isKept a_t_text a_t_refused a_t_numbers a_t_weights : Nat) (c_t_texted : Int32) (c_t_above : Int64) (c_t_below : Int64) (c_t_at : Int32) (c_t_start : Int32) (c_t_isWord : Int32) (c_t_isFigures : Int32) (c_t_all : Int64) (c_t_known : Int32) (c_t_truth : Int32) (c_t_x : Int64) (c_t_h : Int64) (out : (Int32 × Int32)) (hf : fX8_clear c_t_texted = some out) : pb_K l yX8_clear wsX8_clear rmX8_clear (dC, dI) vwCl (pb_tys cyB cyI cyJ cyZ cyS) pb_NW [.ref a_t] (wwX8_clear cyB cyI cyJ cyZ cyS a_t a_t_w a_t_isKept a_t_text a_t_refused a_t_numbers a_t_weights c_t_texted c_t_above c_t_below c_t_at c_t_start c_t_isWord c_t_isFigures c_t_all c_t_known c_t_truth c_t_x c_t_h) (wwX8_clear cyB cyI cyJ cyZ cyS a_t a_t_w a_t_isKept a_t_text a_t_refused a_t_numbers a_t_weights out.2 c_t_above c_t_below c_t_at c_t_start c_t_isWord c_t_isFigures c_t_all c_t_known c_t_truth c_t_x c_t_h) (some (.int out.1)) := by
  unfold fX8_clear at hf
  refine pb_K.ofV (cc := cX8_clear) (maxL := 2) (ret := (some .int)) (lv0 := [(0, .ref a_t)]) (by decide) rfl (Nat.le_of_ble_eq_true rfl) rfl ?_
  intro p e s m below meth c A C hX hr hlk hA
  refine pb_aload_n (pc := 0) C dX8_clear_0 rfl 0 rfl ?_
  refine pb_get (pc := 1) C hnX8_clear_X8 0 rfl rfl 3 (by decide) (List.mem_of_getElem? (i := 1) rfl) rfl rfl dX8_clear_1 ?_
  refine pb_istore_n (lv' := [(1, .int c_t_texted), (0, .ref a_t)]) (pc := 4) C dX8_clear_4 rfl (by decide) rfl ?_
  refine pb_aload_n (pc := 5) C dX8_clear_5 rfl 1 rfl ?_
  refine pb_iconst (v := 0) (pc := 6) C dX8_clear_6 pb_kI_0 ?_
  refine pb_put (pc := 7) (ws' := (wwX8_clear cyB cyI cyJ cyZ cyS a_t a_t_w a_t_isKept a_t_text a_t_refused a_t_numbers a_t_weights 0 c_t_above c_t_below c_t_at c_t_start c_t_isWord c_t_isFigures c_t_all c_t_known c_t_truth c_t_x c_t_h)) C hnX8_clear_X8 tyX8 tyX8_ok nmX8 0 rfl rfl 3 (by decide) (List.mem_of_getElem? (i := 1) rfl) rfl rfl rfl rfl (Nat.le_of_ble_eq_true rfl) rfl dX8_clear_7 ?_
  refine pb_iload_n (pc := 10) C dX8_clear_10 rfl 0 rfl ?_
  obtain rfl := Option.some.inj hf
  exact pb_iret (pc := 11) C hr hlk hA dX8_clear_11
def rmX8_byteAt : Room := { frames := 0, cells := 0, slots := 0, locals := 0 }
def wwX8_byteAt (cyB cyI cyJ cyZ cyS : ClassId) (a_t a_t_w a_t_isKept a_t_text a_t_refused a_t_numbers a_t_weights : Nat) (c_t_texted : Int32) (c_t_above : Int64) (c_t_below : Int64) (c_t_at : Int32) (c_t_start : Int32) (c_t_isWord : Int32) (c_t_isFigures : Int32) (c_t_all : Int64) (c_t_known : Int32) (c_t_truth : Int32) (c_t_x : Int64) (c_t_h : Int64) (c_t_text : (Nat → Int32)) : va_W := [(a_t, .inr (8, [.ref a_t_w, .ref a_t_isKept, .ref a_t_text, .int c_t_texted, .ref a_t_refused, .long c_t_above, .long c_t_below, .int c_t_at, .int c_t_start, .int c_t_isWord, .int c_t_isFigures, .ref a_t_numbers, .ref a_t_weights, .long c_t_all, .int c_t_known, .int c_t_truth, .long c_t_x, .long c_t_h])), (a_t_text, .inl (cyI, 150, .inl c_t_text))]
theorem hnX8_byteAt_X8 : ∀ w ∈ wsX80, w ∈ wsX8_byteAt := fun _ h => List.mem_cons_of_mem _ (List.mem_append_right _ h)
set_option maxHeartbeats 4000000 in
set_option maxRecDepth 100000 in
theorem kcX8_byteAt (l : Launch) (dC : Nat → ClassId) (dI : Nat → Nat → Nat) (cyB cyI cyJ cyZ cyS : ClassId) (a_t a_t_w a_t_isKept a_t_text a_t_refused a_t_numbers a_t_weights : Nat) (c_t_texted : Int32) (c_t_above : Int64) (c_t_below : Int64) (c_t_at : Int32) (c_t_start : Int32) (c_t_isWord : Int32) (c_t_isFigures : Int32) (c_t_all : Int64) (c_t_known : Int32) (c_t_truth : Int32) (c_t_x : Int64) (c_t_h : Int64) (c_t_text : (Nat → Int32)) (p1 : Int32) (out : Int32) (hf : fX8_byteAt c_t_texted c_t_text p1 = some out) : pb_K l yX8_byteAt wsX8_byteAt rmX8_byteAt (dC, dI) vwCl (pb_tys cyB cyI cyJ cyZ cyS) pb_NW [.ref a_t, .int p1] (wwX8_byteAt cyB cyI cyJ cyZ cyS a_t a_t_w a_t_isKept a_t_text a_t_refused a_t_numbers a_t_weights c_t_texted c_t_above c_t_below c_t_at c_t_start c_t_isWord c_t_isFigures c_t_all c_t_known c_t_truth c_t_x c_t_h c_t_text) (wwX8_byteAt cyB cyI cyJ cyZ cyS a_t a_t_w a_t_isKept a_t_text a_t_refused a_t_numbers a_t_weights c_t_texted c_t_above c_t_below c_t_at c_t_start c_t_isWord c_t_isFigures c_t_all c_t_known c_t_truth c_t_x c_t_h c_t_text) (some (.int out)) := by
  unfold fX8_byteAt at hf
  refine pb_K.ofV (cc := cX8_byteAt) (maxL := 2) (ret := (some .int)) (lv0 := [(0, .ref a_t), (1, .int p1)]) (by decide) rfl (Nat.le_of_ble_eq_true rfl) rfl ?_
  intro p e s m below meth c A C hX hr hlk hA
  refine pb_iload_n (pc := 0) C dX8_byteAt_0 rfl 1 rfl ?_
  refine pb_aload_n (pc := 1) C dX8_byteAt_1 rfl 0 rfl ?_
  refine pb_get (pc := 2) C hnX8_byteAt_X8 0 rfl rfl 3 (by decide) (List.mem_of_getElem? (i := 1) rfl) rfl rfl dX8_byteAt_2 ?_
  refine pb_icmp_ge (pc := 5) (tgt := 17) C dX8_byteAt_5 (by decide) (fun hc5 => ?_) (fun hc5 => ?_)
  · have hf := pb_pos hf hc5
    refine pb_iconst (v := (-1)) (pc := 17) C dX8_byteAt_17 pb_kI_m1 ?_
    obtain rfl := Option.some.inj hf
    exact pb_iret (pc := 18) C hr hlk hA dX8_byteAt_18
  · have hf := pb_neg hf hc5
    refine pb_aload_n (pc := 8) C dX8_byteAt_8 rfl 0 rfl ?_
    refine pb_get (pc := 9) C hnX8_byteAt_X8 0 rfl rfl 2 (by decide) (List.mem_of_getElem? (i := 2) rfl) rfl rfl dX8_byteAt_9 ?_
    refine pb_iload_n (pc := 12) C dX8_byteAt_12 rfl 1 rfl ?_
    obtain ⟨g13, hf⟩ := pb_grd hf
    refine pb_iald (pc := 13) C 1 1 rfl rfl g13 dX8_byteAt_13 ?_
    refine pb_goto (pc := 14) (tgt := 18) C dX8_byteAt_14 (by decide) ?_
    obtain rfl := Option.some.inj hf
    exact pb_iret (pc := 18) C hr hlk hA dX8_byteAt_18
def rmX8_token : Room := { frames := 1, cells := 0, slots := 0, locals := 25 }
def wwX8_token (cyB cyI cyJ cyZ cyS : ClassId) (a_t a_t_w a_t_isKept a_t_text a_t_refused a_t_numbers a_t_weights : Nat) (c_t_texted : Int32) (c_t_above : Int64) (c_t_below : Int64) (c_t_at : Int32) (c_t_start : Int32) (c_t_isWord : Int32) (c_t_isFigures : Int32) (c_t_all : Int64) (c_t_known : Int32) (c_t_truth : Int32) (c_t_x : Int64) (c_t_h : Int64) (c_t_text : (Nat → Int32)) : va_W := [(a_t, .inr (8, [.ref a_t_w, .ref a_t_isKept, .ref a_t_text, .int c_t_texted, .ref a_t_refused, .long c_t_above, .long c_t_below, .int c_t_at, .int c_t_start, .int c_t_isWord, .int c_t_isFigures, .ref a_t_numbers, .ref a_t_weights, .long c_t_all, .int c_t_known, .int c_t_truth, .long c_t_x, .long c_t_h])), (a_t_text, .inl (cyI, 150, .inl c_t_text))]
theorem hnX8_token_X8 : ∀ w ∈ wsX80, w ∈ wsX8_token := fun _ h => List.mem_cons_of_mem _ (List.mem_append_right _ h)
set_option maxHeartbeats 4000000 in
set_option maxRecDepth 100000 in
theorem kcX8_token (l : Launch) (dC : Nat → ClassId) (dI : Nat → Nat → Nat) (cyB cyI cyJ cyZ cyS : ClassId) (a_t a_t_w a_t_isKept a_t_text a_t_refused a_t_numbers a_t_weights : Nat) (c_t_texted : Int32) (c_t_above : Int64) (c_t_below : Int64) (c_t_at : Int32) (c_t_start : Int32) (c_t_isWord : Int32) (c_t_isFigures : Int32) (c_t_all : Int64) (c_t_known : Int32) (c_t_truth : Int32) (c_t_x : Int64) (c_t_h : Int64) (c_t_text : (Nat → Int32)) (out : (Int32 × Int32 × Int32 × Int32)) (hf : fX8_token c_t_texted c_t_at c_t_start c_t_isWord c_t_isFigures c_t_text = some out) : pb_K l yX8_token wsX8_token rmX8_token (dC, dI) vwCl (pb_tys cyB cyI cyJ cyZ cyS) pb_NW [.ref a_t] (wwX8_token cyB cyI cyJ cyZ cyS a_t a_t_w a_t_isKept a_t_text a_t_refused a_t_numbers a_t_weights c_t_texted c_t_above c_t_below c_t_at c_t_start c_t_isWord c_t_isFigures c_t_all c_t_known c_t_truth c_t_x c_t_h c_t_text) (wwX8_token cyB cyI cyJ cyZ cyS a_t a_t_w a_t_isKept a_t_text a_t_refused a_t_numbers a_t_weights c_t_texted c_t_above c_t_below out.1 out.2.1 out.2.2.1 out.2.2.2 c_t_all c_t_known c_t_truth c_t_x c_t_h c_t_text) none := by
  unfold fX8_token at hf
  refine pb_K.ofV (cc := cX8_token) (maxL := 1) (ret := none) (lv0 := [(0, .ref a_t)]) (by decide) rfl (Nat.le_of_ble_eq_true rfl) rfl ?_
  intro p e s m below meth c A C hX hr hlk hA
  obtain ⟨z0, hz0, hk0⟩ := pb_bind hf
  have E0 : ∀ (e0_c_t_at : Int32), fX8_token_E0 c_t_texted c_t_text e0_c_t_at = some out → pb_V p l e rmX8_token s m (([.ref a_t] : List Value).toArray) below meth c 1 (dC, dI) vwCl A 0 0 (pb_MQ below (([.ref a_t] : List Value).toArray) s (dC, dI) vwCl (wwX8_token cyB cyI cyJ cyZ cyS a_t a_t_w a_t_isKept a_t_text a_t_refused a_t_numbers a_t_weights c_t_texted c_t_above c_t_below c_t_at c_t_start c_t_isWord c_t_isFigures c_t_all c_t_known c_t_truth c_t_x c_t_h c_t_text) (wwX8_token cyB cyI cyJ cyZ cyS a_t a_t_w a_t_isKept a_t_text a_t_refused a_t_numbers a_t_weights c_t_texted c_t_above c_t_below out.1 out.2.1 out.2.2.1 out.2.2.2 c_t_all c_t_known c_t_truth c_t_x c_t_h c_t_text) none A) (wwX8_token cyB cyI cyJ cyZ cyS a_t a_t_w a_t_isKept a_t_text a_t_refused a_t_numbers a_t_weights c_t_texted c_t_above c_t_below e0_c_t_at c_t_start c_t_isWord c_t_isFigures c_t_all c_t_known c_t_truth c_t_x c_t_h c_t_text) [(0, .ref a_t)] [] 26 := by
    intro e0_c_t_at hf
    unfold fX8_token_E0 at hf
    refine pb_aload_n (pc := 26) C dX8_token_26 rfl 0 rfl ?_
    refine pb_aload_n (pc := 27) C dX8_token_27 rfl 0 rfl ?_
    refine pb_get (pc := 28) C hnX8_token_X8 0 rfl rfl 7 (by decide) (List.mem_of_getElem? (i := 1) rfl) rfl rfl dX8_token_28 ?_
    refine pb_put (pc := 31) (ws' := (wwX8_token cyB cyI cyJ cyZ cyS a_t a_t_w a_t_isKept a_t_text a_t_refused a_t_numbers a_t_weights c_t_texted c_t_above c_t_below e0_c_t_at e0_c_t_at c_t_isWord c_t_isFigures c_t_all c_t_known c_t_truth c_t_x c_t_h c_t_text)) C hnX8_token_X8 tyX8 tyX8_ok nmX8 0 rfl rfl 8 (by decide) (List.mem_of_getElem? (i := 2) rfl) rfl rfl rfl rfl (Nat.le_of_ble_eq_true rfl) rfl dX8_token_31 ?_
    refine pb_aload_n (pc := 34) C dX8_token_34 rfl 0 rfl ?_
    refine pb_aload_n (pc := 35) C dX8_token_35 rfl 0 rfl ?_
    refine pb_aload_n (pc := 36) C dX8_token_36 rfl 0 rfl ?_
    refine pb_get (pc := 37) C hnX8_token_X8 0 rfl rfl 7 (by decide) (List.mem_of_getElem? (i := 1) rfl) rfl rfl dX8_token_37 ?_
    obtain ⟨r40, hr40, hf⟩ := pb_bind hf
    refine pb_callV (pc := 40) (n0 := 2) (ws' := (wwX8_token cyB cyI cyJ cyZ cyS a_t a_t_w a_t_isKept a_t_text a_t_refused a_t_numbers a_t_weights c_t_texted c_t_above c_t_below e0_c_t_at e0_c_t_at c_t_isWord c_t_isFigures c_t_all c_t_known c_t_truth c_t_x c_t_h c_t_text)) (rest := [.ref a_t]) (st2 := [.int r40, .ref a_t]) C (kcX8_byteAt l dC dI cyB cyI cyJ cyZ cyS a_t a_t_w a_t_isKept a_t_text a_t_refused a_t_numbers a_t_weights c_t_texted c_t_above c_t_below e0_c_t_at e0_c_t_at c_t_isWord c_t_isFigures c_t_all c_t_known c_t_truth c_t_x c_t_h c_t_text e0_c_t_at r40 hr40) pb_NW_b (pb_NW_x hX) (cwV 1 C.1.2.2.2.2 gX8_token_X8_byteAt rfl rfl rfl kdV_X8_byteAt ⟨Nat.le_of_ble_eq_true rfl, Nat.le_of_ble_eq_true rfl⟩) 0 rfl rfl [0, 1] [] rfl rfl trivial rfl (by decide +kernel) (adl := [a_t, a_t_text]) rfl rfl rfl rfl rfl (Nat.le_of_ble_eq_true rfl) ⟨Nat.le_refl _, Nat.le_refl _⟩ dX8_token_40 rfl ?_
    refine pb_i2l (pc := 43) C dX8_token_43 ?_
    refine pb_ldc2 (v := 97) (pc := 44) C dX8_token_44 (List.mem_of_getElem? (i := 3) rfl) ?_
    refine pb_ldc2 (v := 122) (pc := 47) C dX8_token_47 (List.mem_of_getElem? (i := 4) rfl) ?_
    obtain ⟨r50, hr50, hf⟩ := pb_bind hf
    refine pb_callS (pc := 50) (n0 := 2) (ws' := (wwX8_token cyB cyI cyJ cyZ cyS a_t a_t_w a_t_isKept a_t_text a_t_refused a_t_numbers a_t_weights c_t_texted c_t_above c_t_below e0_c_t_at e0_c_t_at c_t_isWord c_t_isFigures c_t_all c_t_known c_t_truth c_t_x c_t_h c_t_text)) (rest := [.ref a_t]) (st2 := [.int r50, .ref a_t]) C (kcX8_in l dC dI cyB cyI cyJ cyZ cyS (Int32.toInt64 r40) 97 122 r50 hr50) pb_NW_b (pb_NW_x hX) (va_cwS 3 C.1.2.2.2.2 gX8_token_X8_in rfl rfl rfl kdS_X8_in ⟨Nat.le_of_ble_eq_true rfl, Nat.le_of_ble_eq_true rfl⟩) [] [0, 1] rfl rfl ⟨⟨_, rfl, rfl⟩, ⟨⟨_, rfl, rfl⟩, trivial⟩⟩ rfl (by decide +kernel) (adl := []) rfl rfl rfl rfl rfl (Nat.le_of_ble_eq_true rfl) ⟨Nat.le_refl _, Nat.le_refl _⟩ dX8_token_50 rfl ?_
    obtain ⟨g53, hf⟩ := pb_grd hf
    refine pb_put (pc := 53) (ws' := (wwX8_token cyB cyI cyJ cyZ cyS a_t a_t_w a_t_isKept a_t_text a_t_refused a_t_numbers a_t_weights c_t_texted c_t_above c_t_below e0_c_t_at e0_c_t_at r50 c_t_isFigures c_t_all c_t_known c_t_truth c_t_x c_t_h c_t_text)) C hnX8_token_X8 tyX8 tyX8_ok nmX8 0 rfl rfl 9 (by decide) (List.mem_of_getElem? (i := 5) rfl) rfl rfl (pb_isB_narrow g53) (pb_isB_fits g53) (Nat.le_of_ble_eq_true rfl) rfl dX8_token_53 ?_
    refine pb_aload_n (pc := 56) C dX8_token_56 rfl 0 rfl ?_
    refine pb_aload_n (pc := 57) C dX8_token_57 rfl 0 rfl ?_
    refine pb_aload_n (pc := 58) C dX8_token_58 rfl 0 rfl ?_
    refine pb_get (pc := 59) C hnX8_token_X8 0 rfl rfl 7 (by decide) (List.mem_of_getElem? (i := 1) rfl) rfl rfl dX8_token_59 ?_
    obtain ⟨r62, hr62, hf⟩ := pb_bind hf
    refine pb_callV (pc := 62) (n0 := 2) (ws' := (wwX8_token cyB cyI cyJ cyZ cyS a_t a_t_w a_t_isKept a_t_text a_t_refused a_t_numbers a_t_weights c_t_texted c_t_above c_t_below e0_c_t_at e0_c_t_at r50 c_t_isFigures c_t_all c_t_known c_t_truth c_t_x c_t_h c_t_text)) (rest := [.ref a_t]) (st2 := [.int r62, .ref a_t]) C (kcX8_byteAt l dC dI cyB cyI cyJ cyZ cyS a_t a_t_w a_t_isKept a_t_text a_t_refused a_t_numbers a_t_weights c_t_texted c_t_above c_t_below e0_c_t_at e0_c_t_at r50 c_t_isFigures c_t_all c_t_known c_t_truth c_t_x c_t_h c_t_text e0_c_t_at r62 hr62) pb_NW_b (pb_NW_x hX) (cwV 1 C.1.2.2.2.2 gX8_token_X8_byteAt rfl rfl rfl kdV_X8_byteAt ⟨Nat.le_of_ble_eq_true rfl, Nat.le_of_ble_eq_true rfl⟩) 0 rfl rfl [0, 1] [] rfl rfl trivial rfl (by decide +kernel) (adl := [a_t, a_t_text]) rfl rfl rfl rfl rfl (Nat.le_of_ble_eq_true rfl) ⟨Nat.le_refl _, Nat.le_refl _⟩ dX8_token_62 rfl ?_
    refine pb_i2l (pc := 65) C dX8_token_65 ?_
    refine pb_ldc2 (v := 48) (pc := 66) C dX8_token_66 (List.mem_of_getElem? (i := 6) rfl) ?_
    refine pb_ldc2 (v := 57) (pc := 69) C dX8_token_69 (List.mem_of_getElem? (i := 7) rfl) ?_
    obtain ⟨r72, hr72, hf⟩ := pb_bind hf
    refine pb_callS (pc := 72) (n0 := 2) (ws' := (wwX8_token cyB cyI cyJ cyZ cyS a_t a_t_w a_t_isKept a_t_text a_t_refused a_t_numbers a_t_weights c_t_texted c_t_above c_t_below e0_c_t_at e0_c_t_at r50 c_t_isFigures c_t_all c_t_known c_t_truth c_t_x c_t_h c_t_text)) (rest := [.ref a_t]) (st2 := [.int r72, .ref a_t]) C (kcX8_in l dC dI cyB cyI cyJ cyZ cyS (Int32.toInt64 r62) 48 57 r72 hr72) pb_NW_b (pb_NW_x hX) (va_cwS 3 C.1.2.2.2.2 gX8_token_X8_in rfl rfl rfl kdS_X8_in ⟨Nat.le_of_ble_eq_true rfl, Nat.le_of_ble_eq_true rfl⟩) [] [0, 1] rfl rfl ⟨⟨_, rfl, rfl⟩, ⟨⟨_, rfl, rfl⟩, trivial⟩⟩ rfl (by decide +kernel) (adl := []) rfl rfl rfl rfl rfl (Nat.le_of_ble_eq_true rfl) ⟨Nat.le_refl _, Nat.le_refl _⟩ dX8_token_72 rfl ?_
    obtain ⟨g75, hf⟩ := pb_grd hf
    refine pb_put (pc := 75) (ws' := (wwX8_token cyB cyI cyJ cyZ cyS a_t a_t_w a_t_isKept a_t_text a_t_refused a_t_numbers a_t_weights c_t_texted c_t_above c_t_below e0_c_t_at e0_c_t_at r50 r72 c_t_all c_t_known c_t_truth c_t_x c_t_h c_t_text)) C hnX8_token_X8 tyX8 tyX8_ok nmX8 0 rfl rfl 10 (by decide) (List.mem_of_getElem? (i := 8) rfl) rfl rfl (pb_isB_narrow g75) (pb_isB_fits g75) (Nat.le_of_ble_eq_true rfl) rfl dX8_token_75 ?_
    refine pb_aload_n (pc := 78) C dX8_token_78 rfl 0 rfl ?_
    refine pb_dup (pc := 79) C dX8_token_79 rfl ?_
    refine pb_get (pc := 80) C hnX8_token_X8 0 rfl rfl 7 (by decide) (List.mem_of_getElem? (i := 1) rfl) rfl rfl dX8_token_80 ?_
    refine pb_aload_n (pc := 83) C dX8_token_83 rfl 0 rfl ?_
    refine pb_get (pc := 84) C hnX8_token_X8 0 rfl rfl 7 (by decide) (List.mem_of_getElem? (i := 1) rfl) rfl rfl dX8_token_84 ?_
    refine pb_aload_n (pc := 87) C dX8_token_87 rfl 0 rfl ?_
    refine pb_get (pc := 88) C hnX8_token_X8 0 rfl rfl 3 (by decide) (List.mem_of_getElem? (i := 9) rfl) rfl rfl dX8_token_88 ?_
    obtain ⟨y99, hf, hk99⟩ := pb_bind hf
    have J99 : ∀ (j99_s2 : Int32), fX8_token_J99 c_t_texted c_t_text e0_c_t_at r50 r72 j99_s2 = some out → pb_V p l e rmX8_token s m (([.ref a_t] : List Value).toArray) below meth c 1 (dC, dI) vwCl A 0 0 (pb_MQ below (([.ref a_t] : List Value).toArray) s (dC, dI) vwCl (wwX8_token cyB cyI cyJ cyZ cyS a_t a_t_w a_t_isKept a_t_text a_t_refused a_t_numbers a_t_weights c_t_texted c_t_above c_t_below c_t_at c_t_start c_t_isWord c_t_isFigures c_t_all c_t_known c_t_truth c_t_x c_t_h c_t_text) (wwX8_token cyB cyI cyJ cyZ cyS a_t a_t_w a_t_isKept a_t_text a_t_refused a_t_numbers a_t_weights c_t_texted c_t_above c_t_below out.1 out.2.1 out.2.2.1 out.2.2.2 c_t_all c_t_known c_t_truth c_t_x c_t_h c_t_text) none A) (wwX8_token cyB cyI cyJ cyZ cyS a_t a_t_w a_t_isKept a_t_text a_t_refused a_t_numbers a_t_weights c_t_texted c_t_above c_t_below e0_c_t_at e0_c_t_at r50 r72 c_t_all c_t_known c_t_truth c_t_x c_t_h c_t_text) [(0, .ref a_t)] [.int j99_s2, .int e0_c_t_at, .ref a_t] 99 := by
      intro j99_s2 hf
      unfold fX8_token_J99 at hf
      refine pb_iadd (pc := 99) C dX8_token_99 ?_
      obtain ⟨x100, ex100, hf⟩ := pb_bind hf
      have ex100 := Option.some.inj ex100
      refine pb_topi ex100 ?_
      refine pb_put (pc := 100) (ws' := (wwX8_token cyB cyI cyJ cyZ cyS a_t a_t_w a_t_isKept a_t_text a_t_refused a_t_numbers a_t_weights c_t_texted c_t_above c_t_below x100 e0_c_t_at r50 r72 c_t_all c_t_known c_t_truth c_t_x c_t_h c_t_text)) C hnX8_token_X8 tyX8 tyX8_ok nmX8 0 rfl rfl 7 (by decide) (List.mem_of_getElem? (i := 1) rfl) rfl rfl rfl rfl (Nat.le_of_ble_eq_true rfl) rfl dX8_token_100 ?_
      obtain ⟨z103, hz103, hk103⟩ := pb_bind hf
      have E103 : ∀ (e103_c_t_at : Int32), fX8_token_E103 e0_c_t_at r50 r72 e103_c_t_at = some out → pb_V p l e rmX8_token s m (([.ref a_t] : List Value).toArray) below meth c 1 (dC, dI) vwCl A 0 0 (pb_MQ below (([.ref a_t] : List Value).toArray) s (dC, dI) vwCl (wwX8_token cyB cyI cyJ cyZ cyS a_t a_t_w a_t_isKept a_t_text a_t_refused a_t_numbers a_t_weights c_t_texted c_t_above c_t_below c_t_at c_t_start c_t_isWord c_t_isFigures c_t_all c_t_known c_t_truth c_t_x c_t_h c_t_text) (wwX8_token cyB cyI cyJ cyZ cyS a_t a_t_w a_t_isKept a_t_text a_t_refused a_t_numbers a_t_weights c_t_texted c_t_above c_t_below out.1 out.2.1 out.2.2.1 out.2.2.2 c_t_all c_t_known c_t_truth c_t_x c_t_h c_t_text) none A) (wwX8_token cyB cyI cyJ cyZ cyS a_t a_t_w a_t_isKept a_t_text a_t_refused a_t_numbers a_t_weights c_t_texted c_t_above c_t_below e103_c_t_at e0_c_t_at r50 r72 c_t_all c_t_known c_t_truth c_t_x c_t_h c_t_text) [] [] 172 := by
        intro e103_c_t_at hf
        unfold fX8_token_E103 at hf
        obtain rfl := Option.some.inj hf
        exact pb_vret (pc := 172) C hr hlk hA dX8_token_172
      have L103 : ∀ (n : Nat) (l103_c_t_at : Int32), pb_lp (fun y => fX8_token_L103 c_t_texted c_t_text r50 r72 y) n l103_c_t_at = some z103 → pb_V p l e rmX8_token s m (([.ref a_t] : List Value).toArray) below meth c 1 (dC, dI) vwCl A 0 0 (pb_MQ below (([.ref a_t] : List Value).toArray) s (dC, dI) vwCl (wwX8_token cyB cyI cyJ cyZ cyS a_t a_t_w a_t_isKept a_t_text a_t_refused a_t_numbers a_t_weights c_t_texted c_t_above c_t_below c_t_at c_t_start c_t_isWord c_t_isFigures c_t_all c_t_known c_t_truth c_t_x c_t_h c_t_text) (wwX8_token cyB cyI cyJ cyZ cyS a_t a_t_w a_t_isKept a_t_text a_t_refused a_t_numbers a_t_weights c_t_texted c_t_above c_t_below out.1 out.2.1 out.2.2.1 out.2.2.2 c_t_all c_t_known c_t_truth c_t_x c_t_h c_t_text) none A) (wwX8_token cyB cyI cyJ cyZ cyS a_t a_t_w a_t_isKept a_t_text a_t_refused a_t_numbers a_t_weights c_t_texted c_t_above c_t_below l103_c_t_at e0_c_t_at r50 r72 c_t_all c_t_known c_t_truth c_t_x c_t_h c_t_text) [(0, .ref a_t)] [] 103 := by
        intro n
        induction n with
        | zero => intro l103_c_t_at hf; exact (pb_lp_zero hf).elim
        | succ n ih103 =>
          intro l103_c_t_at hf
          obtain ⟨y103, hf, hl103⟩ := pb_lp_succ hf
          have hf : fX8_token_L103 c_t_texted c_t_text r50 r72 l103_c_t_at = some y103 := hf
          unfold fX8_token_L103 at hf
          refine pb_aload_n (pc := 103) C dX8_token_103 rfl 0 rfl ?_
          refine pb_get (pc := 104) C hnX8_token_X8 0 rfl rfl 9 (by decide) (List.mem_of_getElem? (i := 5) rfl) rfl rfl dX8_token_104 ?_
          obtain ⟨y159, hf, hk159⟩ := pb_bind hf
          have J159 : fX8_token_J159 l103_c_t_at = some y103 → pb_V p l e rmX8_token s m (([.ref a_t] : List Value).toArray) below meth c 1 (dC, dI) vwCl A 0 0 (pb_MQ below (([.ref a_t] : List Value).toArray) s (dC, dI) vwCl (wwX8_token cyB cyI cyJ cyZ cyS a_t a_t_w a_t_isKept a_t_text a_t_refused a_t_numbers a_t_weights c_t_texted c_t_above c_t_below c_t_at c_t_start c_t_isWord c_t_isFigures c_t_all c_t_known c_t_truth c_t_x c_t_h c_t_text) (wwX8_token cyB cyI cyJ cyZ cyS a_t a_t_w a_t_isKept a_t_text a_t_refused a_t_numbers a_t_weights c_t_texted c_t_above c_t_below out.1 out.2.1 out.2.2.1 out.2.2.2 c_t_all c_t_known c_t_truth c_t_x c_t_h c_t_text) none A) (wwX8_token cyB cyI cyJ cyZ cyS a_t a_t_w a_t_isKept a_t_text a_t_refused a_t_numbers a_t_weights c_t_texted c_t_above c_t_below l103_c_t_at e0_c_t_at r50 r72 c_t_all c_t_known c_t_truth c_t_x c_t_h c_t_text) [(0, .ref a_t)] [] 159 := by
            intro hf
            unfold fX8_token_J159 at hf
            refine pb_aload_n (pc := 159) C dX8_token_159 rfl 0 rfl ?_
            refine pb_dup (pc := 160) C dX8_token_160 rfl ?_
            refine pb_get (pc := 161) C hnX8_token_X8 0 rfl rfl 7 (by decide) (List.mem_of_getElem? (i := 1) rfl) rfl rfl dX8_token_161 ?_
            refine pb_iconst (v := 1) (pc := 164) C dX8_token_164 pb_kI_1 ?_
            refine pb_iadd (pc := 165) C dX8_token_165 ?_
            obtain ⟨x166, ex166, hf⟩ := pb_bind hf
            have ex166 := Option.some.inj ex166
            refine pb_topi ex166 ?_
            refine pb_put (pc := 166) (ws' := (wwX8_token cyB cyI cyJ cyZ cyS a_t a_t_w a_t_isKept a_t_text a_t_refused a_t_numbers a_t_weights c_t_texted c_t_above c_t_below x166 e0_c_t_at r50 r72 c_t_all c_t_known c_t_truth c_t_x c_t_h c_t_text)) C hnX8_token_X8 tyX8 tyX8_ok nmX8 0 rfl rfl 7 (by decide) (List.mem_of_getElem? (i := 1) rfl) rfl rfl rfl rfl (Nat.le_of_ble_eq_true rfl) rfl dX8_token_166 ?_
            refine pb_goto (pc := 169) (tgt := 103) C dX8_token_169 (by decide) ?_
            obtain rfl := Option.some.inj hf
            have hl103 := pb_inl hl103
            exact ih103 x166 hl103
          refine pb_if_eq (pc := 107) (tgt := 131) C dX8_token_107 (by decide) (fun hc107 => ?_) (fun hc107 => ?_)
          · have hf := pb_pos hf hc107
            refine pb_aload_n (pc := 131) C dX8_token_131 rfl 0 rfl ?_
            refine pb_get (pc := 132) C hnX8_token_X8 0 rfl rfl 10 (by decide) (List.mem_of_getElem? (i := 8) rfl) rfl rfl dX8_token_132 ?_
            refine pb_if_eq (pc := 135) (tgt := 172) C dX8_token_135 (by decide) (fun hc135 => ?_) (fun hc135 => ?_)
            · have hf := pb_pos hf hc135
              obtain rfl := Option.some.inj hf
              obtain rfl := pb_esc hk159
              obtain rfl := pb_esc hl103
              refine pb_sub [] rfl ?_
              exact E103 l103_c_t_at hk103
            · have hf := pb_neg hf hc135
              refine pb_aload_n (pc := 138) C dX8_token_138 rfl 0 rfl ?_
              refine pb_aload_n (pc := 139) C dX8_token_139 rfl 0 rfl ?_
              refine pb_get (pc := 140) C hnX8_token_X8 0 rfl rfl 7 (by decide) (List.mem_of_getElem? (i := 1) rfl) rfl rfl dX8_token_140 ?_
              obtain ⟨r143, hr143, hf⟩ := pb_bind hf
              refine pb_callV (pc := 143) (n0 := 2) (ws' := (wwX8_token cyB cyI cyJ cyZ cyS a_t a_t_w a_t_isKept a_t_text a_t_refused a_t_numbers a_t_weights c_t_texted c_t_above c_t_below l103_c_t_at e0_c_t_at r50 r72 c_t_all c_t_known c_t_truth c_t_x c_t_h c_t_text)) (rest := []) (st2 := [.int r143]) C (kcX8_byteAt l dC dI cyB cyI cyJ cyZ cyS a_t a_t_w a_t_isKept a_t_text a_t_refused a_t_numbers a_t_weights c_t_texted c_t_above c_t_below l103_c_t_at e0_c_t_at r50 r72 c_t_all c_t_known c_t_truth c_t_x c_t_h c_t_text l103_c_t_at r143 hr143) pb_NW_b (pb_NW_x hX) (cwV 1 C.1.2.2.2.2 gX8_token_X8_byteAt rfl rfl rfl kdV_X8_byteAt ⟨Nat.le_of_ble_eq_true rfl, Nat.le_of_ble_eq_true rfl⟩) 0 rfl rfl [0, 1] [] rfl rfl trivial rfl (by decide +kernel) (adl := [a_t, a_t_text]) rfl rfl rfl rfl rfl (Nat.le_of_ble_eq_true rfl) ⟨Nat.le_refl _, Nat.le_refl _⟩ dX8_token_143 rfl ?_
              refine pb_i2l (pc := 146) C dX8_token_146 ?_
              refine pb_ldc2 (v := 48) (pc := 147) C dX8_token_147 (List.mem_of_getElem? (i := 6) rfl) ?_
              refine pb_ldc2 (v := 57) (pc := 150) C dX8_token_150 (List.mem_of_getElem? (i := 7) rfl) ?_
              obtain ⟨r153, hr153, hf⟩ := pb_bind hf
              refine pb_callS (pc := 153) (n0 := 2) (ws' := (wwX8_token cyB cyI cyJ cyZ cyS a_t a_t_w a_t_isKept a_t_text a_t_refused a_t_numbers a_t_weights c_t_texted c_t_above c_t_below l103_c_t_at e0_c_t_at r50 r72 c_t_all c_t_known c_t_truth c_t_x c_t_h c_t_text)) (rest := []) (st2 := [.int r153]) C (kcX8_in l dC dI cyB cyI cyJ cyZ cyS (Int32.toInt64 r143) 48 57 r153 hr153) pb_NW_b (pb_NW_x hX) (va_cwS 3 C.1.2.2.2.2 gX8_token_X8_in rfl rfl rfl kdS_X8_in ⟨Nat.le_of_ble_eq_true rfl, Nat.le_of_ble_eq_true rfl⟩) [] [0, 1] rfl rfl ⟨⟨_, rfl, rfl⟩, ⟨⟨_, rfl, rfl⟩, trivial⟩⟩ rfl (by decide +kernel) (adl := []) rfl rfl rfl rfl rfl (Nat.le_of_ble_eq_true rfl) ⟨Nat.le_refl _, Nat.le_refl _⟩ dX8_token_153 rfl ?_
              refine pb_if_eq (pc := 156) (tgt := 172) C dX8_token_156 (by decide) (fun hc156 => ?_) (fun hc156 => ?_)
              · have hf := pb_pos hf hc156
                obtain rfl := Option.some.inj hf
                obtain rfl := pb_esc hk159
                obtain rfl := pb_esc hl103
                refine pb_sub [] rfl ?_
                exact E103 l103_c_t_at hk103
              · have hf := pb_neg hf hc156
                obtain rfl := Option.some.inj hf
                have hk159 := pb_inl hk159
                exact J159  hk159
          · have hf := pb_neg hf hc107
            refine pb_aload_n (pc := 110) C dX8_token_110 rfl 0 rfl ?_
            refine pb_aload_n (pc := 111) C dX8_token_111 rfl 0 rfl ?_
            refine pb_get (pc := 112) C hnX8_token_X8 0 rfl rfl 7 (by decide) (List.mem_of_getElem? (i := 1) rfl) rfl rfl dX8_token_112 ?_
            obtain ⟨r115, hr115, hf⟩ := pb_bind hf
            refine pb_callV (pc := 115) (n0 := 2) (ws' := (wwX8_token cyB cyI cyJ cyZ cyS a_t a_t_w a_t_isKept a_t_text a_t_refused a_t_numbers a_t_weights c_t_texted c_t_above c_t_below l103_c_t_at e0_c_t_at r50 r72 c_t_all c_t_known c_t_truth c_t_x c_t_h c_t_text)) (rest := []) (st2 := [.int r115]) C (kcX8_byteAt l dC dI cyB cyI cyJ cyZ cyS a_t a_t_w a_t_isKept a_t_text a_t_refused a_t_numbers a_t_weights c_t_texted c_t_above c_t_below l103_c_t_at e0_c_t_at r50 r72 c_t_all c_t_known c_t_truth c_t_x c_t_h c_t_text l103_c_t_at r115 hr115) pb_NW_b (pb_NW_x hX) (cwV 1 C.1.2.2.2.2 gX8_token_X8_byteAt rfl rfl rfl kdV_X8_byteAt ⟨Nat.le_of_ble_eq_true rfl, Nat.le_of_ble_eq_true rfl⟩) 0 rfl rfl [0, 1] [] rfl rfl trivial rfl (by decide +kernel) (adl := [a_t, a_t_text]) rfl rfl rfl rfl rfl (Nat.le_of_ble_eq_true rfl) ⟨Nat.le_refl _, Nat.le_refl _⟩ dX8_token_115 rfl ?_
            refine pb_i2l (pc := 118) C dX8_token_118 ?_
            refine pb_ldc2 (v := 97) (pc := 119) C dX8_token_119 (List.mem_of_getElem? (i := 3) rfl) ?_
            refine pb_ldc2 (v := 122) (pc := 122) C dX8_token_122 (List.mem_of_getElem? (i := 4) rfl) ?_
            obtain ⟨r125, hr125, hf⟩ := pb_bind hf
            refine pb_callS (pc := 125) (n0 := 2) (ws' := (wwX8_token cyB cyI cyJ cyZ cyS a_t a_t_w a_t_isKept a_t_text a_t_refused a_t_numbers a_t_weights c_t_texted c_t_above c_t_below l103_c_t_at e0_c_t_at r50 r72 c_t_all c_t_known c_t_truth c_t_x c_t_h c_t_text)) (rest := []) (st2 := [.int r125]) C (kcX8_in l dC dI cyB cyI cyJ cyZ cyS (Int32.toInt64 r115) 97 122 r125 hr125) pb_NW_b (pb_NW_x hX) (va_cwS 3 C.1.2.2.2.2 gX8_token_X8_in rfl rfl rfl kdS_X8_in ⟨Nat.le_of_ble_eq_true rfl, Nat.le_of_ble_eq_true rfl⟩) [] [0, 1] rfl rfl ⟨⟨_, rfl, rfl⟩, ⟨⟨_, rfl, rfl⟩, trivial⟩⟩ rfl (by decide +kernel) (adl := []) rfl rfl rfl rfl rfl (Nat.le_of_ble_eq_true rfl) ⟨Nat.le_refl _, Nat.le_refl _⟩ dX8_token_125 rfl ?_
            refine pb_if_ne (pc := 128) (tgt := 159) C dX8_token_128 (by decide) (fun hc128 => ?_) (fun hc128 => ?_)
            · have hf := pb_neg hf hc128
              obtain rfl := Option.some.inj hf
              have hk159 := pb_inl hk159
              exact J159  hk159
            · have hf := pb_pos hf hc128
              refine pb_aload_n (pc := 131) C dX8_token_131 rfl 0 rfl ?_
              refine pb_get (pc := 132) C hnX8_token_X8 0 rfl rfl 10 (by decide) (List.mem_of_getElem? (i := 8) rfl) rfl rfl dX8_token_132 ?_
              refine pb_if_eq (pc := 135) (tgt := 172) C dX8_token_135 (by decide) (fun hc135 => ?_) (fun hc135 => ?_)
              · have hf := pb_pos hf hc135
                obtain rfl := Option.some.inj hf
                obtain rfl := pb_esc hk159
                obtain rfl := pb_esc hl103
                refine pb_sub [] rfl ?_
                exact E103 l103_c_t_at hk103
              · have hf := pb_neg hf hc135
                refine pb_aload_n (pc := 138) C dX8_token_138 rfl 0 rfl ?_
                refine pb_aload_n (pc := 139) C dX8_token_139 rfl 0 rfl ?_
                refine pb_get (pc := 140) C hnX8_token_X8 0 rfl rfl 7 (by decide) (List.mem_of_getElem? (i := 1) rfl) rfl rfl dX8_token_140 ?_
                obtain ⟨r143, hr143, hf⟩ := pb_bind hf
                refine pb_callV (pc := 143) (n0 := 2) (ws' := (wwX8_token cyB cyI cyJ cyZ cyS a_t a_t_w a_t_isKept a_t_text a_t_refused a_t_numbers a_t_weights c_t_texted c_t_above c_t_below l103_c_t_at e0_c_t_at r50 r72 c_t_all c_t_known c_t_truth c_t_x c_t_h c_t_text)) (rest := []) (st2 := [.int r143]) C (kcX8_byteAt l dC dI cyB cyI cyJ cyZ cyS a_t a_t_w a_t_isKept a_t_text a_t_refused a_t_numbers a_t_weights c_t_texted c_t_above c_t_below l103_c_t_at e0_c_t_at r50 r72 c_t_all c_t_known c_t_truth c_t_x c_t_h c_t_text l103_c_t_at r143 hr143) pb_NW_b (pb_NW_x hX) (cwV 1 C.1.2.2.2.2 gX8_token_X8_byteAt rfl rfl rfl kdV_X8_byteAt ⟨Nat.le_of_ble_eq_true rfl, Nat.le_of_ble_eq_true rfl⟩) 0 rfl rfl [0, 1] [] rfl rfl trivial rfl (by decide +kernel) (adl := [a_t, a_t_text]) rfl rfl rfl rfl rfl (Nat.le_of_ble_eq_true rfl) ⟨Nat.le_refl _, Nat.le_refl _⟩ dX8_token_143 rfl ?_
                refine pb_i2l (pc := 146) C dX8_token_146 ?_
                refine pb_ldc2 (v := 48) (pc := 147) C dX8_token_147 (List.mem_of_getElem? (i := 6) rfl) ?_
                refine pb_ldc2 (v := 57) (pc := 150) C dX8_token_150 (List.mem_of_getElem? (i := 7) rfl) ?_
                obtain ⟨r153, hr153, hf⟩ := pb_bind hf
                refine pb_callS (pc := 153) (n0 := 2) (ws' := (wwX8_token cyB cyI cyJ cyZ cyS a_t a_t_w a_t_isKept a_t_text a_t_refused a_t_numbers a_t_weights c_t_texted c_t_above c_t_below l103_c_t_at e0_c_t_at r50 r72 c_t_all c_t_known c_t_truth c_t_x c_t_h c_t_text)) (rest := []) (st2 := [.int r153]) C (kcX8_in l dC dI cyB cyI cyJ cyZ cyS (Int32.toInt64 r143) 48 57 r153 hr153) pb_NW_b (pb_NW_x hX) (va_cwS 3 C.1.2.2.2.2 gX8_token_X8_in rfl rfl rfl kdS_X8_in ⟨Nat.le_of_ble_eq_true rfl, Nat.le_of_ble_eq_true rfl⟩) [] [0, 1] rfl rfl ⟨⟨_, rfl, rfl⟩, ⟨⟨_, rfl, rfl⟩, trivial⟩⟩ rfl (by decide +kernel) (adl := []) rfl rfl rfl rfl rfl (Nat.le_of_ble_eq_true rfl) ⟨Nat.le_refl _, Nat.le_refl _⟩ dX8_token_153 rfl ?_
                refine pb_if_eq (pc := 156) (tgt := 172) C dX8_token_156 (by decide) (fun hc156 => ?_) (fun hc156 => ?_)
                · have hf := pb_pos hf hc156
                  obtain rfl := Option.some.inj hf
                  obtain rfl := pb_esc hk159
                  obtain rfl := pb_esc hl103
                  refine pb_sub [] rfl ?_
                  exact E103 l103_c_t_at hk103
                · have hf := pb_neg hf hc156
                  obtain rfl := Option.some.inj hf
                  have hk159 := pb_inl hk159
                  exact J159  hk159
      exact L103 pb_FU x100 hz103
    refine pb_icmp_ge (pc := 91) (tgt := 98) C dX8_token_91 (by decide) (fun hc91 => ?_) (fun hc91 => ?_)
    · have hf := pb_pos hf hc91
      refine pb_iconst (v := 0) (pc := 98) C dX8_token_98 pb_kI_0 ?_
      obtain rfl := Option.some.inj hf
      exact J99 0 hk99
    · have hf := pb_neg hf hc91
      refine pb_iconst (v := 1) (pc := 94) C dX8_token_94 pb_kI_1 ?_
      refine pb_goto (pc := 95) (tgt := 99) C dX8_token_95 (by decide) ?_
      obtain rfl := Option.some.inj hf
      exact J99 1 hk99
  have L0 : ∀ (n : Nat) (l0_c_t_at : Int32), pb_lp (fun y => fX8_token_L0 c_t_texted c_t_text y) n l0_c_t_at = some z0 → pb_V p l e rmX8_token s m (([.ref a_t] : List Value).toArray) below meth c 1 (dC, dI) vwCl A 0 0 (pb_MQ below (([.ref a_t] : List Value).toArray) s (dC, dI) vwCl (wwX8_token cyB cyI cyJ cyZ cyS a_t a_t_w a_t_isKept a_t_text a_t_refused a_t_numbers a_t_weights c_t_texted c_t_above c_t_below c_t_at c_t_start c_t_isWord c_t_isFigures c_t_all c_t_known c_t_truth c_t_x c_t_h c_t_text) (wwX8_token cyB cyI cyJ cyZ cyS a_t a_t_w a_t_isKept a_t_text a_t_refused a_t_numbers a_t_weights c_t_texted c_t_above c_t_below out.1 out.2.1 out.2.2.1 out.2.2.2 c_t_all c_t_known c_t_truth c_t_x c_t_h c_t_text) none A) (wwX8_token cyB cyI cyJ cyZ cyS a_t a_t_w a_t_isKept a_t_text a_t_refused a_t_numbers a_t_weights c_t_texted c_t_above c_t_below l0_c_t_at c_t_start c_t_isWord c_t_isFigures c_t_all c_t_known c_t_truth c_t_x c_t_h c_t_text) [(0, .ref a_t)] [] 0 := by
    intro n
    induction n with
    | zero => intro l0_c_t_at hf; exact (pb_lp_zero hf).elim
    | succ n ih0 =>
      intro l0_c_t_at hf
      obtain ⟨y0, hf, hl0⟩ := pb_lp_succ hf
      have hf : fX8_token_L0 c_t_texted c_t_text l0_c_t_at = some y0 := hf
      unfold fX8_token_L0 at hf
      refine pb_aload_n (pc := 0) C dX8_token_0 rfl 0 rfl ?_
      refine pb_aload_n (pc := 1) C dX8_token_1 rfl 0 rfl ?_
      refine pb_get (pc := 2) C hnX8_token_X8 0 rfl rfl 7 (by decide) (List.mem_of_getElem? (i := 1) rfl) rfl rfl dX8_token_2 ?_
      obtain ⟨r5, hr5, hf⟩ := pb_bind hf
      refine pb_callV (pc := 5) (n0 := 2) (ws' := (wwX8_token cyB cyI cyJ cyZ cyS a_t a_t_w a_t_isKept a_t_text a_t_refused a_t_numbers a_t_weights c_t_texted c_t_above c_t_below l0_c_t_at c_t_start c_t_isWord c_t_isFigures c_t_all c_t_known c_t_truth c_t_x c_t_h c_t_text)) (rest := []) (st2 := [.int r5]) C (kcX8_byteAt l dC dI cyB cyI cyJ cyZ cyS a_t a_t_w a_t_isKept a_t_text a_t_refused a_t_numbers a_t_weights c_t_texted c_t_above c_t_below l0_c_t_at c_t_start c_t_isWord c_t_isFigures c_t_all c_t_known c_t_truth c_t_x c_t_h c_t_text l0_c_t_at r5 hr5) pb_NW_b (pb_NW_x hX) (cwV 1 C.1.2.2.2.2 gX8_token_X8_byteAt rfl rfl rfl kdV_X8_byteAt ⟨Nat.le_of_ble_eq_true rfl, Nat.le_of_ble_eq_true rfl⟩) 0 rfl rfl [0, 1] [] rfl rfl trivial rfl (by decide +kernel) (adl := [a_t, a_t_text]) rfl rfl rfl rfl rfl (Nat.le_of_ble_eq_true rfl) ⟨Nat.le_refl _, Nat.le_refl _⟩ dX8_token_5 rfl ?_
      refine pb_bipush (v := 32) (pc := 8) C dX8_token_8 pb_kB_32 ?_
      refine pb_icmp_ne (pc := 10) (tgt := 26) C dX8_token_10 (by decide) (fun hc10 => ?_) (fun hc10 => ?_)
      · have hf := pb_neg hf hc10
        obtain rfl := Option.some.inj hf
        obtain rfl := pb_esc hl0
        exact E0 l0_c_t_at hk0
      · have hf := pb_pos hf hc10
        refine pb_aload_n (pc := 13) C dX8_token_13 rfl 0 rfl ?_
        refine pb_dup (pc := 14) C dX8_token_14 rfl ?_
        refine pb_get (pc := 15) C hnX8_token_X8 0 rfl rfl 7 (by decide) (List.mem_of_getElem? (i := 1) rfl) rfl rfl dX8_token_15 ?_
        refine pb_iconst (v := 1) (pc := 18) C dX8_token_18 pb_kI_1 ?_
        refine pb_iadd (pc := 19) C dX8_token_19 ?_
        obtain ⟨x20, ex20, hf⟩ := pb_bind hf
        have ex20 := Option.some.inj ex20
        refine pb_topi ex20 ?_
        refine pb_put (pc := 20) (ws' := (wwX8_token cyB cyI cyJ cyZ cyS a_t a_t_w a_t_isKept a_t_text a_t_refused a_t_numbers a_t_weights c_t_texted c_t_above c_t_below x20 c_t_start c_t_isWord c_t_isFigures c_t_all c_t_known c_t_truth c_t_x c_t_h c_t_text)) C hnX8_token_X8 tyX8 tyX8_ok nmX8 0 rfl rfl 7 (by decide) (List.mem_of_getElem? (i := 1) rfl) rfl rfl rfl rfl (Nat.le_of_ble_eq_true rfl) rfl dX8_token_20 ?_
        refine pb_goto (pc := 23) (tgt := 0) C dX8_token_23 (by decide) ?_
        obtain rfl := Option.some.inj hf
        have hl0 := pb_inl hl0
        exact ih0 x20 hl0
  exact L0 pb_FU c_t_at hz0
def rmX8_isNamed : Room := { frames := 1, cells := 0, slots := 0, locals := 21 }
def wwX8_isNamed (cyB cyI cyJ cyZ cyS : ClassId) (a_t a_t_w a_t_isKept a_t_text a_t_refused a_t_numbers a_t_weights : Nat) (c_t_texted : Int32) (c_t_above : Int64) (c_t_below : Int64) (c_t_at : Int32) (c_t_start : Int32) (c_t_isWord : Int32) (c_t_isFigures : Int32) (c_t_all : Int64) (c_t_known : Int32) (c_t_truth : Int32) (c_t_x : Int64) (c_t_h : Int64) (c_t_text : (Nat → Int32)) : va_W := [(a_t, .inr (8, [.ref a_t_w, .ref a_t_isKept, .ref a_t_text, .int c_t_texted, .ref a_t_refused, .long c_t_above, .long c_t_below, .int c_t_at, .int c_t_start, .int c_t_isWord, .int c_t_isFigures, .ref a_t_numbers, .ref a_t_weights, .long c_t_all, .int c_t_known, .int c_t_truth, .long c_t_x, .long c_t_h])), (a_t_text, .inl (cyI, 150, .inl c_t_text))]
theorem hnX8_isNamed_X8 : ∀ w ∈ wsX80, w ∈ wsX8_isNamed := fun _ h => List.mem_cons_of_mem _ (List.mem_append_right _ h)
set_option maxHeartbeats 4000000 in
set_option maxRecDepth 100000 in
theorem kcX8_isNamed (l : Launch) (dC : Nat → ClassId) (dI : Nat → Nat → Nat) (cyB cyI cyJ cyZ cyS : ClassId) (a_t a_t_w a_t_isKept a_t_text a_t_refused a_t_numbers a_t_weights : Nat) (c_t_texted : Int32) (c_t_above : Int64) (c_t_below : Int64) (c_t_at : Int32) (c_t_start : Int32) (c_t_isWord : Int32) (c_t_isFigures : Int32) (c_t_all : Int64) (c_t_known : Int32) (c_t_truth : Int32) (c_t_x : Int64) (c_t_h : Int64) (c_t_text : (Nat → Int32)) (p1 : Int32) (p2 : Int32) (p3 : Int32) (p4 : Int32) (out : Int32) (hf : fX8_isNamed c_t_texted c_t_at c_t_start c_t_isWord c_t_text p1 p2 p3 p4 = some out) : pb_K l yX8_isNamed wsX8_isNamed rmX8_isNamed (dC, dI) vwCl (pb_tys cyB cyI cyJ cyZ cyS) pb_NW [.ref a_t, .int p1, .int p2, .int p3, .int p4] (wwX8_isNamed cyB cyI cyJ cyZ cyS a_t a_t_w a_t_isKept a_t_text a_t_refused a_t_numbers a_t_weights c_t_texted c_t_above c_t_below c_t_at c_t_start c_t_isWord c_t_isFigures c_t_all c_t_known c_t_truth c_t_x c_t_h c_t_text) (wwX8_isNamed cyB cyI cyJ cyZ cyS a_t a_t_w a_t_isKept a_t_text a_t_refused a_t_numbers a_t_weights c_t_texted c_t_above c_t_below c_t_at c_t_start c_t_isWord c_t_isFigures c_t_all c_t_known c_t_truth c_t_x c_t_h c_t_text) (some (.int out)) := by
  unfold fX8_isNamed at hf
  refine pb_K.ofV (cc := cX8_isNamed) (maxL := 6) (ret := (some .boolean)) (lv0 := [(0, .ref a_t), (1, .int p1), (2, .int p2), (3, .int p3), (4, .int p4)]) (by decide) rfl (Nat.le_of_ble_eq_true rfl) rfl ?_
  intro p e s m below meth c A C hX hr hlk hA
  refine pb_aload_n (pc := 0) C dX8_isNamed_0 rfl 0 rfl ?_
  refine pb_get (pc := 1) C hnX8_isNamed_X8 0 rfl rfl 9 (by decide) (List.mem_of_getElem? (i := 1) rfl) rfl rfl dX8_isNamed_1 ?_
  obtain ⟨y34, hf, hk34⟩ := pb_bind hf
  have J34 : ∀ (j34_s0 : Int32), fX8_isNamed_J34 c_t_texted c_t_start c_t_text p1 p2 p3 p4 j34_s0 = some out → pb_V p l e rmX8_isNamed s m (([.ref a_t, .int p1, .int p2, .int p3, .int p4] : List Value).toArray) below meth c 6 (dC, dI) vwCl A 0 0 (pb_MQ below (([.ref a_t, .int p1, .int p2, .int p3, .int p4] : List Value).toArray) s (dC, dI) vwCl (wwX8_isNamed cyB cyI cyJ cyZ cyS a_t a_t_w a_t_isKept a_t_text a_t_refused a_t_numbers a_t_weights c_t_texted c_t_above c_t_below c_t_at c_t_start c_t_isWord c_t_isFigures c_t_all c_t_known c_t_truth c_t_x c_t_h c_t_text) (wwX8_isNamed cyB cyI cyJ cyZ cyS a_t a_t_w a_t_isKept a_t_text a_t_refused a_t_numbers a_t_weights c_t_texted c_t_above c_t_below c_t_at c_t_start c_t_isWord c_t_isFigures c_t_all c_t_known c_t_truth c_t_x c_t_h c_t_text) (some (.int out)) A) (wwX8_isNamed cyB cyI cyJ cyZ cyS a_t a_t_w a_t_isKept a_t_text a_t_refused a_t_numbers a_t_weights c_t_texted c_t_above c_t_below c_t_at c_t_start c_t_isWord c_t_isFigures c_t_all c_t_known c_t_truth c_t_x c_t_h c_t_text) [(0, .ref a_t), (1, .int p1), (2, .int p2), (3, .int p3), (4, .int p4)] [.int j34_s0] 34 := by
    intro j34_s0 hf
    unfold fX8_isNamed_J34 at hf
    refine pb_istore (lv' := [(5, .int j34_s0), (0, .ref a_t), (1, .int p1), (2, .int p2), (3, .int p3), (4, .int p4)]) (pc := 34) C dX8_isNamed_34 (by decide) rfl ?_
    refine pb_iload (pc := 36) C dX8_isNamed_36 0 rfl ?_
    refine pb_if_eq (pc := 38) (tgt := 105) C dX8_isNamed_38 (by decide) (fun hc38 => ?_) (fun hc38 => ?_)
    · have hf := pb_pos hf hc38
      refine pb_iconst (v := 0) (pc := 105) C dX8_isNamed_105 pb_kI_0 ?_
      obtain rfl := Option.some.inj hf
      exact pb_zret (pc := 106) C hr hlk hA pb_isB0 dX8_isNamed_106
    · have hf := pb_neg hf hc38
      refine pb_aload_n (pc := 41) C dX8_isNamed_41 rfl 1 rfl ?_
      refine pb_aload_n (pc := 42) C dX8_isNamed_42 rfl 1 rfl ?_
      refine pb_get (pc := 43) C hnX8_isNamed_X8 0 rfl rfl 8 (by decide) (List.mem_of_getElem? (i := 3) rfl) rfl rfl dX8_isNamed_43 ?_
      obtain ⟨r46, hr46, hf⟩ := pb_bind hf
      refine pb_callV (pc := 46) (n0 := 2) (ws' := (wwX8_isNamed cyB cyI cyJ cyZ cyS a_t a_t_w a_t_isKept a_t_text a_t_refused a_t_numbers a_t_weights c_t_texted c_t_above c_t_below c_t_at c_t_start c_t_isWord c_t_isFigures c_t_all c_t_known c_t_truth c_t_x c_t_h c_t_text)) (rest := []) (st2 := [.int r46]) C (kcX8_byteAt l dC dI cyB cyI cyJ cyZ cyS a_t a_t_w a_t_isKept a_t_text a_t_refused a_t_numbers a_t_weights c_t_texted c_t_above c_t_below c_t_at c_t_start c_t_isWord c_t_isFigures c_t_all c_t_known c_t_truth c_t_x c_t_h c_t_text c_t_start r46 hr46) pb_NW_b (pb_NW_x hX) (cwV 1 C.1.2.2.2.2 gX8_isNamed_X8_byteAt rfl rfl rfl kdV_X8_byteAt ⟨Nat.le_of_ble_eq_true rfl, Nat.le_of_ble_eq_true rfl⟩) 0 rfl rfl [0, 1] [] rfl rfl trivial rfl (by decide +kernel) (adl := [a_t, a_t_text]) rfl rfl rfl rfl rfl (Nat.le_of_ble_eq_true rfl) ⟨Nat.le_refl _, Nat.le_refl _⟩ dX8_isNamed_46 rfl ?_
      refine pb_iload_n (pc := 49) C dX8_isNamed_49 rfl 2 rfl ?_
      refine pb_icmp_ne (pc := 50) (tgt := 105) C dX8_isNamed_50 (by decide) (fun hc50 => ?_) (fun hc50 => ?_)
      · have hf := pb_neg hf hc50
        refine pb_iconst (v := 0) (pc := 105) C dX8_isNamed_105 pb_kI_0 ?_
        obtain rfl := Option.some.inj hf
        exact pb_zret (pc := 106) C hr hlk hA pb_isB0 dX8_isNamed_106
      · have hf := pb_pos hf hc50
        refine pb_aload_n (pc := 53) C dX8_isNamed_53 rfl 1 rfl ?_
        refine pb_aload_n (pc := 54) C dX8_isNamed_54 rfl 1 rfl ?_
        refine pb_get (pc := 55) C hnX8_isNamed_X8 0 rfl rfl 8 (by decide) (List.mem_of_getElem? (i := 3) rfl) rfl rfl dX8_isNamed_55 ?_
        refine pb_iconst (v := 1) (pc := 58) C dX8_isNamed_58 pb_kI_1 ?_
        refine pb_iadd (pc := 59) C dX8_isNamed_59 ?_
        obtain ⟨r60, hr60, hf⟩ := pb_bind hf
        refine pb_callV (pc := 60) (n0 := 2) (ws' := (wwX8_isNamed cyB cyI cyJ cyZ cyS a_t a_t_w a_t_isKept a_t_text a_t_refused a_t_numbers a_t_weights c_t_texted c_t_above c_t_below c_t_at c_t_start c_t_isWord c_t_isFigures c_t_all c_t_known c_t_truth c_t_x c_t_h c_t_text)) (rest := []) (st2 := [.int r60]) C (kcX8_byteAt l dC dI cyB cyI cyJ cyZ cyS a_t a_t_w a_t_isKept a_t_text a_t_refused a_t_numbers a_t_weights c_t_texted c_t_above c_t_below c_t_at c_t_start c_t_isWord c_t_isFigures c_t_all c_t_known c_t_truth c_t_x c_t_h c_t_text (c_t_start + 1) r60 hr60) pb_NW_b (pb_NW_x hX) (cwV 1 C.1.2.2.2.2 gX8_isNamed_X8_byteAt rfl rfl rfl kdV_X8_byteAt ⟨Nat.le_of_ble_eq_true rfl, Nat.le_of_ble_eq_true rfl⟩) 0 rfl rfl [0, 1] [] rfl rfl trivial rfl (by decide +kernel) (adl := [a_t, a_t_text]) rfl rfl rfl rfl rfl (Nat.le_of_ble_eq_true rfl) ⟨Nat.le_refl _, Nat.le_refl _⟩ dX8_isNamed_60 rfl ?_
        refine pb_iload_n (pc := 63) C dX8_isNamed_63 rfl 3 rfl ?_
        refine pb_icmp_ne (pc := 64) (tgt := 105) C dX8_isNamed_64 (by decide) (fun hc64 => ?_) (fun hc64 => ?_)
        · have hf := pb_neg hf hc64
          refine pb_iconst (v := 0) (pc := 105) C dX8_isNamed_105 pb_kI_0 ?_
          obtain rfl := Option.some.inj hf
          exact pb_zret (pc := 106) C hr hlk hA pb_isB0 dX8_isNamed_106
        · have hf := pb_pos hf hc64
          refine pb_aload_n (pc := 67) C dX8_isNamed_67 rfl 1 rfl ?_
          refine pb_aload_n (pc := 68) C dX8_isNamed_68 rfl 1 rfl ?_
          refine pb_get (pc := 69) C hnX8_isNamed_X8 0 rfl rfl 8 (by decide) (List.mem_of_getElem? (i := 3) rfl) rfl rfl dX8_isNamed_69 ?_
          refine pb_iconst (v := 2) (pc := 72) C dX8_isNamed_72 pb_kI_2 ?_
          refine pb_iadd (pc := 73) C dX8_isNamed_73 ?_
          obtain ⟨r74, hr74, hf⟩ := pb_bind hf
          refine pb_callV (pc := 74) (n0 := 2) (ws' := (wwX8_isNamed cyB cyI cyJ cyZ cyS a_t a_t_w a_t_isKept a_t_text a_t_refused a_t_numbers a_t_weights c_t_texted c_t_above c_t_below c_t_at c_t_start c_t_isWord c_t_isFigures c_t_all c_t_known c_t_truth c_t_x c_t_h c_t_text)) (rest := []) (st2 := [.int r74]) C (kcX8_byteAt l dC dI cyB cyI cyJ cyZ cyS a_t a_t_w a_t_isKept a_t_text a_t_refused a_t_numbers a_t_weights c_t_texted c_t_above c_t_below c_t_at c_t_start c_t_isWord c_t_isFigures c_t_all c_t_known c_t_truth c_t_x c_t_h c_t_text (c_t_start + 2) r74 hr74) pb_NW_b (pb_NW_x hX) (cwV 1 C.1.2.2.2.2 gX8_isNamed_X8_byteAt rfl rfl rfl kdV_X8_byteAt ⟨Nat.le_of_ble_eq_true rfl, Nat.le_of_ble_eq_true rfl⟩) 0 rfl rfl [0, 1] [] rfl rfl trivial rfl (by decide +kernel) (adl := [a_t, a_t_text]) rfl rfl rfl rfl rfl (Nat.le_of_ble_eq_true rfl) ⟨Nat.le_refl _, Nat.le_refl _⟩ dX8_isNamed_74 rfl ?_
          refine pb_iload_n (pc := 77) C dX8_isNamed_77 rfl 4 rfl ?_
          refine pb_icmp_ne (pc := 78) (tgt := 105) C dX8_isNamed_78 (by decide) (fun hc78 => ?_) (fun hc78 => ?_)
          · have hf := pb_neg hf hc78
            refine pb_iconst (v := 0) (pc := 105) C dX8_isNamed_105 pb_kI_0 ?_
            obtain rfl := Option.some.inj hf
            exact pb_zret (pc := 106) C hr hlk hA pb_isB0 dX8_isNamed_106
          · have hf := pb_pos hf hc78
            refine pb_iload (pc := 81) C dX8_isNamed_81 5 rfl ?_
            refine pb_if_eq (pc := 83) (tgt := 101) C dX8_isNamed_83 (by decide) (fun hc83 => ?_) (fun hc83 => ?_)
            · have hf := pb_pos hf hc83
              refine pb_iconst (v := 1) (pc := 101) C dX8_isNamed_101 pb_kI_1 ?_
              refine pb_goto (pc := 102) (tgt := 106) C dX8_isNamed_102 (by decide) ?_
              obtain rfl := Option.some.inj hf
              exact pb_zret (pc := 106) C hr hlk hA pb_isB1 dX8_isNamed_106
            · have hf := pb_neg hf hc83
              refine pb_aload_n (pc := 86) C dX8_isNamed_86 rfl 1 rfl ?_
              refine pb_aload_n (pc := 87) C dX8_isNamed_87 rfl 1 rfl ?_
              refine pb_get (pc := 88) C hnX8_isNamed_X8 0 rfl rfl 8 (by decide) (List.mem_of_getElem? (i := 3) rfl) rfl rfl dX8_isNamed_88 ?_
              refine pb_iconst (v := 3) (pc := 91) C dX8_isNamed_91 pb_kI_3 ?_
              refine pb_iadd (pc := 92) C dX8_isNamed_92 ?_
              obtain ⟨r93, hr93, hf⟩ := pb_bind hf
              refine pb_callV (pc := 93) (n0 := 2) (ws' := (wwX8_isNamed cyB cyI cyJ cyZ cyS a_t a_t_w a_t_isKept a_t_text a_t_refused a_t_numbers a_t_weights c_t_texted c_t_above c_t_below c_t_at c_t_start c_t_isWord c_t_isFigures c_t_all c_t_known c_t_truth c_t_x c_t_h c_t_text)) (rest := []) (st2 := [.int r93]) C (kcX8_byteAt l dC dI cyB cyI cyJ cyZ cyS a_t a_t_w a_t_isKept a_t_text a_t_refused a_t_numbers a_t_weights c_t_texted c_t_above c_t_below c_t_at c_t_start c_t_isWord c_t_isFigures c_t_all c_t_known c_t_truth c_t_x c_t_h c_t_text (c_t_start + 3) r93 hr93) pb_NW_b (pb_NW_x hX) (cwV 1 C.1.2.2.2.2 gX8_isNamed_X8_byteAt rfl rfl rfl kdV_X8_byteAt ⟨Nat.le_of_ble_eq_true rfl, Nat.le_of_ble_eq_true rfl⟩) 0 rfl rfl [0, 1] [] rfl rfl trivial rfl (by decide +kernel) (adl := [a_t, a_t_text]) rfl rfl rfl rfl rfl (Nat.le_of_ble_eq_true rfl) ⟨Nat.le_refl _, Nat.le_refl _⟩ dX8_isNamed_93 rfl ?_
              refine pb_iload (pc := 96) C dX8_isNamed_96 5 rfl ?_
              refine pb_icmp_ne (pc := 98) (tgt := 105) C dX8_isNamed_98 (by decide) (fun hc98 => ?_) (fun hc98 => ?_)
              · have hf := pb_neg hf hc98
                refine pb_iconst (v := 0) (pc := 105) C dX8_isNamed_105 pb_kI_0 ?_
                obtain rfl := Option.some.inj hf
                exact pb_zret (pc := 106) C hr hlk hA pb_isB0 dX8_isNamed_106
              · have hf := pb_pos hf hc98
                refine pb_iconst (v := 1) (pc := 101) C dX8_isNamed_101 pb_kI_1 ?_
                refine pb_goto (pc := 102) (tgt := 106) C dX8_isNamed_102 (by decide) ?_
                obtain rfl := Option.some.inj hf
                exact pb_zret (pc := 106) C hr hlk hA pb_isB1 dX8_isNamed_106
  refine pb_if_eq (pc := 4) (tgt := 33) C dX8_isNamed_4 (by decide) (fun hc4 => ?_) (fun hc4 => ?_)
  · have hf := pb_pos hf hc4
    refine pb_iconst (v := 0) (pc := 33) C dX8_isNamed_33 pb_kI_0 ?_
    obtain rfl := Option.some.inj hf
    exact J34 0 hk34
  · have hf := pb_neg hf hc4
    refine pb_aload_n (pc := 7) C dX8_isNamed_7 rfl 0 rfl ?_
    refine pb_get (pc := 8) C hnX8_isNamed_X8 0 rfl rfl 7 (by decide) (List.mem_of_getElem? (i := 2) rfl) rfl rfl dX8_isNamed_8 ?_
    refine pb_aload_n (pc := 11) C dX8_isNamed_11 rfl 0 rfl ?_
    refine pb_get (pc := 12) C hnX8_isNamed_X8 0 rfl rfl 8 (by decide) (List.mem_of_getElem? (i := 3) rfl) rfl rfl dX8_isNamed_12 ?_
    refine pb_isub (pc := 15) C dX8_isNamed_15 ?_
    refine pb_iload (pc := 16) C dX8_isNamed_16 4 rfl ?_
    refine pb_if_ne (pc := 18) (tgt := 25) C dX8_isNamed_18 (by decide) (fun hc18 => ?_) (fun hc18 => ?_)
    · have hf := pb_neg hf hc18
      refine pb_iconst (v := 4) (pc := 25) C dX8_isNamed_25 pb_kI_4 ?_
      refine pb_icmp_ne (pc := 26) (tgt := 33) C dX8_isNamed_26 (by decide) (fun hc26 => ?_) (fun hc26 => ?_)
      · have hf := pb_neg hf hc26
        refine pb_iconst (v := 0) (pc := 33) C dX8_isNamed_33 pb_kI_0 ?_
        obtain rfl := Option.some.inj hf
        exact J34 0 hk34
      · have hf := pb_pos hf hc26
        refine pb_iconst (v := 1) (pc := 29) C dX8_isNamed_29 pb_kI_1 ?_
        refine pb_goto (pc := 30) (tgt := 34) C dX8_isNamed_30 (by decide) ?_
        obtain rfl := Option.some.inj hf
        exact J34 1 hk34
    · have hf := pb_pos hf hc18
      refine pb_iconst (v := 3) (pc := 21) C dX8_isNamed_21 pb_kI_3 ?_
      refine pb_goto (pc := 22) (tgt := 26) C dX8_isNamed_22 (by decide) ?_
      refine pb_icmp_ne (pc := 26) (tgt := 33) C dX8_isNamed_26 (by decide) (fun hc26 => ?_) (fun hc26 => ?_)
      · have hf := pb_neg hf hc26
        refine pb_iconst (v := 0) (pc := 33) C dX8_isNamed_33 pb_kI_0 ?_
        obtain rfl := Option.some.inj hf
        exact J34 0 hk34
      · have hf := pb_pos hf hc26
        refine pb_iconst (v := 1) (pc := 29) C dX8_isNamed_29 pb_kI_1 ?_
        refine pb_goto (pc := 30) (tgt := 34) C dX8_isNamed_30 (by decide) ?_
        obtain rfl := Option.some.inj hf
        exact J34 1 hk34
def rmX8_wordNow : Room := { frames := 2, cells := 0, slots := 0, locals := 46 }
def wwX8_wordNow (cyB cyI cyJ cyZ cyS : ClassId) (a_t a_t_w a_t_isKept a_t_text a_t_refused a_t_numbers a_t_weights : Nat) (c_t_texted : Int32) (c_t_above : Int64) (c_t_below : Int64) (c_t_at : Int32) (c_t_start : Int32) (c_t_isWord : Int32) (c_t_isFigures : Int32) (c_t_all : Int64) (c_t_known : Int32) (c_t_truth : Int32) (c_t_x : Int64) (c_t_h : Int64) (c_t_text : (Nat → Int32)) : va_W := [(a_t, .inr (8, [.ref a_t_w, .ref a_t_isKept, .ref a_t_text, .int c_t_texted, .ref a_t_refused, .long c_t_above, .long c_t_below, .int c_t_at, .int c_t_start, .int c_t_isWord, .int c_t_isFigures, .ref a_t_numbers, .ref a_t_weights, .long c_t_all, .int c_t_known, .int c_t_truth, .long c_t_x, .long c_t_h])), (a_t_text, .inl (cyI, 150, .inl c_t_text))]
set_option maxHeartbeats 4000000 in
set_option maxRecDepth 100000 in
theorem kcX8_wordNow (l : Launch) (dC : Nat → ClassId) (dI : Nat → Nat → Nat) (cyB cyI cyJ cyZ cyS : ClassId) (a_t a_t_w a_t_isKept a_t_text a_t_refused a_t_numbers a_t_weights : Nat) (c_t_texted : Int32) (c_t_above : Int64) (c_t_below : Int64) (c_t_at : Int32) (c_t_start : Int32) (c_t_isWord : Int32) (c_t_isFigures : Int32) (c_t_all : Int64) (c_t_known : Int32) (c_t_truth : Int32) (c_t_x : Int64) (c_t_h : Int64) (c_t_text : (Nat → Int32)) (out : Int32) (hf : fX8_wordNow c_t_texted c_t_at c_t_start c_t_isWord c_t_text = some out) : pb_K l yX8_wordNow wsX8_wordNow rmX8_wordNow (dC, dI) vwCl (pb_tys cyB cyI cyJ cyZ cyS) pb_NW [.ref a_t] (wwX8_wordNow cyB cyI cyJ cyZ cyS a_t a_t_w a_t_isKept a_t_text a_t_refused a_t_numbers a_t_weights c_t_texted c_t_above c_t_below c_t_at c_t_start c_t_isWord c_t_isFigures c_t_all c_t_known c_t_truth c_t_x c_t_h c_t_text) (wwX8_wordNow cyB cyI cyJ cyZ cyS a_t a_t_w a_t_isKept a_t_text a_t_refused a_t_numbers a_t_weights c_t_texted c_t_above c_t_below c_t_at c_t_start c_t_isWord c_t_isFigures c_t_all c_t_known c_t_truth c_t_x c_t_h c_t_text) (some (.int out)) := by
  unfold fX8_wordNow at hf
  refine pb_K.ofV (cc := cX8_wordNow) (maxL := 1) (ret := (some .int)) (lv0 := [(0, .ref a_t)]) (by decide) rfl (Nat.le_of_ble_eq_true rfl) rfl ?_
  intro p e s m below meth c A C hX hr hlk hA
  refine pb_aload_n (pc := 0) C dX8_wordNow_0 rfl 0 rfl ?_
  refine pb_bipush (v := 112) (pc := 1) C dX8_wordNow_1 pb_kB_112 ?_
  refine pb_bipush (v := 97) (pc := 3) C dX8_wordNow_3 pb_kB_97 ?_
  refine pb_bipush (v := 115) (pc := 5) C dX8_wordNow_5 pb_kB_115 ?_
  refine pb_bipush (v := 116) (pc := 7) C dX8_wordNow_7 pb_kB_116 ?_
  obtain ⟨r9, hr9, hf⟩ := pb_bind hf
  refine pb_callV (pc := 9) (n0 := 2) (ws' := (wwX8_wordNow cyB cyI cyJ cyZ cyS a_t a_t_w a_t_isKept a_t_text a_t_refused a_t_numbers a_t_weights c_t_texted c_t_above c_t_below c_t_at c_t_start c_t_isWord c_t_isFigures c_t_all c_t_known c_t_truth c_t_x c_t_h c_t_text)) (rest := []) (st2 := [.int r9]) C (kcX8_isNamed l dC dI cyB cyI cyJ cyZ cyS a_t a_t_w a_t_isKept a_t_text a_t_refused a_t_numbers a_t_weights c_t_texted c_t_above c_t_below c_t_at c_t_start c_t_isWord c_t_isFigures c_t_all c_t_known c_t_truth c_t_x c_t_h c_t_text 112 97 115 116 r9 hr9) pb_NW_b (pb_NW_x hX) (cwV 4 C.1.2.2.2.2 gX8_wordNow_X8_isNamed rfl rfl rfl kdV_X8_isNamed ⟨Nat.le_of_ble_eq_true rfl, Nat.le_of_ble_eq_true rfl⟩) 0 rfl rfl [0, 1] [] rfl rfl trivial rfl (by decide +kernel) (adl := [a_t, a_t_text]) rfl rfl rfl rfl rfl (Nat.le_of_ble_eq_true rfl) ⟨Nat.le_refl _, Nat.le_refl _⟩ dX8_wordNow_9 rfl ?_
  refine pb_if_eq (pc := 12) (tgt := 17) C dX8_wordNow_12 (by decide) (fun hc12 => ?_) (fun hc12 => ?_)
  · have hf := pb_pos hf hc12
    refine pb_aload_n (pc := 17) C dX8_wordNow_17 rfl 0 rfl ?_
    refine pb_bipush (v := 114) (pc := 18) C dX8_wordNow_18 pb_kB_114 ?_
    refine pb_bipush (v := 117) (pc := 20) C dX8_wordNow_20 pb_kB_117 ?_
    refine pb_bipush (v := 108) (pc := 22) C dX8_wordNow_22 pb_kB_108 ?_
    refine pb_bipush (v := 101) (pc := 24) C dX8_wordNow_24 pb_kB_101 ?_
    obtain ⟨r26, hr26, hf⟩ := pb_bind hf
    refine pb_callV (pc := 26) (n0 := 2) (ws' := (wwX8_wordNow cyB cyI cyJ cyZ cyS a_t a_t_w a_t_isKept a_t_text a_t_refused a_t_numbers a_t_weights c_t_texted c_t_above c_t_below c_t_at c_t_start c_t_isWord c_t_isFigures c_t_all c_t_known c_t_truth c_t_x c_t_h c_t_text)) (rest := []) (st2 := [.int r26]) C (kcX8_isNamed l dC dI cyB cyI cyJ cyZ cyS a_t a_t_w a_t_isKept a_t_text a_t_refused a_t_numbers a_t_weights c_t_texted c_t_above c_t_below c_t_at c_t_start c_t_isWord c_t_isFigures c_t_all c_t_known c_t_truth c_t_x c_t_h c_t_text 114 117 108 101 r26 hr26) pb_NW_b (pb_NW_x hX) (cwV 4 C.1.2.2.2.2 gX8_wordNow_X8_isNamed rfl rfl rfl kdV_X8_isNamed ⟨Nat.le_of_ble_eq_true rfl, Nat.le_of_ble_eq_true rfl⟩) 0 rfl rfl [0, 1] [] rfl rfl trivial rfl (by decide +kernel) (adl := [a_t, a_t_text]) rfl rfl rfl rfl rfl (Nat.le_of_ble_eq_true rfl) ⟨Nat.le_refl _, Nat.le_refl _⟩ dX8_wordNow_26 rfl ?_
    refine pb_if_eq (pc := 29) (tgt := 34) C dX8_wordNow_29 (by decide) (fun hc29 => ?_) (fun hc29 => ?_)
    · have hf := pb_pos hf hc29
      refine pb_aload_n (pc := 34) C dX8_wordNow_34 rfl 0 rfl ?_
      refine pb_bipush (v := 102) (pc := 35) C dX8_wordNow_35 pb_kB_102 ?_
      refine pb_bipush (v := 105) (pc := 37) C dX8_wordNow_37 pb_kB_105 ?_
      refine pb_bipush (v := 110) (pc := 39) C dX8_wordNow_39 pb_kB_110 ?_
      refine pb_bipush (v := 100) (pc := 41) C dX8_wordNow_41 pb_kB_100 ?_
      obtain ⟨r43, hr43, hf⟩ := pb_bind hf
      refine pb_callV (pc := 43) (n0 := 2) (ws' := (wwX8_wordNow cyB cyI cyJ cyZ cyS a_t a_t_w a_t_isKept a_t_text a_t_refused a_t_numbers a_t_weights c_t_texted c_t_above c_t_below c_t_at c_t_start c_t_isWord c_t_isFigures c_t_all c_t_known c_t_truth c_t_x c_t_h c_t_text)) (rest := []) (st2 := [.int r43]) C (kcX8_isNamed l dC dI cyB cyI cyJ cyZ cyS a_t a_t_w a_t_isKept a_t_text a_t_refused a_t_numbers a_t_weights c_t_texted c_t_above c_t_below c_t_at c_t_start c_t_isWord c_t_isFigures c_t_all c_t_known c_t_truth c_t_x c_t_h c_t_text 102 105 110 100 r43 hr43) pb_NW_b (pb_NW_x hX) (cwV 4 C.1.2.2.2.2 gX8_wordNow_X8_isNamed rfl rfl rfl kdV_X8_isNamed ⟨Nat.le_of_ble_eq_true rfl, Nat.le_of_ble_eq_true rfl⟩) 0 rfl rfl [0, 1] [] rfl rfl trivial rfl (by decide +kernel) (adl := [a_t, a_t_text]) rfl rfl rfl rfl rfl (Nat.le_of_ble_eq_true rfl) ⟨Nat.le_refl _, Nat.le_refl _⟩ dX8_wordNow_43 rfl ?_
      refine pb_if_eq (pc := 46) (tgt := 53) C dX8_wordNow_46 (by decide) (fun hc46 => ?_) (fun hc46 => ?_)
      · have hf := pb_pos hf hc46
        refine pb_aload_n (pc := 53) C dX8_wordNow_53 rfl 0 rfl ?_
        refine pb_bipush (v := 98) (pc := 54) C dX8_wordNow_54 pb_kB_98 ?_
        refine pb_bipush (v := 101) (pc := 56) C dX8_wordNow_56 pb_kB_101 ?_
        refine pb_bipush (v := 116) (pc := 58) C dX8_wordNow_58 pb_kB_116 ?_
        refine pb_iconst (v := 0) (pc := 60) C dX8_wordNow_60 pb_kI_0 ?_
        obtain ⟨r61, hr61, hf⟩ := pb_bind hf
        refine pb_callV (pc := 61) (n0 := 2) (ws' := (wwX8_wordNow cyB cyI cyJ cyZ cyS a_t a_t_w a_t_isKept a_t_text a_t_refused a_t_numbers a_t_weights c_t_texted c_t_above c_t_below c_t_at c_t_start c_t_isWord c_t_isFigures c_t_all c_t_known c_t_truth c_t_x c_t_h c_t_text)) (rest := []) (st2 := [.int r61]) C (kcX8_isNamed l dC dI cyB cyI cyJ cyZ cyS a_t a_t_w a_t_isKept a_t_text a_t_refused a_t_numbers a_t_weights c_t_texted c_t_above c_t_below c_t_at c_t_start c_t_isWord c_t_isFigures c_t_all c_t_known c_t_truth c_t_x c_t_h c_t_text 98 101 116 0 r61 hr61) pb_NW_b (pb_NW_x hX) (cwV 4 C.1.2.2.2.2 gX8_wordNow_X8_isNamed rfl rfl rfl kdV_X8_isNamed ⟨Nat.le_of_ble_eq_true rfl, Nat.le_of_ble_eq_true rfl⟩) 0 rfl rfl [0, 1] [] rfl rfl trivial rfl (by decide +kernel) (adl := [a_t, a_t_text]) rfl rfl rfl rfl rfl (Nat.le_of_ble_eq_true rfl) ⟨Nat.le_refl _, Nat.le_refl _⟩ dX8_wordNow_61 rfl ?_
        refine pb_if_eq (pc := 64) (tgt := 71) C dX8_wordNow_64 (by decide) (fun hc64 => ?_) (fun hc64 => ?_)
        · have hf := pb_pos hf hc64
          refine pb_iconst (v := (-1)) (pc := 71) C dX8_wordNow_71 pb_kI_m1 ?_
          obtain rfl := Option.some.inj hf
          exact pb_iret (pc := 72) C hr hlk hA dX8_wordNow_72
        · have hf := pb_neg hf hc64
          refine pb_iconst (v := 3) (pc := 67) C dX8_wordNow_67 pb_kI_3 ?_
          refine pb_goto (pc := 68) (tgt := 72) C dX8_wordNow_68 (by decide) ?_
          obtain rfl := Option.some.inj hf
          exact pb_iret (pc := 72) C hr hlk hA dX8_wordNow_72
      · have hf := pb_neg hf hc46
        refine pb_iconst (v := 2) (pc := 49) C dX8_wordNow_49 pb_kI_2 ?_
        refine pb_goto (pc := 50) (tgt := 72) C dX8_wordNow_50 (by decide) ?_
        obtain rfl := Option.some.inj hf
        exact pb_iret (pc := 72) C hr hlk hA dX8_wordNow_72
    · have hf := pb_neg hf hc29
      refine pb_iconst (v := 1) (pc := 32) C dX8_wordNow_32 pb_kI_1 ?_
      obtain rfl := Option.some.inj hf
      exact pb_iret (pc := 33) C hr hlk hA dX8_wordNow_33
  · have hf := pb_neg hf hc12
    refine pb_iconst (v := 0) (pc := 15) C dX8_wordNow_15 pb_kI_0 ?_
    obtain rfl := Option.some.inj hf
    exact pb_iret (pc := 16) C hr hlk hA dX8_wordNow_16
def rmX8_takes : Room := { frames := 2, cells := 0, slots := 0, locals := 45 }
def wwX8_takes (cyB cyI cyJ cyZ cyS : ClassId) (a_t a_t_w a_t_isKept a_t_text a_t_refused a_t_numbers a_t_weights : Nat) (c_t_texted : Int32) (c_t_above : Int64) (c_t_below : Int64) (c_t_at : Int32) (c_t_start : Int32) (c_t_isWord : Int32) (c_t_isFigures : Int32) (c_t_all : Int64) (c_t_known : Int32) (c_t_truth : Int32) (c_t_x : Int64) (c_t_h : Int64) (c_t_text : (Nat → Int32)) (c_t_numbers : (Nat → Int32)) : va_W := [(a_t, .inr (8, [.ref a_t_w, .ref a_t_isKept, .ref a_t_text, .int c_t_texted, .ref a_t_refused, .long c_t_above, .long c_t_below, .int c_t_at, .int c_t_start, .int c_t_isWord, .int c_t_isFigures, .ref a_t_numbers, .ref a_t_weights, .long c_t_all, .int c_t_known, .int c_t_truth, .long c_t_x, .long c_t_h])), (a_t_text, .inl (cyI, 150, .inl c_t_text)), (a_t_numbers, .inl (cyI, 5, .inl c_t_numbers))]
theorem hnX8_takes_X8 : ∀ w ∈ wsX80, w ∈ wsX8_takes := fun _ h => List.mem_cons_of_mem _ (List.mem_append_right _ h)
set_option maxHeartbeats 4000000 in
set_option maxRecDepth 100000 in
theorem kcX8_takes (l : Launch) (dC : Nat → ClassId) (dI : Nat → Nat → Nat) (cyB cyI cyJ cyZ cyS : ClassId) (a_t a_t_w a_t_isKept a_t_text a_t_refused a_t_numbers a_t_weights : Nat) (c_t_texted : Int32) (c_t_above : Int64) (c_t_below : Int64) (c_t_at : Int32) (c_t_start : Int32) (c_t_isWord : Int32) (c_t_isFigures : Int32) (c_t_all : Int64) (c_t_known : Int32) (c_t_truth : Int32) (c_t_x : Int64) (c_t_h : Int64) (c_t_text : (Nat → Int32)) (c_t_numbers : (Nat → Int32)) (p1 : Int32) (p2 : Int32) (p3 : Int32) (out : (Int32 × Int32 × Int32 × Int32 × Int32 × (Nat → Int32))) (hf : fX8_takes c_t_texted c_t_at c_t_start c_t_isWord c_t_isFigures c_t_text c_t_numbers p1 p2 p3 = some out) : pb_K l yX8_takes wsX8_takes rmX8_takes (dC, dI) vwCl (pb_tys cyB cyI cyJ cyZ cyS) pb_NW [.ref a_t, .int p1, .int p2, .int p3] (wwX8_takes cyB cyI cyJ cyZ cyS a_t a_t_w a_t_isKept a_t_text a_t_refused a_t_numbers a_t_weights c_t_texted c_t_above c_t_below c_t_at c_t_start c_t_isWord c_t_isFigures c_t_all c_t_known c_t_truth c_t_x c_t_h c_t_text c_t_numbers) (wwX8_takes cyB cyI cyJ cyZ cyS a_t a_t_w a_t_isKept a_t_text a_t_refused a_t_numbers a_t_weights c_t_texted c_t_above c_t_below out.2.1 out.2.2.1 out.2.2.2.1 out.2.2.2.2.1 c_t_all c_t_known c_t_truth c_t_x c_t_h c_t_text out.2.2.2.2.2) (some (.int out.1)) := by
  unfold fX8_takes at hf
  refine pb_K.ofV (cc := cX8_takes) (maxL := 6) (ret := (some .boolean)) (lv0 := [(0, .ref a_t), (1, .int p1), (2, .int p2), (3, .int p3)]) (by decide) rfl (Nat.le_of_ble_eq_true rfl) rfl ?_
  intro p e s m below meth c A C hX hr hlk hA
  refine pb_aload_n (pc := 0) C dX8_takes_0 rfl 0 rfl ?_
  obtain ⟨r1, hr1, hf⟩ := pb_bind hf
  refine pb_callV (pc := 1) (n0 := 3) (ws' := (wwX8_takes cyB cyI cyJ cyZ cyS a_t a_t_w a_t_isKept a_t_text a_t_refused a_t_numbers a_t_weights c_t_texted c_t_above c_t_below r1.1 r1.2.1 r1.2.2.1 r1.2.2.2 c_t_all c_t_known c_t_truth c_t_x c_t_h c_t_text c_t_numbers)) (rest := []) (st2 := []) C (kcX8_token l dC dI cyB cyI cyJ cyZ cyS a_t a_t_w a_t_isKept a_t_text a_t_refused a_t_numbers a_t_weights c_t_texted c_t_above c_t_below c_t_at c_t_start c_t_isWord c_t_isFigures c_t_all c_t_known c_t_truth c_t_x c_t_h c_t_text r1 hr1) pb_NW_b (pb_NW_x hX) (cwV 0 C.1.2.2.2.2 gX8_takes_X8_token rfl rfl rfl kdV_X8_token ⟨Nat.le_of_ble_eq_true rfl, Nat.le_of_ble_eq_true rfl⟩) 0 rfl rfl [0, 1] [2] rfl rfl ⟨⟨_, rfl, rfl⟩, trivial⟩ rfl (by decide +kernel) (adl := [a_t, a_t_text]) rfl rfl rfl rfl rfl (Nat.le_of_ble_eq_true rfl) ⟨Nat.le_refl _, Nat.le_refl _⟩ dX8_takes_1 rfl ?_
  refine pb_aload_n (pc := 4) C dX8_takes_4 rfl 0 rfl ?_
  refine pb_get (pc := 5) C hnX8_takes_X8 0 rfl rfl 10 (by decide) (List.mem_of_getElem? (i := 1) rfl) rfl rfl dX8_takes_5 ?_
  refine pb_if_eq (pc := 8) (tgt := 24) C dX8_takes_8 (by decide) (fun hc8 => ?_) (fun hc8 => ?_)
  · have hf := pb_pos hf hc8
    refine pb_iconst (v := 0) (pc := 24) C dX8_takes_24 pb_kI_0 ?_
    obtain rfl := Option.some.inj hf
    exact pb_zret (pc := 25) C hr hlk hA pb_isB0 dX8_takes_25
  · have hf := pb_neg hf hc8
    refine pb_aload_n (pc := 11) C dX8_takes_11 rfl 0 rfl ?_
    refine pb_get (pc := 12) C hnX8_takes_X8 0 rfl rfl 7 (by decide) (List.mem_of_getElem? (i := 2) rfl) rfl rfl dX8_takes_12 ?_
    refine pb_aload_n (pc := 15) C dX8_takes_15 rfl 0 rfl ?_
    refine pb_get (pc := 16) C hnX8_takes_X8 0 rfl rfl 8 (by decide) (List.mem_of_getElem? (i := 3) rfl) rfl rfl dX8_takes_16 ?_
    refine pb_isub (pc := 19) C dX8_takes_19 ?_
    refine pb_iconst (v := 2) (pc := 20) C dX8_takes_20 pb_kI_2 ?_
    refine pb_icmp_le (pc := 21) (tgt := 26) C dX8_takes_21 (by decide) (fun hc21 => ?_) (fun hc21 => ?_)
    · have hf := pb_pos hf hc21
      refine pb_iconst (v := 0) (pc := 26) C dX8_takes_26 pb_kI_0 ?_
      refine pb_istore (lv' := [(4, .int 0), (0, .ref a_t), (1, .int p1), (2, .int p2), (3, .int p3)]) (pc := 27) C dX8_takes_27 (by decide) rfl ?_
      refine pb_aload_n (pc := 29) C dX8_takes_29 rfl 1 rfl ?_
      refine pb_get (pc := 30) C hnX8_takes_X8 0 rfl rfl 8 (by decide) (List.mem_of_getElem? (i := 3) rfl) rfl rfl dX8_takes_30 ?_
      refine pb_istore (lv' := [(5, .int r1.2.1), (4, .int 0), (0, .ref a_t), (1, .int p1), (2, .int p2), (3, .int p3)]) (pc := 33) C dX8_takes_33 (by decide) rfl ?_
      obtain ⟨z35, hz35, hk35⟩ := pb_bind hf
      have E35 : ∀ (e35_4 : Int32) (e35_5 : Int32), fX8_takes_E35 c_t_numbers p1 p2 p3 r1 e35_4 e35_5 = some out → pb_V p l e rmX8_takes s m (([.ref a_t, .int p1, .int p2, .int p3] : List Value).toArray) below meth c 6 (dC, dI) vwCl A 0 0 (pb_MQ below (([.ref a_t, .int p1, .int p2, .int p3] : List Value).toArray) s (dC, dI) vwCl (wwX8_takes cyB cyI cyJ cyZ cyS a_t a_t_w a_t_isKept a_t_text a_t_refused a_t_numbers a_t_weights c_t_texted c_t_above c_t_below c_t_at c_t_start c_t_isWord c_t_isFigures c_t_all c_t_known c_t_truth c_t_x c_t_h c_t_text c_t_numbers) (wwX8_takes cyB cyI cyJ cyZ cyS a_t a_t_w a_t_isKept a_t_text a_t_refused a_t_numbers a_t_weights c_t_texted c_t_above c_t_below out.2.1 out.2.2.1 out.2.2.2.1 out.2.2.2.2.1 c_t_all c_t_known c_t_truth c_t_x c_t_h c_t_text out.2.2.2.2.2) (some (.int out.1)) A) (wwX8_takes cyB cyI cyJ cyZ cyS a_t a_t_w a_t_isKept a_t_text a_t_refused a_t_numbers a_t_weights c_t_texted c_t_above c_t_below r1.1 r1.2.1 r1.2.2.1 r1.2.2.2 c_t_all c_t_known c_t_truth c_t_x c_t_h c_t_text c_t_numbers) [(0, .ref a_t), (1, .int p1), (2, .int p2), (3, .int p3), (4, .int e35_4)] [] 67 := by
        intro e35_4 e35_5 hf
        unfold fX8_takes_E35 at hf
        refine pb_aload_n (pc := 67) C dX8_takes_67 rfl 0 rfl ?_
        refine pb_get (pc := 68) C hnX8_takes_X8 0 rfl rfl 11 (by decide) (List.mem_of_getElem? (i := 4) rfl) rfl rfl dX8_takes_68 ?_
        refine pb_iload_n (pc := 71) C dX8_takes_71 rfl 1 rfl ?_
        refine pb_iload (pc := 72) C dX8_takes_72 4 rfl ?_
        obtain ⟨g74, hf⟩ := pb_grd hf
        obtain ⟨u74, eu74, hf⟩ := pb_bind hf
        have eu74 := Option.some.inj eu74
        refine pb_iast (pc := 74) (ws' := (wwX8_takes cyB cyI cyJ cyZ cyS a_t a_t_w a_t_isKept a_t_text a_t_refused a_t_numbers a_t_weights c_t_texted c_t_above c_t_below r1.1 r1.2.1 r1.2.2.1 r1.2.2.2 c_t_all c_t_known c_t_truth c_t_x c_t_h c_t_text u74)) C 2 1 rfl rfl g74 eu74 rfl dX8_takes_74 ?_
        refine pb_iload (pc := 75) C dX8_takes_75 4 rfl ?_
        refine pb_i2l (pc := 77) C dX8_takes_77 ?_
        refine pb_iload_n (pc := 78) C dX8_takes_78 rfl 2 rfl ?_
        refine pb_i2l (pc := 79) C dX8_takes_79 ?_
        refine pb_iload_n (pc := 80) C dX8_takes_80 rfl 3 rfl ?_
        refine pb_i2l (pc := 81) C dX8_takes_81 ?_
        obtain ⟨r82, hr82, hf⟩ := pb_bind hf
        refine pb_callS (pc := 82) (n0 := 3) (ws' := (wwX8_takes cyB cyI cyJ cyZ cyS a_t a_t_w a_t_isKept a_t_text a_t_refused a_t_numbers a_t_weights c_t_texted c_t_above c_t_below r1.1 r1.2.1 r1.2.2.1 r1.2.2.2 c_t_all c_t_known c_t_truth c_t_x c_t_h c_t_text u74)) (rest := []) (st2 := [.int r82]) C (kcX8_in l dC dI cyB cyI cyJ cyZ cyS (Int32.toInt64 e35_4) (Int32.toInt64 p2) (Int32.toInt64 p3) r82 hr82) pb_NW_b (pb_NW_x hX) (va_cwS 3 C.1.2.2.2.2 gX8_takes_X8_in rfl rfl rfl kdS_X8_in ⟨Nat.le_of_ble_eq_true rfl, Nat.le_of_ble_eq_true rfl⟩) [] [0, 1, 2] rfl rfl ⟨⟨_, rfl, rfl⟩, ⟨⟨_, rfl, rfl⟩, ⟨⟨_, rfl, rfl⟩, trivial⟩⟩⟩ rfl (by decide +kernel) (adl := []) rfl rfl rfl rfl rfl (Nat.le_of_ble_eq_true rfl) ⟨Nat.le_refl _, Nat.le_refl _⟩ dX8_takes_82 rfl ?_
        obtain ⟨g85, hf⟩ := pb_grd hf
        obtain rfl := Option.some.inj hf
        exact pb_zret (pc := 85) C hr hlk hA g85 dX8_takes_85
      have L35 : ∀ (n : Nat) (l35_4 : Int32) (l35_5 : Int32), pb_lp (fun y => fX8_takes_L35 c_t_texted c_t_text r1 y.1 y.2) n (l35_4, l35_5) = some z35 → pb_V p l e rmX8_takes s m (([.ref a_t, .int p1, .int p2, .int p3] : List Value).toArray) below meth c 6 (dC, dI) vwCl A 0 0 (pb_MQ below (([.ref a_t, .int p1, .int p2, .int p3] : List Value).toArray) s (dC, dI) vwCl (wwX8_takes cyB cyI cyJ cyZ cyS a_t a_t_w a_t_isKept a_t_text a_t_refused a_t_numbers a_t_weights c_t_texted c_t_above c_t_below c_t_at c_t_start c_t_isWord c_t_isFigures c_t_all c_t_known c_t_truth c_t_x c_t_h c_t_text c_t_numbers) (wwX8_takes cyB cyI cyJ cyZ cyS a_t a_t_w a_t_isKept a_t_text a_t_refused a_t_numbers a_t_weights c_t_texted c_t_above c_t_below out.2.1 out.2.2.1 out.2.2.2.1 out.2.2.2.2.1 c_t_all c_t_known c_t_truth c_t_x c_t_h c_t_text out.2.2.2.2.2) (some (.int out.1)) A) (wwX8_takes cyB cyI cyJ cyZ cyS a_t a_t_w a_t_isKept a_t_text a_t_refused a_t_numbers a_t_weights c_t_texted c_t_above c_t_below r1.1 r1.2.1 r1.2.2.1 r1.2.2.2 c_t_all c_t_known c_t_truth c_t_x c_t_h c_t_text c_t_numbers) [(0, .ref a_t), (1, .int p1), (2, .int p2), (3, .int p3), (4, .int l35_4), (5, .int l35_5)] [] 35 := by
        intro n
        induction n with
        | zero => intro l35_4 l35_5 hf; exact (pb_lp_zero hf).elim
        | succ n ih35 =>
          intro l35_4 l35_5 hf
          obtain ⟨y35, hf, hl35⟩ := pb_lp_succ hf
          have hf : fX8_takes_L35 c_t_texted c_t_text r1 l35_4 l35_5 = some y35 := hf
          unfold fX8_takes_L35 at hf
          refine pb_iload (pc := 35) C dX8_takes_35 5 rfl ?_
          refine pb_aload_n (pc := 37) C dX8_takes_37 rfl 0 rfl ?_
          refine pb_get (pc := 38) C hnX8_takes_X8 0 rfl rfl 7 (by decide) (List.mem_of_getElem? (i := 2) rfl) rfl rfl dX8_takes_38 ?_
          refine pb_icmp_ge (pc := 41) (tgt := 67) C dX8_takes_41 (by decide) (fun hc41 => ?_) (fun hc41 => ?_)
          · have hf := pb_pos hf hc41
            obtain rfl := Option.some.inj hf
            obtain rfl := pb_esc hl35
            refine pb_sub [0, 1, 2, 3, 4] rfl ?_
            exact E35 l35_4 l35_5 hk35
          · have hf := pb_neg hf hc41
            refine pb_bipush (v := 10) (pc := 44) C dX8_takes_44 pb_kB_10 ?_
            refine pb_iload (pc := 46) C dX8_takes_46 4 rfl ?_
            refine pb_imul (pc := 48) C dX8_takes_48 ?_
            refine pb_aload_n (pc := 49) C dX8_takes_49 rfl 0 rfl ?_
            refine pb_iload (pc := 50) C dX8_takes_50 5 rfl ?_
            obtain ⟨r52, hr52, hf⟩ := pb_bind hf
            refine pb_callV (pc := 52) (n0 := 3) (ws' := (wwX8_takes cyB cyI cyJ cyZ cyS a_t a_t_w a_t_isKept a_t_text a_t_refused a_t_numbers a_t_weights c_t_texted c_t_above c_t_below r1.1 r1.2.1 r1.2.2.1 r1.2.2.2 c_t_all c_t_known c_t_truth c_t_x c_t_h c_t_text c_t_numbers)) (rest := [.int (10 * l35_4)]) (st2 := [.int r52, .int (10 * l35_4)]) C (kcX8_byteAt l dC dI cyB cyI cyJ cyZ cyS a_t a_t_w a_t_isKept a_t_text a_t_refused a_t_numbers a_t_weights c_t_texted c_t_above c_t_below r1.1 r1.2.1 r1.2.2.1 r1.2.2.2 c_t_all c_t_known c_t_truth c_t_x c_t_h c_t_text l35_5 r52 hr52) pb_NW_b (pb_NW_x hX) (cwV 1 C.1.2.2.2.2 gX8_takes_X8_byteAt rfl rfl rfl kdV_X8_byteAt ⟨Nat.le_of_ble_eq_true rfl, Nat.le_of_ble_eq_true rfl⟩) 0 rfl rfl [0, 1] [2] rfl rfl ⟨⟨_, rfl, rfl⟩, trivial⟩ rfl (by decide +kernel) (adl := [a_t, a_t_text]) rfl rfl rfl rfl rfl (Nat.le_of_ble_eq_true rfl) ⟨Nat.le_refl _, Nat.le_refl _⟩ dX8_takes_52 rfl ?_
            refine pb_iadd (pc := 55) C dX8_takes_55 ?_
            refine pb_bipush (v := 48) (pc := 56) C dX8_takes_56 pb_kB_48 ?_
            refine pb_isub (pc := 58) C dX8_takes_58 ?_
            obtain ⟨x59, ex59, hf⟩ := pb_bind hf
            have ex59 := Option.some.inj ex59
            refine pb_topi ex59 ?_
            refine pb_istore (lv' := [(4, .int x59), (0, .ref a_t), (1, .int p1), (2, .int p2), (3, .int p3), (5, .int l35_5)]) (pc := 59) C dX8_takes_59 (by decide) rfl ?_
            refine pb_iinc (v := l35_5 + 1) (lv' := [(5, .int (l35_5 + 1)), (4, .int x59), (0, .ref a_t), (1, .int p1), (2, .int p2), (3, .int p3)]) (pc := 61) C dX8_takes_61 5 rfl (pb_inc pb_kI_1 rfl) (by decide) rfl ?_
            refine pb_goto (pc := 64) (tgt := 35) C dX8_takes_64 (by decide) ?_
            obtain rfl := Option.some.inj hf
            refine pb_sub [2, 3, 4, 5, 1, 0] rfl ?_
            have hl35 := pb_inl hl35
            exact ih35 x59 (l35_5 + 1) hl35
      refine pb_sub [2, 3, 4, 5, 1, 0] rfl ?_
      exact L35 pb_FU 0 r1.2.1 hz35
    · have hf := pb_neg hf hc21
      refine pb_iconst (v := 0) (pc := 24) C dX8_takes_24 pb_kI_0 ?_
      obtain rfl := Option.some.inj hf
      exact pb_zret (pc := 25) C hr hlk hA pb_isB0 dX8_takes_25
def rmX8_takesRule : Room := { frames := 3, cells := 0, slots := 0, locals := 70 }
def wwX8_takesRule (cyB cyI cyJ cyZ cyS : ClassId) (a_t a_t_w a_t_isKept a_t_text a_t_refused a_t_numbers a_t_weights : Nat) (c_t_texted : Int32) (c_t_above : Int64) (c_t_below : Int64) (c_t_at : Int32) (c_t_start : Int32) (c_t_isWord : Int32) (c_t_isFigures : Int32) (c_t_all : Int64) (c_t_known : Int32) (c_t_truth : Int32) (c_t_x : Int64) (c_t_h : Int64) (c_t_w : (Nat → Int32)) (c_t_text : (Nat → Int32)) (c_t_numbers : (Nat → Int32)) : va_W := [(a_t, .inr (8, [.ref a_t_w, .ref a_t_isKept, .ref a_t_text, .int c_t_texted, .ref a_t_refused, .long c_t_above, .long c_t_below, .int c_t_at, .int c_t_start, .int c_t_isWord, .int c_t_isFigures, .ref a_t_numbers, .ref a_t_weights, .long c_t_all, .int c_t_known, .int c_t_truth, .long c_t_x, .long c_t_h])), (a_t_w, .inl (cyI, 1508, .inl c_t_w)), (a_t_text, .inl (cyI, 150, .inl c_t_text)), (a_t_numbers, .inl (cyI, 5, .inl c_t_numbers))]
theorem hnX8_takesRule_X8 : ∀ w ∈ wsX80, w ∈ wsX8_takesRule := fun _ h => List.mem_cons_of_mem _ (List.mem_append_right _ h)
set_option maxHeartbeats 4000000 in
set_option maxRecDepth 100000 in
theorem kcX8_takesRule (l : Launch) (dC : Nat → ClassId) (dI : Nat → Nat → Nat) (cyB cyI cyJ cyZ cyS : ClassId) (a_t a_t_w a_t_isKept a_t_text a_t_refused a_t_numbers a_t_weights : Nat) (c_t_texted : Int32) (c_t_above : Int64) (c_t_below : Int64) (c_t_at : Int32) (c_t_start : Int32) (c_t_isWord : Int32) (c_t_isFigures : Int32) (c_t_all : Int64) (c_t_known : Int32) (c_t_truth : Int32) (c_t_x : Int64) (c_t_h : Int64) (c_t_w : (Nat → Int32)) (c_t_text : (Nat → Int32)) (c_t_numbers : (Nat → Int32)) (out : (Int32 × Int32 × Int32 × Int32 × Int32 × (Nat → Int32) × (Nat → Int32))) (hf : fX8_takesRule c_t_texted c_t_at c_t_start c_t_isWord c_t_isFigures c_t_w c_t_text c_t_numbers = some out) : pb_K l yX8_takesRule wsX8_takesRule rmX8_takesRule (dC, dI) vwCl (pb_tys cyB cyI cyJ cyZ cyS) pb_NW [.ref a_t] (wwX8_takesRule cyB cyI cyJ cyZ cyS a_t a_t_w a_t_isKept a_t_text a_t_refused a_t_numbers a_t_weights c_t_texted c_t_above c_t_below c_t_at c_t_start c_t_isWord c_t_isFigures c_t_all c_t_known c_t_truth c_t_x c_t_h c_t_w c_t_text c_t_numbers) (wwX8_takesRule cyB cyI cyJ cyZ cyS a_t a_t_w a_t_isKept a_t_text a_t_refused a_t_numbers a_t_weights c_t_texted c_t_above c_t_below out.2.1 out.2.2.1 out.2.2.2.1 out.2.2.2.2.1 c_t_all c_t_known c_t_truth c_t_x c_t_h out.2.2.2.2.2.1 c_t_text out.2.2.2.2.2.2) (some (.int out.1)) := by
  unfold fX8_takesRule at hf
  refine pb_K.ofV (cc := cX8_takesRule) (maxL := 1) (ret := (some .boolean)) (lv0 := [(0, .ref a_t)]) (by decide) rfl (Nat.le_of_ble_eq_true rfl) rfl ?_
  intro p e s m below meth c A C hX hr hlk hA
  refine pb_aload_n (pc := 0) C dX8_takesRule_0 rfl 0 rfl ?_
  refine pb_get (pc := 1) C hnX8_takesRule_X8 0 rfl rfl 0 (by decide) (List.mem_of_getElem? (i := 1) rfl) rfl rfl dX8_takesRule_1 ?_
  refine pb_sipush (v := 1131) (pc := 4) C dX8_takesRule_4 pb_kS_1131 ?_
  refine pb_iald (pc := 7) C 1 1 rfl rfl pb_ok_1131_1508 dX8_takesRule_7 ?_
  refine pb_topi (congrArg c_t_w pb_kN_1131) ?_
  refine pb_bipush (v := 8) (pc := 8) C dX8_takesRule_8 pb_kB_8 ?_
  refine pb_icmp_eq (pc := 10) (tgt := 45) C dX8_takesRule_10 (by decide) (fun hc10 => ?_) (fun hc10 => ?_)
  · have hf := pb_pos hf hc10
    refine pb_iconst (v := 0) (pc := 45) C dX8_takesRule_45 pb_kI_0 ?_
    obtain rfl := Option.some.inj hf
    exact pb_zret (pc := 46) C hr hlk hA pb_isB0 dX8_takesRule_46
  · have hf := pb_neg hf hc10
    refine pb_aload_n (pc := 13) C dX8_takesRule_13 rfl 0 rfl ?_
    refine pb_iconst (v := 0) (pc := 14) C dX8_takesRule_14 pb_kI_0 ?_
    refine pb_iconst (v := 0) (pc := 15) C dX8_takesRule_15 pb_kI_0 ?_
    refine pb_iconst (v := 3) (pc := 16) C dX8_takesRule_16 pb_kI_3 ?_
    obtain ⟨r17, hr17, hf⟩ := pb_bind hf
    refine pb_callV (pc := 17) (n0 := 4) (ws' := (wwX8_takesRule cyB cyI cyJ cyZ cyS a_t a_t_w a_t_isKept a_t_text a_t_refused a_t_numbers a_t_weights c_t_texted c_t_above c_t_below r17.2.1 r17.2.2.1 r17.2.2.2.1 r17.2.2.2.2.1 c_t_all c_t_known c_t_truth c_t_x c_t_h c_t_w c_t_text r17.2.2.2.2.2)) (rest := []) (st2 := [.int r17.1]) C (kcX8_takes l dC dI cyB cyI cyJ cyZ cyS a_t a_t_w a_t_isKept a_t_text a_t_refused a_t_numbers a_t_weights c_t_texted c_t_above c_t_below c_t_at c_t_start c_t_isWord c_t_isFigures c_t_all c_t_known c_t_truth c_t_x c_t_h c_t_text c_t_numbers 0 0 3 r17 hr17) pb_NW_b (pb_NW_x hX) (cwV 3 C.1.2.2.2.2 gX8_takesRule_X8_takes rfl rfl rfl kdV_X8_takes ⟨Nat.le_of_ble_eq_true rfl, Nat.le_of_ble_eq_true rfl⟩) 0 rfl rfl [0, 2, 3] [1] rfl rfl ⟨⟨_, rfl, rfl⟩, trivial⟩ rfl (by decide +kernel) (adl := [a_t, a_t_text, a_t_numbers]) rfl rfl rfl rfl rfl (Nat.le_of_ble_eq_true rfl) ⟨Nat.le_refl _, Nat.le_refl _⟩ dX8_takesRule_17 rfl ?_
    refine pb_if_eq (pc := 20) (tgt := 45) C dX8_takesRule_20 (by decide) (fun hc20 => ?_) (fun hc20 => ?_)
    · have hf := pb_pos hf hc20
      refine pb_iconst (v := 0) (pc := 45) C dX8_takesRule_45 pb_kI_0 ?_
      obtain rfl := Option.some.inj hf
      exact pb_zret (pc := 46) C hr hlk hA pb_isB0 dX8_takesRule_46
    · have hf := pb_neg hf hc20
      refine pb_aload_n (pc := 23) C dX8_takesRule_23 rfl 0 rfl ?_
      refine pb_iconst (v := 1) (pc := 24) C dX8_takesRule_24 pb_kI_1 ?_
      refine pb_iconst (v := 0) (pc := 25) C dX8_takesRule_25 pb_kI_0 ?_
      refine pb_bipush (v := 6) (pc := 26) C dX8_takesRule_26 pb_kB_6 ?_
      obtain ⟨r28, hr28, hf⟩ := pb_bind hf
      refine pb_callV (pc := 28) (n0 := 4) (ws' := (wwX8_takesRule cyB cyI cyJ cyZ cyS a_t a_t_w a_t_isKept a_t_text a_t_refused a_t_numbers a_t_weights c_t_texted c_t_above c_t_below r28.2.1 r28.2.2.1 r28.2.2.2.1 r28.2.2.2.2.1 c_t_all c_t_known c_t_truth c_t_x c_t_h c_t_w c_t_text r28.2.2.2.2.2)) (rest := []) (st2 := [.int r28.1]) C (kcX8_takes l dC dI cyB cyI cyJ cyZ cyS a_t a_t_w a_t_isKept a_t_text a_t_refused a_t_numbers a_t_weights c_t_texted c_t_above c_t_below r17.2.1 r17.2.2.1 r17.2.2.2.1 r17.2.2.2.2.1 c_t_all c_t_known c_t_truth c_t_x c_t_h c_t_text r17.2.2.2.2.2 1 0 6 r28 hr28) pb_NW_b (pb_NW_x hX) (cwV 3 C.1.2.2.2.2 gX8_takesRule_X8_takes rfl rfl rfl kdV_X8_takes ⟨Nat.le_of_ble_eq_true rfl, Nat.le_of_ble_eq_true rfl⟩) 0 rfl rfl [0, 2, 3] [1] rfl rfl ⟨⟨_, rfl, rfl⟩, trivial⟩ rfl (by decide +kernel) (adl := [a_t, a_t_text, a_t_numbers]) rfl rfl rfl rfl rfl (Nat.le_of_ble_eq_true rfl) ⟨Nat.le_refl _, Nat.le_refl _⟩ dX8_takesRule_28 rfl ?_
      refine pb_if_eq (pc := 31) (tgt := 45) C dX8_takesRule_31 (by decide) (fun hc31 => ?_) (fun hc31 => ?_)
      · have hf := pb_pos hf hc31
        refine pb_iconst (v := 0) (pc := 45) C dX8_takesRule_45 pb_kI_0 ?_
        obtain rfl := Option.some.inj hf
        exact pb_zret (pc := 46) C hr hlk hA pb_isB0 dX8_takesRule_46
      · have hf := pb_neg hf hc31
        refine pb_aload_n (pc := 34) C dX8_takesRule_34 rfl 0 rfl ?_
        refine pb_iconst (v := 2) (pc := 35) C dX8_takesRule_35 pb_kI_2 ?_
        refine pb_iconst (v := 0) (pc := 36) C dX8_takesRule_36 pb_kI_0 ?_
        refine pb_bipush (v := 6) (pc := 37) C dX8_takesRule_37 pb_kB_6 ?_
        obtain ⟨r39, hr39, hf⟩ := pb_bind hf
        refine pb_callV (pc := 39) (n0 := 4) (ws' := (wwX8_takesRule cyB cyI cyJ cyZ cyS a_t a_t_w a_t_isKept a_t_text a_t_refused a_t_numbers a_t_weights c_t_texted c_t_above c_t_below r39.2.1 r39.2.2.1 r39.2.2.2.1 r39.2.2.2.2.1 c_t_all c_t_known c_t_truth c_t_x c_t_h c_t_w c_t_text r39.2.2.2.2.2)) (rest := []) (st2 := [.int r39.1]) C (kcX8_takes l dC dI cyB cyI cyJ cyZ cyS a_t a_t_w a_t_isKept a_t_text a_t_refused a_t_numbers a_t_weights c_t_texted c_t_above c_t_below r28.2.1 r28.2.2.1 r28.2.2.2.1 r28.2.2.2.2.1 c_t_all c_t_known c_t_truth c_t_x c_t_h c_t_text r28.2.2.2.2.2 2 0 6 r39 hr39) pb_NW_b (pb_NW_x hX) (cwV 3 C.1.2.2.2.2 gX8_takesRule_X8_takes rfl rfl rfl kdV_X8_takes ⟨Nat.le_of_ble_eq_true rfl, Nat.le_of_ble_eq_true rfl⟩) 0 rfl rfl [0, 2, 3] [1] rfl rfl ⟨⟨_, rfl, rfl⟩, trivial⟩ rfl (by decide +kernel) (adl := [a_t, a_t_text, a_t_numbers]) rfl rfl rfl rfl rfl (Nat.le_of_ble_eq_true rfl) ⟨Nat.le_refl _, Nat.le_refl _⟩ dX8_takesRule_39 rfl ?_
        refine pb_if_ne (pc := 42) (tgt := 47) C dX8_takesRule_42 (by decide) (fun hc42 => ?_) (fun hc42 => ?_)
        · have hf := pb_neg hf hc42
          refine pb_aload_n (pc := 47) C dX8_takesRule_47 rfl 0 rfl ?_
          refine pb_sipush (v := 1131) (pc := 48) C dX8_takesRule_48 pb_kS_1131 ?_
          refine pb_iconst (v := 0) (pc := 51) C dX8_takesRule_51 pb_kI_0 ?_
          refine pb_iconst (v := 5) (pc := 52) C dX8_takesRule_52 pb_kI_5 ?_
          refine pb_aload_n (pc := 53) C dX8_takesRule_53 rfl 0 rfl ?_
          refine pb_get (pc := 54) C hnX8_takesRule_X8 0 rfl rfl 11 (by decide) (List.mem_of_getElem? (i := 2) rfl) rfl rfl dX8_takesRule_54 ?_
          refine pb_iconst (v := 0) (pc := 57) C dX8_takesRule_57 pb_kI_0 ?_
          refine pb_iald (pc := 58) C 3 1 rfl rfl pb_ok_0_5 dX8_takesRule_58 ?_
          refine pb_topi (congrArg r39.2.2.2.2.2 pb_kN_0) ?_
          refine pb_aload_n (pc := 59) C dX8_takesRule_59 rfl 0 rfl ?_
          refine pb_get (pc := 60) C hnX8_takesRule_X8 0 rfl rfl 11 (by decide) (List.mem_of_getElem? (i := 2) rfl) rfl rfl dX8_takesRule_60 ?_
          refine pb_iconst (v := 1) (pc := 63) C dX8_takesRule_63 pb_kI_1 ?_
          refine pb_iald (pc := 64) C 3 1 rfl rfl pb_ok_1_5 dX8_takesRule_64 ?_
          refine pb_topi (congrArg r39.2.2.2.2.2 pb_kN_1) ?_
          refine pb_aload_n (pc := 65) C dX8_takesRule_65 rfl 0 rfl ?_
          refine pb_get (pc := 66) C hnX8_takesRule_X8 0 rfl rfl 11 (by decide) (List.mem_of_getElem? (i := 2) rfl) rfl rfl dX8_takesRule_66 ?_
          refine pb_iconst (v := 2) (pc := 69) C dX8_takesRule_69 pb_kI_2 ?_
          refine pb_iald (pc := 70) C 3 1 rfl rfl pb_ok_2_5 dX8_takesRule_70 ?_
          refine pb_topi (congrArg r39.2.2.2.2.2 pb_kN_2) ?_
          obtain ⟨r71, hr71, hf⟩ := pb_bind hf
          refine pb_callV (pc := 71) (n0 := 4) (ws' := (wwX8_takesRule cyB cyI cyJ cyZ cyS a_t a_t_w a_t_isKept a_t_text a_t_refused a_t_numbers a_t_weights c_t_texted c_t_above c_t_below r39.2.1 r39.2.2.1 r39.2.2.2.1 r39.2.2.2.2.1 c_t_all c_t_known c_t_truth c_t_x c_t_h r71.2 c_t_text r39.2.2.2.2.2)) (rest := []) (st2 := [.int r71.1]) C (kcX8_adds l dC dI cyB cyI cyJ cyZ cyS a_t a_t_w a_t_isKept a_t_text a_t_refused a_t_numbers a_t_weights c_t_texted c_t_above c_t_below r39.2.1 r39.2.2.1 r39.2.2.2.1 r39.2.2.2.2.1 c_t_all c_t_known c_t_truth c_t_x c_t_h c_t_w 1131 0 5 (r39.2.2.2.2.2 0) (r39.2.2.2.2.2 1) (r39.2.2.2.2.2 2) r71 hr71) pb_NW_b (pb_NW_x hX) (cwV 6 C.1.2.2.2.2 gX8_takesRule_X8_adds rfl rfl rfl kdV_X8_adds ⟨Nat.le_of_ble_eq_true rfl, Nat.le_of_ble_eq_true rfl⟩) 0 rfl rfl [0, 1] [2, 3] rfl rfl ⟨⟨_, rfl, rfl⟩, ⟨⟨_, rfl, rfl⟩, trivial⟩⟩ rfl (by decide +kernel) (adl := [a_t, a_t_w]) rfl rfl rfl rfl rfl (Nat.le_of_ble_eq_true rfl) ⟨Nat.le_refl _, Nat.le_refl _⟩ dX8_takesRule_71 rfl ?_
          refine pb_if_lt (pc := 74) (tgt := 81) C dX8_takesRule_74 (by decide) (fun hc74 => ?_) (fun hc74 => ?_)
          · have hf := pb_pos hf hc74
            refine pb_iconst (v := 0) (pc := 81) C dX8_takesRule_81 pb_kI_0 ?_
            obtain rfl := Option.some.inj hf
            exact pb_zret (pc := 82) C hr hlk hA pb_isB0 dX8_takesRule_82
          · have hf := pb_neg hf hc74
            refine pb_iconst (v := 1) (pc := 77) C dX8_takesRule_77 pb_kI_1 ?_
            refine pb_goto (pc := 78) (tgt := 82) C dX8_takesRule_78 (by decide) ?_
            obtain rfl := Option.some.inj hf
            exact pb_zret (pc := 82) C hr hlk hA pb_isB1 dX8_takesRule_82
        · have hf := pb_pos hf hc42
          refine pb_iconst (v := 0) (pc := 45) C dX8_takesRule_45 pb_kI_0 ?_
          obtain rfl := Option.some.inj hf
          exact pb_zret (pc := 46) C hr hlk hA pb_isB0 dX8_takesRule_46
def rmX8_takesFind : Room := { frames := 3, cells := 0, slots := 0, locals := 70 }
def wwX8_takesFind (cyB cyI cyJ cyZ cyS : ClassId) (a_t a_t_w a_t_isKept a_t_text a_t_refused a_t_numbers a_t_weights : Nat) (c_t_texted : Int32) (c_t_above : Int64) (c_t_below : Int64) (c_t_at : Int32) (c_t_start : Int32) (c_t_isWord : Int32) (c_t_isFigures : Int32) (c_t_all : Int64) (c_t_known : Int32) (c_t_truth : Int32) (c_t_x : Int64) (c_t_h : Int64) (c_t_w : (Nat → Int32)) (c_t_text : (Nat → Int32)) (c_t_numbers : (Nat → Int32)) : va_W := [(a_t, .inr (8, [.ref a_t_w, .ref a_t_isKept, .ref a_t_text, .int c_t_texted, .ref a_t_refused, .long c_t_above, .long c_t_below, .int c_t_at, .int c_t_start, .int c_t_isWord, .int c_t_isFigures, .ref a_t_numbers, .ref a_t_weights, .long c_t_all, .int c_t_known, .int c_t_truth, .long c_t_x, .long c_t_h])), (a_t_w, .inl (cyI, 1508, .inl c_t_w)), (a_t_text, .inl (cyI, 150, .inl c_t_text)), (a_t_numbers, .inl (cyI, 5, .inl c_t_numbers))]
theorem hnX8_takesFind_X8 : ∀ w ∈ wsX80, w ∈ wsX8_takesFind := fun _ h => List.mem_cons_of_mem _ (List.mem_append_right _ h)
set_option maxHeartbeats 4000000 in
set_option maxRecDepth 100000 in
theorem kcX8_takesFind (l : Launch) (dC : Nat → ClassId) (dI : Nat → Nat → Nat) (cyB cyI cyJ cyZ cyS : ClassId) (a_t a_t_w a_t_isKept a_t_text a_t_refused a_t_numbers a_t_weights : Nat) (c_t_texted : Int32) (c_t_above : Int64) (c_t_below : Int64) (c_t_at : Int32) (c_t_start : Int32) (c_t_isWord : Int32) (c_t_isFigures : Int32) (c_t_all : Int64) (c_t_known : Int32) (c_t_truth : Int32) (c_t_x : Int64) (c_t_h : Int64) (c_t_w : (Nat → Int32)) (c_t_text : (Nat → Int32)) (c_t_numbers : (Nat → Int32)) (out : (Int32 × Int32 × Int32 × Int32 × Int32 × (Nat → Int32) × (Nat → Int32))) (hf : fX8_takesFind c_t_texted c_t_at c_t_start c_t_isWord c_t_isFigures c_t_w c_t_text c_t_numbers = some out) : pb_K l yX8_takesFind wsX8_takesFind rmX8_takesFind (dC, dI) vwCl (pb_tys cyB cyI cyJ cyZ cyS) pb_NW [.ref a_t] (wwX8_takesFind cyB cyI cyJ cyZ cyS a_t a_t_w a_t_isKept a_t_text a_t_refused a_t_numbers a_t_weights c_t_texted c_t_above c_t_below c_t_at c_t_start c_t_isWord c_t_isFigures c_t_all c_t_known c_t_truth c_t_x c_t_h c_t_w c_t_text c_t_numbers) (wwX8_takesFind cyB cyI cyJ cyZ cyS a_t a_t_w a_t_isKept a_t_text a_t_refused a_t_numbers a_t_weights c_t_texted c_t_above c_t_below out.2.1 out.2.2.1 out.2.2.2.1 out.2.2.2.2.1 c_t_all c_t_known c_t_truth c_t_x c_t_h out.2.2.2.2.2.1 c_t_text out.2.2.2.2.2.2) (some (.int out.1)) := by
  unfold fX8_takesFind at hf
  refine pb_K.ofV (cc := cX8_takesFind) (maxL := 1) (ret := (some .boolean)) (lv0 := [(0, .ref a_t)]) (by decide) rfl (Nat.le_of_ble_eq_true rfl) rfl ?_
  intro p e s m below meth c A C hX hr hlk hA
  refine pb_aload_n (pc := 0) C dX8_takesFind_0 rfl 0 rfl ?_
  refine pb_get (pc := 1) C hnX8_takesFind_X8 0 rfl rfl 0 (by decide) (List.mem_of_getElem? (i := 1) rfl) rfl rfl dX8_takesFind_1 ?_
  refine pb_sipush (v := 1132) (pc := 4) C dX8_takesFind_4 pb_kS_1132 ?_
  refine pb_iald (pc := 7) C 1 1 rfl rfl pb_ok_1132_1508 dX8_takesFind_7 ?_
  refine pb_topi (congrArg c_t_w pb_kN_1132) ?_
  refine pb_bipush (v := 10) (pc := 8) C dX8_takesFind_8 pb_kB_10 ?_
  refine pb_icmp_eq (pc := 10) (tgt := 45) C dX8_takesFind_10 (by decide) (fun hc10 => ?_) (fun hc10 => ?_)
  · have hf := pb_pos hf hc10
    refine pb_iconst (v := 0) (pc := 45) C dX8_takesFind_45 pb_kI_0 ?_
    obtain rfl := Option.some.inj hf
    exact pb_zret (pc := 46) C hr hlk hA pb_isB0 dX8_takesFind_46
  · have hf := pb_neg hf hc10
    refine pb_aload_n (pc := 13) C dX8_takesFind_13 rfl 0 rfl ?_
    refine pb_iconst (v := 0) (pc := 14) C dX8_takesFind_14 pb_kI_0 ?_
    refine pb_iconst (v := 0) (pc := 15) C dX8_takesFind_15 pb_kI_0 ?_
    refine pb_bipush (v := 6) (pc := 16) C dX8_takesFind_16 pb_kB_6 ?_
    obtain ⟨r18, hr18, hf⟩ := pb_bind hf
    refine pb_callV (pc := 18) (n0 := 4) (ws' := (wwX8_takesFind cyB cyI cyJ cyZ cyS a_t a_t_w a_t_isKept a_t_text a_t_refused a_t_numbers a_t_weights c_t_texted c_t_above c_t_below r18.2.1 r18.2.2.1 r18.2.2.2.1 r18.2.2.2.2.1 c_t_all c_t_known c_t_truth c_t_x c_t_h c_t_w c_t_text r18.2.2.2.2.2)) (rest := []) (st2 := [.int r18.1]) C (kcX8_takes l dC dI cyB cyI cyJ cyZ cyS a_t a_t_w a_t_isKept a_t_text a_t_refused a_t_numbers a_t_weights c_t_texted c_t_above c_t_below c_t_at c_t_start c_t_isWord c_t_isFigures c_t_all c_t_known c_t_truth c_t_x c_t_h c_t_text c_t_numbers 0 0 6 r18 hr18) pb_NW_b (pb_NW_x hX) (cwV 3 C.1.2.2.2.2 gX8_takesFind_X8_takes rfl rfl rfl kdV_X8_takes ⟨Nat.le_of_ble_eq_true rfl, Nat.le_of_ble_eq_true rfl⟩) 0 rfl rfl [0, 2, 3] [1] rfl rfl ⟨⟨_, rfl, rfl⟩, trivial⟩ rfl (by decide +kernel) (adl := [a_t, a_t_text, a_t_numbers]) rfl rfl rfl rfl rfl (Nat.le_of_ble_eq_true rfl) ⟨Nat.le_refl _, Nat.le_refl _⟩ dX8_takesFind_18 rfl ?_
    refine pb_if_eq (pc := 21) (tgt := 45) C dX8_takesFind_21 (by decide) (fun hc21 => ?_) (fun hc21 => ?_)
    · have hf := pb_pos hf hc21
      refine pb_iconst (v := 0) (pc := 45) C dX8_takesFind_45 pb_kI_0 ?_
      obtain rfl := Option.some.inj hf
      exact pb_zret (pc := 46) C hr hlk hA pb_isB0 dX8_takesFind_46
    · have hf := pb_neg hf hc21
      refine pb_aload_n (pc := 24) C dX8_takesFind_24 rfl 0 rfl ?_
      refine pb_iconst (v := 1) (pc := 25) C dX8_takesFind_25 pb_kI_1 ?_
      refine pb_iconst (v := 0) (pc := 26) C dX8_takesFind_26 pb_kI_0 ?_
      refine pb_iconst (v := 1) (pc := 27) C dX8_takesFind_27 pb_kI_1 ?_
      obtain ⟨r28, hr28, hf⟩ := pb_bind hf
      refine pb_callV (pc := 28) (n0 := 4) (ws' := (wwX8_takesFind cyB cyI cyJ cyZ cyS a_t a_t_w a_t_isKept a_t_text a_t_refused a_t_numbers a_t_weights c_t_texted c_t_above c_t_below r28.2.1 r28.2.2.1 r28.2.2.2.1 r28.2.2.2.2.1 c_t_all c_t_known c_t_truth c_t_x c_t_h c_t_w c_t_text r28.2.2.2.2.2)) (rest := []) (st2 := [.int r28.1]) C (kcX8_takes l dC dI cyB cyI cyJ cyZ cyS a_t a_t_w a_t_isKept a_t_text a_t_refused a_t_numbers a_t_weights c_t_texted c_t_above c_t_below r18.2.1 r18.2.2.1 r18.2.2.2.1 r18.2.2.2.2.1 c_t_all c_t_known c_t_truth c_t_x c_t_h c_t_text r18.2.2.2.2.2 1 0 1 r28 hr28) pb_NW_b (pb_NW_x hX) (cwV 3 C.1.2.2.2.2 gX8_takesFind_X8_takes rfl rfl rfl kdV_X8_takes ⟨Nat.le_of_ble_eq_true rfl, Nat.le_of_ble_eq_true rfl⟩) 0 rfl rfl [0, 2, 3] [1] rfl rfl ⟨⟨_, rfl, rfl⟩, trivial⟩ rfl (by decide +kernel) (adl := [a_t, a_t_text, a_t_numbers]) rfl rfl rfl rfl rfl (Nat.le_of_ble_eq_true rfl) ⟨Nat.le_refl _, Nat.le_refl _⟩ dX8_takesFind_28 rfl ?_
      refine pb_if_eq (pc := 31) (tgt := 45) C dX8_takesFind_31 (by decide) (fun hc31 => ?_) (fun hc31 => ?_)
      · have hf := pb_pos hf hc31
        refine pb_iconst (v := 0) (pc := 45) C dX8_takesFind_45 pb_kI_0 ?_
        obtain rfl := Option.some.inj hf
        exact pb_zret (pc := 46) C hr hlk hA pb_isB0 dX8_takesFind_46
      · have hf := pb_neg hf hc31
        refine pb_aload_n (pc := 34) C dX8_takesFind_34 rfl 0 rfl ?_
        refine pb_iconst (v := 2) (pc := 35) C dX8_takesFind_35 pb_kI_2 ?_
        refine pb_iconst (v := 0) (pc := 36) C dX8_takesFind_36 pb_kI_0 ?_
        refine pb_bipush (v := 10) (pc := 37) C dX8_takesFind_37 pb_kB_10 ?_
        obtain ⟨r39, hr39, hf⟩ := pb_bind hf
        refine pb_callV (pc := 39) (n0 := 4) (ws' := (wwX8_takesFind cyB cyI cyJ cyZ cyS a_t a_t_w a_t_isKept a_t_text a_t_refused a_t_numbers a_t_weights c_t_texted c_t_above c_t_below r39.2.1 r39.2.2.1 r39.2.2.2.1 r39.2.2.2.2.1 c_t_all c_t_known c_t_truth c_t_x c_t_h c_t_w c_t_text r39.2.2.2.2.2)) (rest := []) (st2 := [.int r39.1]) C (kcX8_takes l dC dI cyB cyI cyJ cyZ cyS a_t a_t_w a_t_isKept a_t_text a_t_refused a_t_numbers a_t_weights c_t_texted c_t_above c_t_below r28.2.1 r28.2.2.1 r28.2.2.2.1 r28.2.2.2.2.1 c_t_all c_t_known c_t_truth c_t_x c_t_h c_t_text r28.2.2.2.2.2 2 0 10 r39 hr39) pb_NW_b (pb_NW_x hX) (cwV 3 C.1.2.2.2.2 gX8_takesFind_X8_takes rfl rfl rfl kdV_X8_takes ⟨Nat.le_of_ble_eq_true rfl, Nat.le_of_ble_eq_true rfl⟩) 0 rfl rfl [0, 2, 3] [1] rfl rfl ⟨⟨_, rfl, rfl⟩, trivial⟩ rfl (by decide +kernel) (adl := [a_t, a_t_text, a_t_numbers]) rfl rfl rfl rfl rfl (Nat.le_of_ble_eq_true rfl) ⟨Nat.le_refl _, Nat.le_refl _⟩ dX8_takesFind_39 rfl ?_
        refine pb_if_ne (pc := 42) (tgt := 47) C dX8_takesFind_42 (by decide) (fun hc42 => ?_) (fun hc42 => ?_)
        · have hf := pb_neg hf hc42
          refine pb_aload_n (pc := 47) C dX8_takesFind_47 rfl 0 rfl ?_
          refine pb_sipush (v := 1131) (pc := 48) C dX8_takesFind_48 pb_kS_1131 ?_
          refine pb_iconst (v := 1) (pc := 51) C dX8_takesFind_51 pb_kI_1 ?_
          refine pb_bipush (v := 29) (pc := 52) C dX8_takesFind_52 pb_kB_29 ?_
          refine pb_aload_n (pc := 54) C dX8_takesFind_54 rfl 0 rfl ?_
          refine pb_get (pc := 55) C hnX8_takesFind_X8 0 rfl rfl 11 (by decide) (List.mem_of_getElem? (i := 2) rfl) rfl rfl dX8_takesFind_55 ?_
          refine pb_iconst (v := 0) (pc := 58) C dX8_takesFind_58 pb_kI_0 ?_
          refine pb_iald (pc := 59) C 3 1 rfl rfl pb_ok_0_5 dX8_takesFind_59 ?_
          refine pb_topi (congrArg r39.2.2.2.2.2 pb_kN_0) ?_
          refine pb_aload_n (pc := 60) C dX8_takesFind_60 rfl 0 rfl ?_
          refine pb_get (pc := 61) C hnX8_takesFind_X8 0 rfl rfl 11 (by decide) (List.mem_of_getElem? (i := 2) rfl) rfl rfl dX8_takesFind_61 ?_
          refine pb_iconst (v := 1) (pc := 64) C dX8_takesFind_64 pb_kI_1 ?_
          refine pb_iald (pc := 65) C 3 1 rfl rfl pb_ok_1_5 dX8_takesFind_65 ?_
          refine pb_topi (congrArg r39.2.2.2.2.2 pb_kN_1) ?_
          refine pb_aload_n (pc := 66) C dX8_takesFind_66 rfl 0 rfl ?_
          refine pb_get (pc := 67) C hnX8_takesFind_X8 0 rfl rfl 11 (by decide) (List.mem_of_getElem? (i := 2) rfl) rfl rfl dX8_takesFind_67 ?_
          refine pb_iconst (v := 2) (pc := 70) C dX8_takesFind_70 pb_kI_2 ?_
          refine pb_iald (pc := 71) C 3 1 rfl rfl pb_ok_2_5 dX8_takesFind_71 ?_
          refine pb_topi (congrArg r39.2.2.2.2.2 pb_kN_2) ?_
          obtain ⟨r72, hr72, hf⟩ := pb_bind hf
          refine pb_callV (pc := 72) (n0 := 4) (ws' := (wwX8_takesFind cyB cyI cyJ cyZ cyS a_t a_t_w a_t_isKept a_t_text a_t_refused a_t_numbers a_t_weights c_t_texted c_t_above c_t_below r39.2.1 r39.2.2.1 r39.2.2.2.1 r39.2.2.2.2.1 c_t_all c_t_known c_t_truth c_t_x c_t_h r72.2 c_t_text r39.2.2.2.2.2)) (rest := []) (st2 := [.int r72.1]) C (kcX8_adds l dC dI cyB cyI cyJ cyZ cyS a_t a_t_w a_t_isKept a_t_text a_t_refused a_t_numbers a_t_weights c_t_texted c_t_above c_t_below r39.2.1 r39.2.2.1 r39.2.2.2.1 r39.2.2.2.2.1 c_t_all c_t_known c_t_truth c_t_x c_t_h c_t_w 1131 1 29 (r39.2.2.2.2.2 0) (r39.2.2.2.2.2 1) (r39.2.2.2.2.2 2) r72 hr72) pb_NW_b (pb_NW_x hX) (cwV 6 C.1.2.2.2.2 gX8_takesFind_X8_adds rfl rfl rfl kdV_X8_adds ⟨Nat.le_of_ble_eq_true rfl, Nat.le_of_ble_eq_true rfl⟩) 0 rfl rfl [0, 1] [2, 3] rfl rfl ⟨⟨_, rfl, rfl⟩, ⟨⟨_, rfl, rfl⟩, trivial⟩⟩ rfl (by decide +kernel) (adl := [a_t, a_t_w]) rfl rfl rfl rfl rfl (Nat.le_of_ble_eq_true rfl) ⟨Nat.le_refl _, Nat.le_refl _⟩ dX8_takesFind_72 rfl ?_
          refine pb_if_lt (pc := 75) (tgt := 82) C dX8_takesFind_75 (by decide) (fun hc75 => ?_) (fun hc75 => ?_)
          · have hf := pb_pos hf hc75
            refine pb_iconst (v := 0) (pc := 82) C dX8_takesFind_82 pb_kI_0 ?_
            obtain rfl := Option.some.inj hf
            exact pb_zret (pc := 83) C hr hlk hA pb_isB0 dX8_takesFind_83
          · have hf := pb_neg hf hc75
            refine pb_iconst (v := 1) (pc := 78) C dX8_takesFind_78 pb_kI_1 ?_
            refine pb_goto (pc := 79) (tgt := 83) C dX8_takesFind_79 (by decide) ?_
            obtain rfl := Option.some.inj hf
            exact pb_zret (pc := 83) C hr hlk hA pb_isB1 dX8_takesFind_83
        · have hf := pb_pos hf hc42
          refine pb_iconst (v := 0) (pc := 45) C dX8_takesFind_45 pb_kI_0 ?_
          obtain rfl := Option.some.inj hf
          exact pb_zret (pc := 46) C hr hlk hA pb_isB0 dX8_takesFind_46
def rmX8_takesBet : Room := { frames := 3, cells := 0, slots := 0, locals := 70 }
def wwX8_takesBet (cyB cyI cyJ cyZ cyS : ClassId) (a_t a_t_w a_t_isKept a_t_text a_t_refused a_t_numbers a_t_weights : Nat) (c_t_texted : Int32) (c_t_above : Int64) (c_t_below : Int64) (c_t_at : Int32) (c_t_start : Int32) (c_t_isWord : Int32) (c_t_isFigures : Int32) (c_t_all : Int64) (c_t_known : Int32) (c_t_truth : Int32) (c_t_x : Int64) (c_t_h : Int64) (c_t_w : (Nat → Int32)) (c_t_text : (Nat → Int32)) (c_t_numbers : (Nat → Int32)) : va_W := [(a_t, .inr (8, [.ref a_t_w, .ref a_t_isKept, .ref a_t_text, .int c_t_texted, .ref a_t_refused, .long c_t_above, .long c_t_below, .int c_t_at, .int c_t_start, .int c_t_isWord, .int c_t_isFigures, .ref a_t_numbers, .ref a_t_weights, .long c_t_all, .int c_t_known, .int c_t_truth, .long c_t_x, .long c_t_h])), (a_t_w, .inl (cyI, 1508, .inl c_t_w)), (a_t_text, .inl (cyI, 150, .inl c_t_text)), (a_t_numbers, .inl (cyI, 5, .inl c_t_numbers))]
theorem hnX8_takesBet_X8 : ∀ w ∈ wsX80, w ∈ wsX8_takesBet := fun _ h => List.mem_cons_of_mem _ (List.mem_append_right _ h)
set_option maxHeartbeats 4000000 in
set_option maxRecDepth 100000 in
theorem kcX8_takesBet (l : Launch) (dC : Nat → ClassId) (dI : Nat → Nat → Nat) (cyB cyI cyJ cyZ cyS : ClassId) (a_t a_t_w a_t_isKept a_t_text a_t_refused a_t_numbers a_t_weights : Nat) (c_t_texted : Int32) (c_t_above : Int64) (c_t_below : Int64) (c_t_at : Int32) (c_t_start : Int32) (c_t_isWord : Int32) (c_t_isFigures : Int32) (c_t_all : Int64) (c_t_known : Int32) (c_t_truth : Int32) (c_t_x : Int64) (c_t_h : Int64) (c_t_w : (Nat → Int32)) (c_t_text : (Nat → Int32)) (c_t_numbers : (Nat → Int32)) (out : (Int32 × Int32 × Int32 × Int32 × Int32 × (Nat → Int32) × (Nat → Int32))) (hf : fX8_takesBet c_t_texted c_t_at c_t_start c_t_isWord c_t_isFigures c_t_w c_t_text c_t_numbers = some out) : pb_K l yX8_takesBet wsX8_takesBet rmX8_takesBet (dC, dI) vwCl (pb_tys cyB cyI cyJ cyZ cyS) pb_NW [.ref a_t] (wwX8_takesBet cyB cyI cyJ cyZ cyS a_t a_t_w a_t_isKept a_t_text a_t_refused a_t_numbers a_t_weights c_t_texted c_t_above c_t_below c_t_at c_t_start c_t_isWord c_t_isFigures c_t_all c_t_known c_t_truth c_t_x c_t_h c_t_w c_t_text c_t_numbers) (wwX8_takesBet cyB cyI cyJ cyZ cyS a_t a_t_w a_t_isKept a_t_text a_t_refused a_t_numbers a_t_weights c_t_texted c_t_above c_t_below out.2.1 out.2.2.1 out.2.2.2.1 out.2.2.2.2.1 c_t_all c_t_known c_t_truth c_t_x c_t_h out.2.2.2.2.2.1 c_t_text out.2.2.2.2.2.2) (some (.int out.1)) := by
  unfold fX8_takesBet at hf
  refine pb_K.ofV (cc := cX8_takesBet) (maxL := 1) (ret := (some .boolean)) (lv0 := [(0, .ref a_t)]) (by decide) rfl (Nat.le_of_ble_eq_true rfl) rfl ?_
  intro p e s m below meth c A C hX hr hlk hA
  refine pb_aload_n (pc := 0) C dX8_takesBet_0 rfl 0 rfl ?_
  refine pb_get (pc := 1) C hnX8_takesBet_X8 0 rfl rfl 0 (by decide) (List.mem_of_getElem? (i := 1) rfl) rfl rfl dX8_takesBet_1 ?_
  refine pb_sipush (v := 1133) (pc := 4) C dX8_takesBet_4 pb_kS_1133 ?_
  refine pb_iald (pc := 7) C 1 1 rfl rfl pb_ok_1133_1508 dX8_takesBet_7 ?_
  refine pb_topi (congrArg c_t_w pb_kN_1133) ?_
  refine pb_bipush (v := 8) (pc := 8) C dX8_takesBet_8 pb_kB_8 ?_
  refine pb_icmp_eq (pc := 10) (tgt := 67) C dX8_takesBet_10 (by decide) (fun hc10 => ?_) (fun hc10 => ?_)
  · have hf := pb_pos hf hc10
    refine pb_iconst (v := 0) (pc := 67) C dX8_takesBet_67 pb_kI_0 ?_
    obtain rfl := Option.some.inj hf
    exact pb_zret (pc := 68) C hr hlk hA pb_isB0 dX8_takesBet_68
  · have hf := pb_neg hf hc10
    refine pb_aload_n (pc := 13) C dX8_takesBet_13 rfl 0 rfl ?_
    refine pb_iconst (v := 0) (pc := 14) C dX8_takesBet_14 pb_kI_0 ?_
    refine pb_iconst (v := 0) (pc := 15) C dX8_takesBet_15 pb_kI_0 ?_
    refine pb_iconst (v := 5) (pc := 16) C dX8_takesBet_16 pb_kI_5 ?_
    obtain ⟨r17, hr17, hf⟩ := pb_bind hf
    refine pb_callV (pc := 17) (n0 := 4) (ws' := (wwX8_takesBet cyB cyI cyJ cyZ cyS a_t a_t_w a_t_isKept a_t_text a_t_refused a_t_numbers a_t_weights c_t_texted c_t_above c_t_below r17.2.1 r17.2.2.1 r17.2.2.2.1 r17.2.2.2.2.1 c_t_all c_t_known c_t_truth c_t_x c_t_h c_t_w c_t_text r17.2.2.2.2.2)) (rest := []) (st2 := [.int r17.1]) C (kcX8_takes l dC dI cyB cyI cyJ cyZ cyS a_t a_t_w a_t_isKept a_t_text a_t_refused a_t_numbers a_t_weights c_t_texted c_t_above c_t_below c_t_at c_t_start c_t_isWord c_t_isFigures c_t_all c_t_known c_t_truth c_t_x c_t_h c_t_text c_t_numbers 0 0 5 r17 hr17) pb_NW_b (pb_NW_x hX) (cwV 3 C.1.2.2.2.2 gX8_takesBet_X8_takes rfl rfl rfl kdV_X8_takes ⟨Nat.le_of_ble_eq_true rfl, Nat.le_of_ble_eq_true rfl⟩) 0 rfl rfl [0, 2, 3] [1] rfl rfl ⟨⟨_, rfl, rfl⟩, trivial⟩ rfl (by decide +kernel) (adl := [a_t, a_t_text, a_t_numbers]) rfl rfl rfl rfl rfl (Nat.le_of_ble_eq_true rfl) ⟨Nat.le_refl _, Nat.le_refl _⟩ dX8_takesBet_17 rfl ?_
    refine pb_if_eq (pc := 20) (tgt := 67) C dX8_takesBet_20 (by decide) (fun hc20 => ?_) (fun hc20 => ?_)
    · have hf := pb_pos hf hc20
      refine pb_iconst (v := 0) (pc := 67) C dX8_takesBet_67 pb_kI_0 ?_
      obtain rfl := Option.some.inj hf
      exact pb_zret (pc := 68) C hr hlk hA pb_isB0 dX8_takesBet_68
    · have hf := pb_neg hf hc20
      refine pb_aload_n (pc := 23) C dX8_takesBet_23 rfl 0 rfl ?_
      refine pb_iconst (v := 1) (pc := 24) C dX8_takesBet_24 pb_kI_1 ?_
      refine pb_iconst (v := 0) (pc := 25) C dX8_takesBet_25 pb_kI_0 ?_
      refine pb_bipush (v := 6) (pc := 26) C dX8_takesBet_26 pb_kB_6 ?_
      obtain ⟨r28, hr28, hf⟩ := pb_bind hf
      refine pb_callV (pc := 28) (n0 := 4) (ws' := (wwX8_takesBet cyB cyI cyJ cyZ cyS a_t a_t_w a_t_isKept a_t_text a_t_refused a_t_numbers a_t_weights c_t_texted c_t_above c_t_below r28.2.1 r28.2.2.1 r28.2.2.2.1 r28.2.2.2.2.1 c_t_all c_t_known c_t_truth c_t_x c_t_h c_t_w c_t_text r28.2.2.2.2.2)) (rest := []) (st2 := [.int r28.1]) C (kcX8_takes l dC dI cyB cyI cyJ cyZ cyS a_t a_t_w a_t_isKept a_t_text a_t_refused a_t_numbers a_t_weights c_t_texted c_t_above c_t_below r17.2.1 r17.2.2.1 r17.2.2.2.1 r17.2.2.2.2.1 c_t_all c_t_known c_t_truth c_t_x c_t_h c_t_text r17.2.2.2.2.2 1 0 6 r28 hr28) pb_NW_b (pb_NW_x hX) (cwV 3 C.1.2.2.2.2 gX8_takesBet_X8_takes rfl rfl rfl kdV_X8_takes ⟨Nat.le_of_ble_eq_true rfl, Nat.le_of_ble_eq_true rfl⟩) 0 rfl rfl [0, 2, 3] [1] rfl rfl ⟨⟨_, rfl, rfl⟩, trivial⟩ rfl (by decide +kernel) (adl := [a_t, a_t_text, a_t_numbers]) rfl rfl rfl rfl rfl (Nat.le_of_ble_eq_true rfl) ⟨Nat.le_refl _, Nat.le_refl _⟩ dX8_takesBet_28 rfl ?_
      refine pb_if_eq (pc := 31) (tgt := 67) C dX8_takesBet_31 (by decide) (fun hc31 => ?_) (fun hc31 => ?_)
      · have hf := pb_pos hf hc31
        refine pb_iconst (v := 0) (pc := 67) C dX8_takesBet_67 pb_kI_0 ?_
        obtain rfl := Option.some.inj hf
        exact pb_zret (pc := 68) C hr hlk hA pb_isB0 dX8_takesBet_68
      · have hf := pb_neg hf hc31
        refine pb_aload_n (pc := 34) C dX8_takesBet_34 rfl 0 rfl ?_
        refine pb_iconst (v := 2) (pc := 35) C dX8_takesBet_35 pb_kI_2 ?_
        refine pb_iconst (v := 0) (pc := 36) C dX8_takesBet_36 pb_kI_0 ?_
        refine pb_bipush (v := 6) (pc := 37) C dX8_takesBet_37 pb_kB_6 ?_
        obtain ⟨r39, hr39, hf⟩ := pb_bind hf
        refine pb_callV (pc := 39) (n0 := 4) (ws' := (wwX8_takesBet cyB cyI cyJ cyZ cyS a_t a_t_w a_t_isKept a_t_text a_t_refused a_t_numbers a_t_weights c_t_texted c_t_above c_t_below r39.2.1 r39.2.2.1 r39.2.2.2.1 r39.2.2.2.2.1 c_t_all c_t_known c_t_truth c_t_x c_t_h c_t_w c_t_text r39.2.2.2.2.2)) (rest := []) (st2 := [.int r39.1]) C (kcX8_takes l dC dI cyB cyI cyJ cyZ cyS a_t a_t_w a_t_isKept a_t_text a_t_refused a_t_numbers a_t_weights c_t_texted c_t_above c_t_below r28.2.1 r28.2.2.1 r28.2.2.2.1 r28.2.2.2.2.1 c_t_all c_t_known c_t_truth c_t_x c_t_h c_t_text r28.2.2.2.2.2 2 0 6 r39 hr39) pb_NW_b (pb_NW_x hX) (cwV 3 C.1.2.2.2.2 gX8_takesBet_X8_takes rfl rfl rfl kdV_X8_takes ⟨Nat.le_of_ble_eq_true rfl, Nat.le_of_ble_eq_true rfl⟩) 0 rfl rfl [0, 2, 3] [1] rfl rfl ⟨⟨_, rfl, rfl⟩, trivial⟩ rfl (by decide +kernel) (adl := [a_t, a_t_text, a_t_numbers]) rfl rfl rfl rfl rfl (Nat.le_of_ble_eq_true rfl) ⟨Nat.le_refl _, Nat.le_refl _⟩ dX8_takesBet_39 rfl ?_
        refine pb_if_eq (pc := 42) (tgt := 67) C dX8_takesBet_42 (by decide) (fun hc42 => ?_) (fun hc42 => ?_)
        · have hf := pb_pos hf hc42
          refine pb_iconst (v := 0) (pc := 67) C dX8_takesBet_67 pb_kI_0 ?_
          obtain rfl := Option.some.inj hf
          exact pb_zret (pc := 68) C hr hlk hA pb_isB0 dX8_takesBet_68
        · have hf := pb_neg hf hc42
          refine pb_aload_n (pc := 45) C dX8_takesBet_45 rfl 0 rfl ?_
          refine pb_iconst (v := 3) (pc := 46) C dX8_takesBet_46 pb_kI_3 ?_
          refine pb_iconst (v := 1) (pc := 47) C dX8_takesBet_47 pb_kI_1 ?_
          refine pb_bipush (v := 99) (pc := 48) C dX8_takesBet_48 pb_kB_99 ?_
          obtain ⟨r50, hr50, hf⟩ := pb_bind hf
          refine pb_callV (pc := 50) (n0 := 4) (ws' := (wwX8_takesBet cyB cyI cyJ cyZ cyS a_t a_t_w a_t_isKept a_t_text a_t_refused a_t_numbers a_t_weights c_t_texted c_t_above c_t_below r50.2.1 r50.2.2.1 r50.2.2.2.1 r50.2.2.2.2.1 c_t_all c_t_known c_t_truth c_t_x c_t_h c_t_w c_t_text r50.2.2.2.2.2)) (rest := []) (st2 := [.int r50.1]) C (kcX8_takes l dC dI cyB cyI cyJ cyZ cyS a_t a_t_w a_t_isKept a_t_text a_t_refused a_t_numbers a_t_weights c_t_texted c_t_above c_t_below r39.2.1 r39.2.2.1 r39.2.2.2.1 r39.2.2.2.2.1 c_t_all c_t_known c_t_truth c_t_x c_t_h c_t_text r39.2.2.2.2.2 3 1 99 r50 hr50) pb_NW_b (pb_NW_x hX) (cwV 3 C.1.2.2.2.2 gX8_takesBet_X8_takes rfl rfl rfl kdV_X8_takes ⟨Nat.le_of_ble_eq_true rfl, Nat.le_of_ble_eq_true rfl⟩) 0 rfl rfl [0, 2, 3] [1] rfl rfl ⟨⟨_, rfl, rfl⟩, trivial⟩ rfl (by decide +kernel) (adl := [a_t, a_t_text, a_t_numbers]) rfl rfl rfl rfl rfl (Nat.le_of_ble_eq_true rfl) ⟨Nat.le_refl _, Nat.le_refl _⟩ dX8_takesBet_50 rfl ?_
          refine pb_if_eq (pc := 53) (tgt := 67) C dX8_takesBet_53 (by decide) (fun hc53 => ?_) (fun hc53 => ?_)
          · have hf := pb_pos hf hc53
            refine pb_iconst (v := 0) (pc := 67) C dX8_takesBet_67 pb_kI_0 ?_
            obtain rfl := Option.some.inj hf
            exact pb_zret (pc := 68) C hr hlk hA pb_isB0 dX8_takesBet_68
          · have hf := pb_neg hf hc53
            refine pb_aload_n (pc := 56) C dX8_takesBet_56 rfl 0 rfl ?_
            refine pb_iconst (v := 4) (pc := 57) C dX8_takesBet_57 pb_kI_4 ?_
            refine pb_iconst (v := 0) (pc := 58) C dX8_takesBet_58 pb_kI_0 ?_
            refine pb_bipush (v := 99) (pc := 59) C dX8_takesBet_59 pb_kB_99 ?_
            obtain ⟨r61, hr61, hf⟩ := pb_bind hf
            refine pb_callV (pc := 61) (n0 := 4) (ws' := (wwX8_takesBet cyB cyI cyJ cyZ cyS a_t a_t_w a_t_isKept a_t_text a_t_refused a_t_numbers a_t_weights c_t_texted c_t_above c_t_below r61.2.1 r61.2.2.1 r61.2.2.2.1 r61.2.2.2.2.1 c_t_all c_t_known c_t_truth c_t_x c_t_h c_t_w c_t_text r61.2.2.2.2.2)) (rest := []) (st2 := [.int r61.1]) C (kcX8_takes l dC dI cyB cyI cyJ cyZ cyS a_t a_t_w a_t_isKept a_t_text a_t_refused a_t_numbers a_t_weights c_t_texted c_t_above c_t_below r50.2.1 r50.2.2.1 r50.2.2.2.1 r50.2.2.2.2.1 c_t_all c_t_known c_t_truth c_t_x c_t_h c_t_text r50.2.2.2.2.2 4 0 99 r61 hr61) pb_NW_b (pb_NW_x hX) (cwV 3 C.1.2.2.2.2 gX8_takesBet_X8_takes rfl rfl rfl kdV_X8_takes ⟨Nat.le_of_ble_eq_true rfl, Nat.le_of_ble_eq_true rfl⟩) 0 rfl rfl [0, 2, 3] [1] rfl rfl ⟨⟨_, rfl, rfl⟩, trivial⟩ rfl (by decide +kernel) (adl := [a_t, a_t_text, a_t_numbers]) rfl rfl rfl rfl rfl (Nat.le_of_ble_eq_true rfl) ⟨Nat.le_refl _, Nat.le_refl _⟩ dX8_takesBet_61 rfl ?_
            refine pb_if_ne (pc := 64) (tgt := 69) C dX8_takesBet_64 (by decide) (fun hc64 => ?_) (fun hc64 => ?_)
            · have hf := pb_neg hf hc64
              refine pb_aload_n (pc := 69) C dX8_takesBet_69 rfl 0 rfl ?_
              refine pb_sipush (v := 1131) (pc := 70) C dX8_takesBet_70 pb_kS_1131 ?_
              refine pb_iconst (v := 2) (pc := 73) C dX8_takesBet_73 pb_kI_2 ?_
              refine pb_bipush (v := 59) (pc := 74) C dX8_takesBet_74 pb_kB_59 ?_
              refine pb_aload_n (pc := 76) C dX8_takesBet_76 rfl 0 rfl ?_
              refine pb_get (pc := 77) C hnX8_takesBet_X8 0 rfl rfl 11 (by decide) (List.mem_of_getElem? (i := 2) rfl) rfl rfl dX8_takesBet_77 ?_
              refine pb_iconst (v := 0) (pc := 80) C dX8_takesBet_80 pb_kI_0 ?_
              refine pb_iald (pc := 81) C 3 1 rfl rfl pb_ok_0_5 dX8_takesBet_81 ?_
              refine pb_topi (congrArg r61.2.2.2.2.2 pb_kN_0) ?_
              refine pb_aload_n (pc := 82) C dX8_takesBet_82 rfl 0 rfl ?_
              refine pb_get (pc := 83) C hnX8_takesBet_X8 0 rfl rfl 11 (by decide) (List.mem_of_getElem? (i := 2) rfl) rfl rfl dX8_takesBet_83 ?_
              refine pb_iconst (v := 1) (pc := 86) C dX8_takesBet_86 pb_kI_1 ?_
              refine pb_iald (pc := 87) C 3 1 rfl rfl pb_ok_1_5 dX8_takesBet_87 ?_
              refine pb_topi (congrArg r61.2.2.2.2.2 pb_kN_1) ?_
              refine pb_aload_n (pc := 88) C dX8_takesBet_88 rfl 0 rfl ?_
              refine pb_get (pc := 89) C hnX8_takesBet_X8 0 rfl rfl 11 (by decide) (List.mem_of_getElem? (i := 2) rfl) rfl rfl dX8_takesBet_89 ?_
              refine pb_iconst (v := 2) (pc := 92) C dX8_takesBet_92 pb_kI_2 ?_
              refine pb_iald (pc := 93) C 3 1 rfl rfl pb_ok_2_5 dX8_takesBet_93 ?_
              refine pb_topi (congrArg r61.2.2.2.2.2 pb_kN_2) ?_
              refine pb_aload_n (pc := 94) C dX8_takesBet_94 rfl 0 rfl ?_
              refine pb_get (pc := 95) C hnX8_takesBet_X8 0 rfl rfl 11 (by decide) (List.mem_of_getElem? (i := 2) rfl) rfl rfl dX8_takesBet_95 ?_
              refine pb_iconst (v := 3) (pc := 98) C dX8_takesBet_98 pb_kI_3 ?_
              refine pb_iald (pc := 99) C 3 1 rfl rfl pb_ok_3_5 dX8_takesBet_99 ?_
              refine pb_topi (congrArg r61.2.2.2.2.2 pb_kN_3) ?_
              refine pb_aload_n (pc := 100) C dX8_takesBet_100 rfl 0 rfl ?_
              refine pb_get (pc := 101) C hnX8_takesBet_X8 0 rfl rfl 11 (by decide) (List.mem_of_getElem? (i := 2) rfl) rfl rfl dX8_takesBet_101 ?_
              refine pb_iconst (v := 4) (pc := 104) C dX8_takesBet_104 pb_kI_4 ?_
              refine pb_iald (pc := 105) C 3 1 rfl rfl pb_ok_4_5 dX8_takesBet_105 ?_
              refine pb_topi (congrArg r61.2.2.2.2.2 pb_kN_4) ?_
              obtain ⟨r106, hr106, hf⟩ := pb_bind hf
              refine pb_callV (pc := 106) (n0 := 4) (ws' := (wwX8_takesBet cyB cyI cyJ cyZ cyS a_t a_t_w a_t_isKept a_t_text a_t_refused a_t_numbers a_t_weights c_t_texted c_t_above c_t_below r61.2.1 r61.2.2.1 r61.2.2.2.1 r61.2.2.2.2.1 c_t_all c_t_known c_t_truth c_t_x c_t_h r106.2 c_t_text r61.2.2.2.2.2)) (rest := []) (st2 := [.int r106.1]) C (kcX8_adds5 l dC dI cyB cyI cyJ cyZ cyS a_t a_t_w a_t_isKept a_t_text a_t_refused a_t_numbers a_t_weights c_t_texted c_t_above c_t_below r61.2.1 r61.2.2.1 r61.2.2.2.1 r61.2.2.2.2.1 c_t_all c_t_known c_t_truth c_t_x c_t_h c_t_w 1131 2 59 (r61.2.2.2.2.2 0) (r61.2.2.2.2.2 1) (r61.2.2.2.2.2 2) (r61.2.2.2.2.2 3) (r61.2.2.2.2.2 4) r106 hr106) pb_NW_b (pb_NW_x hX) (cwV 8 C.1.2.2.2.2 gX8_takesBet_X8_adds5 rfl rfl rfl kdV_X8_adds5 ⟨Nat.le_of_ble_eq_true rfl, Nat.le_of_ble_eq_true rfl⟩) 0 rfl rfl [0, 1] [2, 3] rfl rfl ⟨⟨_, rfl, rfl⟩, ⟨⟨_, rfl, rfl⟩, trivial⟩⟩ rfl (by decide +kernel) (adl := [a_t, a_t_w]) rfl rfl rfl rfl rfl (Nat.le_of_ble_eq_true rfl) ⟨Nat.le_refl _, Nat.le_refl _⟩ dX8_takesBet_106 rfl ?_
              refine pb_if_lt (pc := 109) (tgt := 116) C dX8_takesBet_109 (by decide) (fun hc109 => ?_) (fun hc109 => ?_)
              · have hf := pb_pos hf hc109
                refine pb_iconst (v := 0) (pc := 116) C dX8_takesBet_116 pb_kI_0 ?_
                obtain rfl := Option.some.inj hf
                exact pb_zret (pc := 117) C hr hlk hA pb_isB0 dX8_takesBet_117
              · have hf := pb_neg hf hc109
                refine pb_iconst (v := 1) (pc := 112) C dX8_takesBet_112 pb_kI_1 ?_
                refine pb_goto (pc := 113) (tgt := 117) C dX8_takesBet_113 (by decide) ?_
                obtain rfl := Option.some.inj hf
                exact pb_zret (pc := 117) C hr hlk hA pb_isB1 dX8_takesBet_117
            · have hf := pb_pos hf hc64
              refine pb_iconst (v := 0) (pc := 67) C dX8_takesBet_67 pb_kI_0 ?_
              obtain rfl := Option.some.inj hf
              exact pb_zret (pc := 68) C hr hlk hA pb_isB0 dX8_takesBet_68
