def rmX8_holds : Room := { frames := 3, cells := 0, slots := 0, locals := 67 }
def wwX8_holds (cyB cyI cyJ cyZ cyS : ClassId) (a_t a_t_w a_t_isKept a_t_text a_t_refused a_t_numbers a_t_weights : Nat) (c_t_texted : Int32) (c_t_above : Int64) (c_t_below : Int64) (c_t_at : Int32) (c_t_start : Int32) (c_t_isWord : Int32) (c_t_isFigures : Int32) (c_t_all : Int64) (c_t_known : Int32) (c_t_truth : Int32) (c_t_x : Int64) (c_t_h : Int64) (c_t_refused : (Nat → Int32)) : va_W := [(a_t, .inr (8, [.ref a_t_w, .ref a_t_isKept, .ref a_t_text, .int c_t_texted, .ref a_t_refused, .long c_t_above, .long c_t_below, .int c_t_at, .int c_t_start, .int c_t_isWord, .int c_t_isFigures, .ref a_t_numbers, .ref a_t_weights, .long c_t_all, .int c_t_known, .int c_t_truth, .long c_t_x, .long c_t_h])), (a_t_refused, .inl (cyI, 3, .inl c_t_refused))]
set_option maxHeartbeats 4000000 in
set_option maxRecDepth 100000 in
theorem kcX8_holds (l : Launch) (dC : Nat → ClassId) (dI : Nat → Nat → Nat) (cyB cyI cyJ cyZ cyS : ClassId) (a_t a_t_w a_t_isKept a_t_text a_t_refused a_t_numbers a_t_weights : Nat) (c_t_texted : Int32) (c_t_above : Int64) (c_t_below : Int64) (c_t_at : Int32) (c_t_start : Int32) (c_t_isWord : Int32) (c_t_isFigures : Int32) (c_t_all : Int64) (c_t_known : Int32) (c_t_truth : Int32) (c_t_x : Int64) (c_t_h : Int64) (c_t_refused : (Nat → Int32)) (p1 : Int32) (p2 : Int32) (p3 : Int32) (p4 : Int32) (out : (Int32 × (Nat → Int32))) (hf : fX8_holds c_t_refused p1 p2 p3 p4 = some out) : pb_K l yX8_holds wsX8_holds rmX8_holds (dC, dI) vwCl (pb_tys cyB cyI cyJ cyZ cyS) pb_NW [.ref a_t, .int p1, .int p2, .int p3, .int p4] (wwX8_holds cyB cyI cyJ cyZ cyS a_t a_t_w a_t_isKept a_t_text a_t_refused a_t_numbers a_t_weights c_t_texted c_t_above c_t_below c_t_at c_t_start c_t_isWord c_t_isFigures c_t_all c_t_known c_t_truth c_t_x c_t_h c_t_refused) (wwX8_holds cyB cyI cyJ cyZ cyS a_t a_t_w a_t_isKept a_t_text a_t_refused a_t_numbers a_t_weights c_t_texted c_t_above c_t_below c_t_at c_t_start c_t_isWord c_t_isFigures c_t_all c_t_known c_t_truth c_t_x c_t_h out.2) (some (.int out.1)) := by
  unfold fX8_holds at hf
  refine pb_K.ofV (cc := cX8_holds) (maxL := 5) (ret := (some .int)) (lv0 := [(0, .ref a_t), (1, .int p1), (2, .int p2), (3, .int p3), (4, .int p4)]) (by decide) rfl (Nat.le_of_ble_eq_true rfl) rfl ?_
  intro p e s m below meth c A C hX hr hlk hA
  refine pb_iload_n (pc := 0) C dX8_holds_0 rfl 1 rfl ?_
  refine pb_iload_n (pc := 1) C dX8_holds_1 rfl 2 rfl ?_
  refine pb_iload_n (pc := 2) C dX8_holds_2 rfl 3 rfl ?_
  obtain ⟨r3, hr3, hf⟩ := pb_bind hf
  refine pb_callS (pc := 3) (n0 := 2) (ws' := (wwX8_holds cyB cyI cyJ cyZ cyS a_t a_t_w a_t_isKept a_t_text a_t_refused a_t_numbers a_t_weights c_t_texted c_t_above c_t_below c_t_at c_t_start c_t_isWord c_t_isFigures c_t_all c_t_known c_t_truth c_t_x c_t_h c_t_refused)) (rest := []) (st2 := [.int r3]) C (kcX8_isClaim l dC dI cyB cyI cyJ cyZ cyS p1 p2 p3 r3 hr3) pb_NW_b (pb_NW_x hX) (va_cwS 3 C.1.2.2.2.2 gX8_holds_X8_isClaim rfl rfl rfl kdS_X8_isClaim ⟨Nat.le_of_ble_eq_true rfl, Nat.le_of_ble_eq_true rfl⟩) [] [0, 1] rfl rfl ⟨⟨_, rfl, rfl⟩, ⟨⟨_, rfl, rfl⟩, trivial⟩⟩ rfl (by decide +kernel) (adl := []) rfl rfl rfl rfl rfl (Nat.le_of_ble_eq_true rfl) ⟨Nat.le_refl _, Nat.le_refl _⟩ dX8_holds_3 rfl ?_
  refine pb_if_eq (pc := 6) (tgt := 17) C dX8_holds_6 (by decide) (fun hc6 => ?_) (fun hc6 => ?_)
  · have hf := pb_pos hf hc6
    refine pb_aload_n (pc := 17) C dX8_holds_17 rfl 0 rfl ?_
    obtain ⟨r18, hr18, hf⟩ := pb_bind hf
    refine pb_callV (pc := 18) (n0 := 2) (ws' := (wwX8_holds cyB cyI cyJ cyZ cyS a_t a_t_w a_t_isKept a_t_text a_t_refused a_t_numbers a_t_weights c_t_texted c_t_above c_t_below c_t_at c_t_start c_t_isWord c_t_isFigures c_t_all c_t_known c_t_truth c_t_x c_t_h r18.2)) (rest := []) (st2 := [.int r18.1]) C (kcX8_bad l dC dI cyB cyI cyJ cyZ cyS a_t a_t_w a_t_isKept a_t_text a_t_refused a_t_numbers a_t_weights c_t_texted c_t_above c_t_below c_t_at c_t_start c_t_isWord c_t_isFigures c_t_all c_t_known c_t_truth c_t_x c_t_h c_t_refused r18 hr18) pb_NW_b (pb_NW_x hX) (cwV 0 C.1.2.2.2.2 gX8_holds_X8_bad rfl rfl rfl kdV_X8_bad ⟨Nat.le_of_ble_eq_true rfl, Nat.le_of_ble_eq_true rfl⟩) 0 rfl rfl [0, 1] [] rfl rfl trivial rfl (by decide +kernel) (adl := [a_t, a_t_refused]) rfl rfl rfl rfl rfl (Nat.le_of_ble_eq_true rfl) ⟨Nat.le_refl _, Nat.le_refl _⟩ dX8_holds_18 rfl ?_
    obtain rfl := Option.some.inj hf
    exact pb_iret (pc := 21) C hr hlk hA dX8_holds_21
  · have hf := pb_neg hf hc6
    refine pb_iload (pc := 9) C dX8_holds_9 4 rfl ?_
    obtain ⟨r11, hr11, hf⟩ := pb_bind hf
    refine pb_callS (pc := 11) (n0 := 2) (ws' := (wwX8_holds cyB cyI cyJ cyZ cyS a_t a_t_w a_t_isKept a_t_text a_t_refused a_t_numbers a_t_weights c_t_texted c_t_above c_t_below c_t_at c_t_start c_t_isWord c_t_isFigures c_t_all c_t_known c_t_truth c_t_x c_t_h c_t_refused)) (rest := []) (st2 := [.int r11]) C (kcX8_isPast l dC dI cyB cyI cyJ cyZ cyS p4 r11 hr11) pb_NW_b (pb_NW_x hX) (va_cwS 1 C.1.2.2.2.2 gX8_holds_X8_isPast rfl rfl rfl kdS_X8_isPast ⟨Nat.le_of_ble_eq_true rfl, Nat.le_of_ble_eq_true rfl⟩) [] [0, 1] rfl rfl ⟨⟨_, rfl, rfl⟩, ⟨⟨_, rfl, rfl⟩, trivial⟩⟩ rfl (by decide +kernel) (adl := []) rfl rfl rfl rfl rfl (Nat.le_of_ble_eq_true rfl) ⟨Nat.le_refl _, Nat.le_refl _⟩ dX8_holds_11 rfl ?_
    refine pb_if_ne (pc := 14) (tgt := 22) C dX8_holds_14 (by decide) (fun hc14 => ?_) (fun hc14 => ?_)
    · have hf := pb_neg hf hc14
      refine pb_iload_n (pc := 22) C dX8_holds_22 rfl 1 rfl ?_
      refine pb_iload_n (pc := 23) C dX8_holds_23 rfl 2 rfl ?_
      refine pb_iload_n (pc := 24) C dX8_holds_24 rfl 3 rfl ?_
      refine pb_iload (pc := 25) C dX8_holds_25 4 rfl ?_
      obtain ⟨r27, hr27, hf⟩ := pb_bind hf
      refine pb_callS (pc := 27) (n0 := 2) (ws' := (wwX8_holds cyB cyI cyJ cyZ cyS a_t a_t_w a_t_isKept a_t_text a_t_refused a_t_numbers a_t_weights c_t_texted c_t_above c_t_below c_t_at c_t_start c_t_isWord c_t_isFigures c_t_all c_t_known c_t_truth c_t_x c_t_h c_t_refused)) (rest := []) (st2 := [.int r27]) C (kcX8_isSo l dC dI cyB cyI cyJ cyZ cyS p1 p2 p3 p4 r27 hr27) pb_NW_b (pb_NW_x hX) (va_cwS 4 C.1.2.2.2.2 gX8_holds_X8_isSo rfl rfl rfl kdS_X8_isSo ⟨Nat.le_of_ble_eq_true rfl, Nat.le_of_ble_eq_true rfl⟩) [] [0, 1] rfl rfl ⟨⟨_, rfl, rfl⟩, ⟨⟨_, rfl, rfl⟩, trivial⟩⟩ rfl (by decide +kernel) (adl := []) rfl rfl rfl rfl rfl (Nat.le_of_ble_eq_true rfl) ⟨Nat.le_refl _, Nat.le_refl _⟩ dX8_holds_27 rfl ?_
      refine pb_if_eq (pc := 30) (tgt := 37) C dX8_holds_30 (by decide) (fun hc30 => ?_) (fun hc30 => ?_)
      · have hf := pb_pos hf hc30
        refine pb_iconst (v := 0) (pc := 37) C dX8_holds_37 pb_kI_0 ?_
        obtain rfl := Option.some.inj hf
        exact pb_iret (pc := 38) C hr hlk hA dX8_holds_38
      · have hf := pb_neg hf hc30
        refine pb_iconst (v := 1) (pc := 33) C dX8_holds_33 pb_kI_1 ?_
        refine pb_goto (pc := 34) (tgt := 38) C dX8_holds_34 (by decide) ?_
        obtain rfl := Option.some.inj hf
        exact pb_iret (pc := 38) C hr hlk hA dX8_holds_38
    · have hf := pb_pos hf hc14
      refine pb_aload_n (pc := 17) C dX8_holds_17 rfl 0 rfl ?_
      obtain ⟨r18, hr18, hf⟩ := pb_bind hf
      refine pb_callV (pc := 18) (n0 := 2) (ws' := (wwX8_holds cyB cyI cyJ cyZ cyS a_t a_t_w a_t_isKept a_t_text a_t_refused a_t_numbers a_t_weights c_t_texted c_t_above c_t_below c_t_at c_t_start c_t_isWord c_t_isFigures c_t_all c_t_known c_t_truth c_t_x c_t_h r18.2)) (rest := []) (st2 := [.int r18.1]) C (kcX8_bad l dC dI cyB cyI cyJ cyZ cyS a_t a_t_w a_t_isKept a_t_text a_t_refused a_t_numbers a_t_weights c_t_texted c_t_above c_t_below c_t_at c_t_start c_t_isWord c_t_isFigures c_t_all c_t_known c_t_truth c_t_x c_t_h c_t_refused r18 hr18) pb_NW_b (pb_NW_x hX) (cwV 0 C.1.2.2.2.2 gX8_holds_X8_bad rfl rfl rfl kdV_X8_bad ⟨Nat.le_of_ble_eq_true rfl, Nat.le_of_ble_eq_true rfl⟩) 0 rfl rfl [0, 1] [] rfl rfl trivial rfl (by decide +kernel) (adl := [a_t, a_t_refused]) rfl rfl rfl rfl rfl (Nat.le_of_ble_eq_true rfl) ⟨Nat.le_refl _, Nat.le_refl _⟩ dX8_holds_18 rfl ?_
      obtain rfl := Option.some.inj hf
      exact pb_iret (pc := 21) C hr hlk hA dX8_holds_21
def rmX8_isLeft : Room := { frames := 0, cells := 0, slots := 0, locals := 0 }
def wwX8_isLeft (cyB cyI cyJ cyZ cyS : ClassId) (a_t a_t_w a_t_isKept a_t_text a_t_refused a_t_numbers a_t_weights : Nat) (c_t_texted : Int32) (c_t_above : Int64) (c_t_below : Int64) (c_t_at : Int32) (c_t_start : Int32) (c_t_isWord : Int32) (c_t_isFigures : Int32) (c_t_all : Int64) (c_t_known : Int32) (c_t_truth : Int32) (c_t_x : Int64) (c_t_h : Int64) (c_t_weights : (Nat → Int64)) : va_W := [(a_t, .inr (8, [.ref a_t_w, .ref a_t_isKept, .ref a_t_text, .int c_t_texted, .ref a_t_refused, .long c_t_above, .long c_t_below, .int c_t_at, .int c_t_start, .int c_t_isWord, .int c_t_isFigures, .ref a_t_numbers, .ref a_t_weights, .long c_t_all, .int c_t_known, .int c_t_truth, .long c_t_x, .long c_t_h])), (a_t_weights, .inl (cyJ, 128, .inr (.inl c_t_weights)))]
theorem hnX8_isLeft_X8 : ∀ w ∈ wsX80, w ∈ wsX8_isLeft := fun _ h => List.mem_cons_of_mem _ (List.mem_append_right _ h)
set_option maxHeartbeats 4000000 in
set_option maxRecDepth 100000 in
theorem kcX8_isLeft (l : Launch) (dC : Nat → ClassId) (dI : Nat → Nat → Nat) (cyB cyI cyJ cyZ cyS : ClassId) (a_t a_t_w a_t_isKept a_t_text a_t_refused a_t_numbers a_t_weights : Nat) (c_t_texted : Int32) (c_t_above : Int64) (c_t_below : Int64) (c_t_at : Int32) (c_t_start : Int32) (c_t_isWord : Int32) (c_t_isFigures : Int32) (c_t_all : Int64) (c_t_known : Int32) (c_t_truth : Int32) (c_t_x : Int64) (c_t_h : Int64) (c_t_weights : (Nat → Int64)) (p1 : Int32) (out : Int32) (hf : fX8_isLeft c_t_known c_t_truth c_t_weights p1 = some out) : pb_K l yX8_isLeft wsX8_isLeft rmX8_isLeft (dC, dI) vwCl (pb_tys cyB cyI cyJ cyZ cyS) pb_NW [.ref a_t, .int p1] (wwX8_isLeft cyB cyI cyJ cyZ cyS a_t a_t_w a_t_isKept a_t_text a_t_refused a_t_numbers a_t_weights c_t_texted c_t_above c_t_below c_t_at c_t_start c_t_isWord c_t_isFigures c_t_all c_t_known c_t_truth c_t_x c_t_h c_t_weights) (wwX8_isLeft cyB cyI cyJ cyZ cyS a_t a_t_w a_t_isKept a_t_text a_t_refused a_t_numbers a_t_weights c_t_texted c_t_above c_t_below c_t_at c_t_start c_t_isWord c_t_isFigures c_t_all c_t_known c_t_truth c_t_x c_t_h c_t_weights) (some (.int out)) := by
  unfold fX8_isLeft at hf
  refine pb_K.ofV (cc := cX8_isLeft) (maxL := 2) (ret := (some .boolean)) (lv0 := [(0, .ref a_t), (1, .int p1)]) (by decide) rfl (Nat.le_of_ble_eq_true rfl) rfl ?_
  intro p e s m below meth c A C hX hr hlk hA
  refine pb_aload_n (pc := 0) C dX8_isLeft_0 rfl 0 rfl ?_
  refine pb_get (pc := 1) C hnX8_isLeft_X8 0 rfl rfl 12 (by decide) (List.mem_of_getElem? (i := 1) rfl) rfl rfl dX8_isLeft_1 ?_
  refine pb_iload_n (pc := 4) C dX8_isLeft_4 rfl 1 rfl ?_
  obtain ⟨g5, hf⟩ := pb_grd hf
  refine pb_lald (pc := 5) C 1 2 rfl rfl g5 dX8_isLeft_5 ?_
  refine pb_lconst (v := 0) (pc := 6) C dX8_isLeft_6 pb_kL_0 ?_
  refine pb_lif_le (pc := 7) (tgt := 29) C dX8_isLeft_7 dX8_isLeft_8 (by decide) (fun hc7 => ?_) (fun hc7 => ?_)
  · have hf := pb_pos hf hc7
    refine pb_iconst (v := 0) (pc := 29) C dX8_isLeft_29 pb_kI_0 ?_
    obtain rfl := Option.some.inj hf
    exact pb_zret (pc := 30) C hr hlk hA pb_isB0 dX8_isLeft_30
  · have hf := pb_neg hf hc7
    refine pb_iload_n (pc := 11) C dX8_isLeft_11 rfl 1 rfl ?_
    refine pb_aload_n (pc := 12) C dX8_isLeft_12 rfl 0 rfl ?_
    refine pb_get (pc := 13) C hnX8_isLeft_X8 0 rfl rfl 15 (by decide) (List.mem_of_getElem? (i := 2) rfl) rfl rfl dX8_isLeft_13 ?_
    refine pb_ixor (pc := 16) C dX8_isLeft_16 ?_
    refine pb_aload_n (pc := 17) C dX8_isLeft_17 rfl 0 rfl ?_
    refine pb_get (pc := 18) C hnX8_isLeft_X8 0 rfl rfl 14 (by decide) (List.mem_of_getElem? (i := 3) rfl) rfl rfl dX8_isLeft_18 ?_
    refine pb_iand (pc := 21) C dX8_isLeft_21 ?_
    refine pb_if_ne (pc := 22) (tgt := 29) C dX8_isLeft_22 (by decide) (fun hc22 => ?_) (fun hc22 => ?_)
    · have hf := pb_neg hf hc22
      refine pb_iconst (v := 0) (pc := 29) C dX8_isLeft_29 pb_kI_0 ?_
      obtain rfl := Option.some.inj hf
      exact pb_zret (pc := 30) C hr hlk hA pb_isB0 dX8_isLeft_30
    · have hf := pb_pos hf hc22
      refine pb_iconst (v := 1) (pc := 25) C dX8_isLeft_25 pb_kI_1 ?_
      refine pb_goto (pc := 26) (tgt := 30) C dX8_isLeft_26 (by decide) ?_
      obtain rfl := Option.some.inj hf
      exact pb_zret (pc := 30) C hr hlk hA pb_isB1 dX8_isLeft_30
def rmX8_settledNow : Room := { frames := 2, cells := 0, slots := 0, locals := 46 }
def wwX8_settledNow (cyB cyI cyJ cyZ cyS : ClassId) (a_t a_t_w a_t_isKept a_t_text a_t_refused a_t_numbers a_t_weights : Nat) (c_t_texted : Int32) (c_t_above : Int64) (c_t_below : Int64) (c_t_at : Int32) (c_t_start : Int32) (c_t_isWord : Int32) (c_t_isFigures : Int32) (c_t_all : Int64) (c_t_known : Int32) (c_t_truth : Int32) (c_t_x : Int64) (c_t_h : Int64) (c_t_weights : (Nat → Int64)) : va_W := [(a_t, .inr (8, [.ref a_t_w, .ref a_t_isKept, .ref a_t_text, .int c_t_texted, .ref a_t_refused, .long c_t_above, .long c_t_below, .int c_t_at, .int c_t_start, .int c_t_isWord, .int c_t_isFigures, .ref a_t_numbers, .ref a_t_weights, .long c_t_all, .int c_t_known, .int c_t_truth, .long c_t_x, .long c_t_h])), (a_t_weights, .inl (cyJ, 128, .inr (.inl c_t_weights)))]
set_option maxHeartbeats 4000000 in
set_option maxRecDepth 100000 in
theorem kcX8_settledNow (l : Launch) (dC : Nat → ClassId) (dI : Nat → Nat → Nat) (cyB cyI cyJ cyZ cyS : ClassId) (a_t a_t_w a_t_isKept a_t_text a_t_refused a_t_numbers a_t_weights : Nat) (c_t_texted : Int32) (c_t_above : Int64) (c_t_below : Int64) (c_t_at : Int32) (c_t_start : Int32) (c_t_isWord : Int32) (c_t_isFigures : Int32) (c_t_all : Int64) (c_t_known : Int32) (c_t_truth : Int32) (c_t_x : Int64) (c_t_h : Int64) (c_t_weights : (Nat → Int64)) (p1 : Int32) (p2 : Int32) (p3 : Int32) (out : Int32) (hf : fX8_settledNow c_t_known c_t_truth c_t_weights p1 p2 p3 = some out) : pb_K l yX8_settledNow wsX8_settledNow rmX8_settledNow (dC, dI) vwCl (pb_tys cyB cyI cyJ cyZ cyS) pb_NW [.ref a_t, .int p1, .int p2, .int p3] (wwX8_settledNow cyB cyI cyJ cyZ cyS a_t a_t_w a_t_isKept a_t_text a_t_refused a_t_numbers a_t_weights c_t_texted c_t_above c_t_below c_t_at c_t_start c_t_isWord c_t_isFigures c_t_all c_t_known c_t_truth c_t_x c_t_h c_t_weights) (wwX8_settledNow cyB cyI cyJ cyZ cyS a_t a_t_w a_t_isKept a_t_text a_t_refused a_t_numbers a_t_weights c_t_texted c_t_above c_t_below c_t_at c_t_start c_t_isWord c_t_isFigures c_t_all c_t_known c_t_truth c_t_x c_t_h c_t_weights) (some (.int out)) := by
  unfold fX8_settledNow at hf
  refine pb_K.ofV (cc := cX8_settledNow) (maxL := 7) (ret := (some .int)) (lv0 := [(0, .ref a_t), (1, .int p1), (2, .int p2), (3, .int p3)]) (by decide) rfl (Nat.le_of_ble_eq_true rfl) rfl ?_
  intro p e s m below meth c A C hX hr hlk hA
  refine pb_iconst (v := 0) (pc := 0) C dX8_settledNow_0 pb_kI_0 ?_
  refine pb_istore (lv' := [(4, .int 0), (0, .ref a_t), (1, .int p1), (2, .int p2), (3, .int p3)]) (pc := 1) C dX8_settledNow_1 (by decide) rfl ?_
  refine pb_iconst (v := 0) (pc := 3) C dX8_settledNow_3 pb_kI_0 ?_
  refine pb_istore (lv' := [(5, .int 0), (4, .int 0), (0, .ref a_t), (1, .int p1), (2, .int p2), (3, .int p3)]) (pc := 4) C dX8_settledNow_4 (by decide) rfl ?_
  refine pb_iconst (v := 0) (pc := 6) C dX8_settledNow_6 pb_kI_0 ?_
  refine pb_istore (lv' := [(6, .int 0), (5, .int 0), (4, .int 0), (0, .ref a_t), (1, .int p1), (2, .int p2), (3, .int p3)]) (pc := 7) C dX8_settledNow_7 (by decide) rfl ?_
  obtain ⟨z9, hz9, hk9⟩ := pb_bind hf
  have E9 : ∀ (e9_4 : Int32) (e9_5 : Int32) (e9_6 : Int32), fX8_settledNow_E9 e9_4 e9_5 e9_6 = some out → pb_V p l e rmX8_settledNow s m (([.ref a_t, .int p1, .int p2, .int p3] : List Value).toArray) below meth c 7 (dC, dI) vwCl A 0 0 (pb_MQ below (([.ref a_t, .int p1, .int p2, .int p3] : List Value).toArray) s (dC, dI) vwCl (wwX8_settledNow cyB cyI cyJ cyZ cyS a_t a_t_w a_t_isKept a_t_text a_t_refused a_t_numbers a_t_weights c_t_texted c_t_above c_t_below c_t_at c_t_start c_t_isWord c_t_isFigures c_t_all c_t_known c_t_truth c_t_x c_t_h c_t_weights) (wwX8_settledNow cyB cyI cyJ cyZ cyS a_t a_t_w a_t_isKept a_t_text a_t_refused a_t_numbers a_t_weights c_t_texted c_t_above c_t_below c_t_at c_t_start c_t_isWord c_t_isFigures c_t_all c_t_known c_t_truth c_t_x c_t_h c_t_weights) (some (.int out)) A) (wwX8_settledNow cyB cyI cyJ cyZ cyS a_t a_t_w a_t_isKept a_t_text a_t_refused a_t_numbers a_t_weights c_t_texted c_t_above c_t_below c_t_at c_t_start c_t_isWord c_t_isFigures c_t_all c_t_known c_t_truth c_t_x c_t_h c_t_weights) [(4, .int e9_4), (5, .int e9_5)] [] 87 := by
    intro e9_4 e9_5 e9_6 hf
    unfold fX8_settledNow_E9 at hf
    refine pb_iload (pc := 87) C dX8_settledNow_87 0 rfl ?_
    refine pb_if_eq (pc := 89) (tgt := 105) C dX8_settledNow_89 (by decide) (fun hc89 => ?_) (fun hc89 => ?_)
    · have hf := pb_pos hf hc89
      refine pb_iload (pc := 105) C dX8_settledNow_105 1 rfl ?_
      refine pb_if_eq (pc := 107) (tgt := 114) C dX8_settledNow_107 (by decide) (fun hc107 => ?_) (fun hc107 => ?_)
      · have hf := pb_pos hf hc107
        refine pb_iconst (v := (-1)) (pc := 114) C dX8_settledNow_114 pb_kI_m1 ?_
        obtain rfl := Option.some.inj hf
        exact pb_iret (pc := 115) C hr hlk hA dX8_settledNow_115
      · have hf := pb_neg hf hc107
        refine pb_iconst (v := 0) (pc := 110) C dX8_settledNow_110 pb_kI_0 ?_
        refine pb_goto (pc := 111) (tgt := 115) C dX8_settledNow_111 (by decide) ?_
        obtain rfl := Option.some.inj hf
        exact pb_iret (pc := 115) C hr hlk hA dX8_settledNow_115
    · have hf := pb_neg hf hc89
      refine pb_iload (pc := 92) C dX8_settledNow_92 1 rfl ?_
      refine pb_if_eq (pc := 94) (tgt := 101) C dX8_settledNow_94 (by decide) (fun hc94 => ?_) (fun hc94 => ?_)
      · have hf := pb_pos hf hc94
        refine pb_iconst (v := 1) (pc := 101) C dX8_settledNow_101 pb_kI_1 ?_
        refine pb_goto (pc := 102) (tgt := 115) C dX8_settledNow_102 (by decide) ?_
        obtain rfl := Option.some.inj hf
        exact pb_iret (pc := 115) C hr hlk hA dX8_settledNow_115
      · have hf := pb_neg hf hc94
        refine pb_iconst (v := 2) (pc := 97) C dX8_settledNow_97 pb_kI_2 ?_
        refine pb_goto (pc := 98) (tgt := 115) C dX8_settledNow_98 (by decide) ?_
        obtain rfl := Option.some.inj hf
        exact pb_iret (pc := 115) C hr hlk hA dX8_settledNow_115
  have L9 : ∀ (n : Nat) (l9_4 : Int32) (l9_5 : Int32) (l9_6 : Int32), pb_lp (fun y => fX8_settledNow_L9 c_t_known c_t_truth c_t_weights p1 p2 p3 y.1 y.2.1 y.2.2) n (l9_4, l9_5, l9_6) = some z9 → pb_V p l e rmX8_settledNow s m (([.ref a_t, .int p1, .int p2, .int p3] : List Value).toArray) below meth c 7 (dC, dI) vwCl A 0 0 (pb_MQ below (([.ref a_t, .int p1, .int p2, .int p3] : List Value).toArray) s (dC, dI) vwCl (wwX8_settledNow cyB cyI cyJ cyZ cyS a_t a_t_w a_t_isKept a_t_text a_t_refused a_t_numbers a_t_weights c_t_texted c_t_above c_t_below c_t_at c_t_start c_t_isWord c_t_isFigures c_t_all c_t_known c_t_truth c_t_x c_t_h c_t_weights) (wwX8_settledNow cyB cyI cyJ cyZ cyS a_t a_t_w a_t_isKept a_t_text a_t_refused a_t_numbers a_t_weights c_t_texted c_t_above c_t_below c_t_at c_t_start c_t_isWord c_t_isFigures c_t_all c_t_known c_t_truth c_t_x c_t_h c_t_weights) (some (.int out)) A) (wwX8_settledNow cyB cyI cyJ cyZ cyS a_t a_t_w a_t_isKept a_t_text a_t_refused a_t_numbers a_t_weights c_t_texted c_t_above c_t_below c_t_at c_t_start c_t_isWord c_t_isFigures c_t_all c_t_known c_t_truth c_t_x c_t_h c_t_weights) [(0, .ref a_t), (1, .int p1), (2, .int p2), (3, .int p3), (4, .int l9_4), (5, .int l9_5), (6, .int l9_6)] [] 9 := by
    intro n
    induction n with
    | zero => intro l9_4 l9_5 l9_6 hf; exact (pb_lp_zero hf).elim
    | succ n ih9 =>
      intro l9_4 l9_5 l9_6 hf
      obtain ⟨y9, hf, hl9⟩ := pb_lp_succ hf
      have hf : fX8_settledNow_L9 c_t_known c_t_truth c_t_weights p1 p2 p3 l9_4 l9_5 l9_6 = some y9 := hf
      unfold fX8_settledNow_L9 at hf
      refine pb_iload (pc := 9) C dX8_settledNow_9 6 rfl ?_
      refine pb_sipush (v := 128) (pc := 11) C dX8_settledNow_11 pb_kS_128 ?_
      refine pb_icmp_ge (pc := 14) (tgt := 87) C dX8_settledNow_14 (by decide) (fun hc14 => ?_) (fun hc14 => ?_)
      · have hf := pb_pos hf hc14
        obtain rfl := Option.some.inj hf
        obtain rfl := pb_esc hl9
        refine pb_sub [4, 5] rfl ?_
        exact E9 l9_4 l9_5 l9_6 hk9
      · have hf := pb_neg hf hc14
        refine pb_iload (pc := 17) C dX8_settledNow_17 4 rfl ?_
        obtain ⟨y47, hf, hk47⟩ := pb_bind hf
        have J47 : ∀ (j47_s0 : Int32), fX8_settledNow_J47 c_t_known c_t_truth c_t_weights p1 p2 p3 l9_5 l9_6 j47_s0 = some y9 → pb_V p l e rmX8_settledNow s m (([.ref a_t, .int p1, .int p2, .int p3] : List Value).toArray) below meth c 7 (dC, dI) vwCl A 0 0 (pb_MQ below (([.ref a_t, .int p1, .int p2, .int p3] : List Value).toArray) s (dC, dI) vwCl (wwX8_settledNow cyB cyI cyJ cyZ cyS a_t a_t_w a_t_isKept a_t_text a_t_refused a_t_numbers a_t_weights c_t_texted c_t_above c_t_below c_t_at c_t_start c_t_isWord c_t_isFigures c_t_all c_t_known c_t_truth c_t_x c_t_h c_t_weights) (wwX8_settledNow cyB cyI cyJ cyZ cyS a_t a_t_w a_t_isKept a_t_text a_t_refused a_t_numbers a_t_weights c_t_texted c_t_above c_t_below c_t_at c_t_start c_t_isWord c_t_isFigures c_t_all c_t_known c_t_truth c_t_x c_t_h c_t_weights) (some (.int out)) A) (wwX8_settledNow cyB cyI cyJ cyZ cyS a_t a_t_w a_t_isKept a_t_text a_t_refused a_t_numbers a_t_weights c_t_texted c_t_above c_t_below c_t_at c_t_start c_t_isWord c_t_isFigures c_t_all c_t_known c_t_truth c_t_x c_t_h c_t_weights) [(0, .ref a_t), (1, .int p1), (2, .int p2), (3, .int p3), (5, .int l9_5), (6, .int l9_6)] [.int j47_s0] 47 := by
          intro j47_s0 hf
          unfold fX8_settledNow_J47 at hf
          refine pb_istore (lv' := [(4, .int j47_s0), (0, .ref a_t), (1, .int p1), (2, .int p2), (3, .int p3), (5, .int l9_5), (6, .int l9_6)]) (pc := 47) C dX8_settledNow_47 (by decide) rfl ?_
          refine pb_iload (pc := 49) C dX8_settledNow_49 5 rfl ?_
          refine pb_if_ne (pc := 51) (tgt := 74) C dX8_settledNow_51 (by decide) (fun hc51 => ?_) (fun hc51 => ?_)
          · have hf := pb_neg hf hc51
            refine pb_iconst (v := 1) (pc := 74) C dX8_settledNow_74 pb_kI_1 ?_
            refine pb_goto (pc := 75) (tgt := 79) C dX8_settledNow_75 (by decide) ?_
            refine pb_istore (lv' := [(5, .int 1), (4, .int j47_s0), (0, .ref a_t), (1, .int p1), (2, .int p2), (3, .int p3), (6, .int l9_6)]) (pc := 79) C dX8_settledNow_79 (by decide) rfl ?_
            refine pb_iinc (v := l9_6 + 1) (lv' := [(6, .int (l9_6 + 1)), (5, .int 1), (4, .int j47_s0), (0, .ref a_t), (1, .int p1), (2, .int p2), (3, .int p3)]) (pc := 81) C dX8_settledNow_81 6 rfl (pb_inc pb_kI_1 rfl) (by decide) rfl ?_
            refine pb_goto (pc := 84) (tgt := 9) C dX8_settledNow_84 (by decide) ?_
            obtain rfl := Option.some.inj hf
            refine pb_sub [3, 4, 5, 6, 2, 1, 0] rfl ?_
            have hl9 := pb_inl hl9
            exact ih9 j47_s0 1 (l9_6 + 1) hl9
          · have hf := pb_pos hf hc51
            refine pb_aload_n (pc := 54) C dX8_settledNow_54 rfl 1 rfl ?_
            refine pb_iload (pc := 55) C dX8_settledNow_55 6 rfl ?_
            obtain ⟨r57, hr57, hf⟩ := pb_bind hf
            refine pb_callV (pc := 57) (n0 := 2) (ws' := (wwX8_settledNow cyB cyI cyJ cyZ cyS a_t a_t_w a_t_isKept a_t_text a_t_refused a_t_numbers a_t_weights c_t_texted c_t_above c_t_below c_t_at c_t_start c_t_isWord c_t_isFigures c_t_all c_t_known c_t_truth c_t_x c_t_h c_t_weights)) (rest := []) (st2 := [.int r57]) C (kcX8_isLeft l dC dI cyB cyI cyJ cyZ cyS a_t a_t_w a_t_isKept a_t_text a_t_refused a_t_numbers a_t_weights c_t_texted c_t_above c_t_below c_t_at c_t_start c_t_isWord c_t_isFigures c_t_all c_t_known c_t_truth c_t_x c_t_h c_t_weights l9_6 r57 hr57) pb_NW_b (pb_NW_x hX) (cwV 1 C.1.2.2.2.2 gX8_settledNow_X8_isLeft rfl rfl rfl kdV_X8_isLeft ⟨Nat.le_of_ble_eq_true rfl, Nat.le_of_ble_eq_true rfl⟩) 0 rfl rfl [0, 1] [] rfl rfl trivial rfl (by decide +kernel) (adl := [a_t, a_t_weights]) rfl rfl rfl rfl rfl (Nat.le_of_ble_eq_true rfl) ⟨Nat.le_refl _, Nat.le_refl _⟩ dX8_settledNow_57 rfl ?_
            refine pb_if_eq (pc := 60) (tgt := 78) C dX8_settledNow_60 (by decide) (fun hc60 => ?_) (fun hc60 => ?_)
            · have hf := pb_pos hf hc60
              refine pb_iconst (v := 0) (pc := 78) C dX8_settledNow_78 pb_kI_0 ?_
              refine pb_istore (lv' := [(5, .int 0), (4, .int j47_s0), (0, .ref a_t), (1, .int p1), (2, .int p2), (3, .int p3), (6, .int l9_6)]) (pc := 79) C dX8_settledNow_79 (by decide) rfl ?_
              refine pb_iinc (v := l9_6 + 1) (lv' := [(6, .int (l9_6 + 1)), (5, .int 0), (4, .int j47_s0), (0, .ref a_t), (1, .int p1), (2, .int p2), (3, .int p3)]) (pc := 81) C dX8_settledNow_81 6 rfl (pb_inc pb_kI_1 rfl) (by decide) rfl ?_
              refine pb_goto (pc := 84) (tgt := 9) C dX8_settledNow_84 (by decide) ?_
              obtain rfl := Option.some.inj hf
              refine pb_sub [3, 4, 5, 6, 2, 1, 0] rfl ?_
              have hl9 := pb_inl hl9
              exact ih9 j47_s0 0 (l9_6 + 1) hl9
            · have hf := pb_neg hf hc60
              refine pb_iload_n (pc := 63) C dX8_settledNow_63 rfl 2 rfl ?_
              refine pb_iload_n (pc := 64) C dX8_settledNow_64 rfl 3 rfl ?_
              refine pb_iload_n (pc := 65) C dX8_settledNow_65 rfl 4 rfl ?_
              refine pb_iload (pc := 66) C dX8_settledNow_66 6 rfl ?_
              obtain ⟨r68, hr68, hf⟩ := pb_bind hf
              refine pb_callS (pc := 68) (n0 := 2) (ws' := (wwX8_settledNow cyB cyI cyJ cyZ cyS a_t a_t_w a_t_isKept a_t_text a_t_refused a_t_numbers a_t_weights c_t_texted c_t_above c_t_below c_t_at c_t_start c_t_isWord c_t_isFigures c_t_all c_t_known c_t_truth c_t_x c_t_h c_t_weights)) (rest := []) (st2 := [.int r68]) C (kcX8_isSo l dC dI cyB cyI cyJ cyZ cyS p1 p2 p3 l9_6 r68 hr68) pb_NW_b (pb_NW_x hX) (va_cwS 4 C.1.2.2.2.2 gX8_settledNow_X8_isSo rfl rfl rfl kdS_X8_isSo ⟨Nat.le_of_ble_eq_true rfl, Nat.le_of_ble_eq_true rfl⟩) [] [0, 1] rfl rfl ⟨⟨_, rfl, rfl⟩, ⟨⟨_, rfl, rfl⟩, trivial⟩⟩ rfl (by decide +kernel) (adl := []) rfl rfl rfl rfl rfl (Nat.le_of_ble_eq_true rfl) ⟨Nat.le_refl _, Nat.le_refl _⟩ dX8_settledNow_68 rfl ?_
              refine pb_if_ne (pc := 71) (tgt := 78) C dX8_settledNow_71 (by decide) (fun hc71 => ?_) (fun hc71 => ?_)
              · have hf := pb_neg hf hc71
                refine pb_iconst (v := 0) (pc := 78) C dX8_settledNow_78 pb_kI_0 ?_
                refine pb_istore (lv' := [(5, .int 0), (4, .int j47_s0), (0, .ref a_t), (1, .int p1), (2, .int p2), (3, .int p3), (6, .int l9_6)]) (pc := 79) C dX8_settledNow_79 (by decide) rfl ?_
                refine pb_iinc (v := l9_6 + 1) (lv' := [(6, .int (l9_6 + 1)), (5, .int 0), (4, .int j47_s0), (0, .ref a_t), (1, .int p1), (2, .int p2), (3, .int p3)]) (pc := 81) C dX8_settledNow_81 6 rfl (pb_inc pb_kI_1 rfl) (by decide) rfl ?_
                refine pb_goto (pc := 84) (tgt := 9) C dX8_settledNow_84 (by decide) ?_
                obtain rfl := Option.some.inj hf
                refine pb_sub [3, 4, 5, 6, 2, 1, 0] rfl ?_
                have hl9 := pb_inl hl9
                exact ih9 j47_s0 0 (l9_6 + 1) hl9
              · have hf := pb_pos hf hc71
                refine pb_iconst (v := 1) (pc := 74) C dX8_settledNow_74 pb_kI_1 ?_
                refine pb_goto (pc := 75) (tgt := 79) C dX8_settledNow_75 (by decide) ?_
                refine pb_istore (lv' := [(5, .int 1), (4, .int j47_s0), (0, .ref a_t), (1, .int p1), (2, .int p2), (3, .int p3), (6, .int l9_6)]) (pc := 79) C dX8_settledNow_79 (by decide) rfl ?_
                refine pb_iinc (v := l9_6 + 1) (lv' := [(6, .int (l9_6 + 1)), (5, .int 1), (4, .int j47_s0), (0, .ref a_t), (1, .int p1), (2, .int p2), (3, .int p3)]) (pc := 81) C dX8_settledNow_81 6 rfl (pb_inc pb_kI_1 rfl) (by decide) rfl ?_
                refine pb_goto (pc := 84) (tgt := 9) C dX8_settledNow_84 (by decide) ?_
                obtain rfl := Option.some.inj hf
                refine pb_sub [3, 4, 5, 6, 2, 1, 0] rfl ?_
                have hl9 := pb_inl hl9
                exact ih9 j47_s0 1 (l9_6 + 1) hl9
        refine pb_if_ne (pc := 19) (tgt := 42) C dX8_settledNow_19 (by decide) (fun hc19 => ?_) (fun hc19 => ?_)
        · have hf := pb_neg hf hc19
          refine pb_iconst (v := 1) (pc := 42) C dX8_settledNow_42 pb_kI_1 ?_
          refine pb_goto (pc := 43) (tgt := 47) C dX8_settledNow_43 (by decide) ?_
          obtain rfl := Option.some.inj hf
          refine pb_sub [0, 1, 2, 3, 5, 6] rfl ?_
          exact J47 1 hk47
        · have hf := pb_pos hf hc19
          refine pb_aload_n (pc := 22) C dX8_settledNow_22 rfl 0 rfl ?_
          refine pb_iload (pc := 23) C dX8_settledNow_23 6 rfl ?_
          obtain ⟨r25, hr25, hf⟩ := pb_bind hf
          refine pb_callV (pc := 25) (n0 := 2) (ws' := (wwX8_settledNow cyB cyI cyJ cyZ cyS a_t a_t_w a_t_isKept a_t_text a_t_refused a_t_numbers a_t_weights c_t_texted c_t_above c_t_below c_t_at c_t_start c_t_isWord c_t_isFigures c_t_all c_t_known c_t_truth c_t_x c_t_h c_t_weights)) (rest := []) (st2 := [.int r25]) C (kcX8_isLeft l dC dI cyB cyI cyJ cyZ cyS a_t a_t_w a_t_isKept a_t_text a_t_refused a_t_numbers a_t_weights c_t_texted c_t_above c_t_below c_t_at c_t_start c_t_isWord c_t_isFigures c_t_all c_t_known c_t_truth c_t_x c_t_h c_t_weights l9_6 r25 hr25) pb_NW_b (pb_NW_x hX) (cwV 1 C.1.2.2.2.2 gX8_settledNow_X8_isLeft rfl rfl rfl kdV_X8_isLeft ⟨Nat.le_of_ble_eq_true rfl, Nat.le_of_ble_eq_true rfl⟩) 0 rfl rfl [0, 1] [] rfl rfl trivial rfl (by decide +kernel) (adl := [a_t, a_t_weights]) rfl rfl rfl rfl rfl (Nat.le_of_ble_eq_true rfl) ⟨Nat.le_refl _, Nat.le_refl _⟩ dX8_settledNow_25 rfl ?_
          refine pb_if_eq (pc := 28) (tgt := 46) C dX8_settledNow_28 (by decide) (fun hc28 => ?_) (fun hc28 => ?_)
          · have hf := pb_pos hf hc28
            refine pb_iconst (v := 0) (pc := 46) C dX8_settledNow_46 pb_kI_0 ?_
            obtain rfl := Option.some.inj hf
            refine pb_sub [0, 1, 2, 3, 5, 6] rfl ?_
            exact J47 0 hk47
          · have hf := pb_neg hf hc28
            refine pb_iload_n (pc := 31) C dX8_settledNow_31 rfl 1 rfl ?_
            refine pb_iload_n (pc := 32) C dX8_settledNow_32 rfl 2 rfl ?_
            refine pb_iload_n (pc := 33) C dX8_settledNow_33 rfl 3 rfl ?_
            refine pb_iload (pc := 34) C dX8_settledNow_34 6 rfl ?_
            obtain ⟨r36, hr36, hf⟩ := pb_bind hf
            refine pb_callS (pc := 36) (n0 := 2) (ws' := (wwX8_settledNow cyB cyI cyJ cyZ cyS a_t a_t_w a_t_isKept a_t_text a_t_refused a_t_numbers a_t_weights c_t_texted c_t_above c_t_below c_t_at c_t_start c_t_isWord c_t_isFigures c_t_all c_t_known c_t_truth c_t_x c_t_h c_t_weights)) (rest := []) (st2 := [.int r36]) C (kcX8_isSo l dC dI cyB cyI cyJ cyZ cyS p1 p2 p3 l9_6 r36 hr36) pb_NW_b (pb_NW_x hX) (va_cwS 4 C.1.2.2.2.2 gX8_settledNow_X8_isSo rfl rfl rfl kdS_X8_isSo ⟨Nat.le_of_ble_eq_true rfl, Nat.le_of_ble_eq_true rfl⟩) [] [0, 1] rfl rfl ⟨⟨_, rfl, rfl⟩, ⟨⟨_, rfl, rfl⟩, trivial⟩⟩ rfl (by decide +kernel) (adl := []) rfl rfl rfl rfl rfl (Nat.le_of_ble_eq_true rfl) ⟨Nat.le_refl _, Nat.le_refl _⟩ dX8_settledNow_36 rfl ?_
            refine pb_if_eq (pc := 39) (tgt := 46) C dX8_settledNow_39 (by decide) (fun hc39 => ?_) (fun hc39 => ?_)
            · have hf := pb_pos hf hc39
              refine pb_iconst (v := 0) (pc := 46) C dX8_settledNow_46 pb_kI_0 ?_
              obtain rfl := Option.some.inj hf
              refine pb_sub [0, 1, 2, 3, 5, 6] rfl ?_
              exact J47 0 hk47
            · have hf := pb_neg hf hc39
              refine pb_iconst (v := 1) (pc := 42) C dX8_settledNow_42 pb_kI_1 ?_
              refine pb_goto (pc := 43) (tgt := 47) C dX8_settledNow_43 (by decide) ?_
              obtain rfl := Option.some.inj hf
              refine pb_sub [0, 1, 2, 3, 5, 6] rfl ?_
              exact J47 1 hk47
  refine pb_sub [3, 4, 5, 6, 2, 1, 0] rfl ?_
  exact L9 pb_FU 0 0 0 hz9
def rmX8_settled : Room := { frames := 4, cells := 0, slots := 0, locals := 96 }
def wwX8_settled (cyB cyI cyJ cyZ cyS : ClassId) (a_t a_t_w a_t_isKept a_t_text a_t_refused a_t_numbers a_t_weights : Nat) (c_t_texted : Int32) (c_t_above : Int64) (c_t_below : Int64) (c_t_at : Int32) (c_t_start : Int32) (c_t_isWord : Int32) (c_t_isFigures : Int32) (c_t_all : Int64) (c_t_known : Int32) (c_t_truth : Int32) (c_t_x : Int64) (c_t_h : Int64) (c_t_w : (Nat → Int32)) (c_t_refused : (Nat → Int32)) (c_t_weights : (Nat → Int64)) : va_W := [(a_t, .inr (8, [.ref a_t_w, .ref a_t_isKept, .ref a_t_text, .int c_t_texted, .ref a_t_refused, .long c_t_above, .long c_t_below, .int c_t_at, .int c_t_start, .int c_t_isWord, .int c_t_isFigures, .ref a_t_numbers, .ref a_t_weights, .long c_t_all, .int c_t_known, .int c_t_truth, .long c_t_x, .long c_t_h])), (a_t_w, .inl (cyI, 1508, .inl c_t_w)), (a_t_refused, .inl (cyI, 3, .inl c_t_refused)), (a_t_weights, .inl (cyJ, 128, .inr (.inl c_t_weights)))]
theorem hnX8_settled_X8 : ∀ w ∈ wsX80, w ∈ wsX8_settled := fun _ h => List.mem_cons_of_mem _ (List.mem_append_right _ h)
set_option maxHeartbeats 4000000 in
set_option maxRecDepth 100000 in
theorem kcX8_settled (l : Launch) (dC : Nat → ClassId) (dI : Nat → Nat → Nat) (cyB cyI cyJ cyZ cyS : ClassId) (a_t a_t_w a_t_isKept a_t_text a_t_refused a_t_numbers a_t_weights : Nat) (c_t_texted : Int32) (c_t_above : Int64) (c_t_below : Int64) (c_t_at : Int32) (c_t_start : Int32) (c_t_isWord : Int32) (c_t_isFigures : Int32) (c_t_all : Int64) (c_t_known : Int32) (c_t_truth : Int32) (c_t_x : Int64) (c_t_h : Int64) (c_t_w : (Nat → Int32)) (c_t_refused : (Nat → Int32)) (c_t_weights : (Nat → Int64)) (p1 : Int32) (p2 : Int32) (p3 : Int32) (out : (Int32 × Int64 × Int32 × (Nat → Int32) × (Nat → Int64))) (hf : fX8_settled c_t_all c_t_known c_t_truth c_t_w c_t_refused c_t_weights p1 p2 p3 = some out) : pb_K l yX8_settled wsX8_settled rmX8_settled (dC, dI) vwCl (pb_tys cyB cyI cyJ cyZ cyS) pb_NW [.ref a_t, .int p1, .int p2, .int p3] (wwX8_settled cyB cyI cyJ cyZ cyS a_t a_t_w a_t_isKept a_t_text a_t_refused a_t_numbers a_t_weights c_t_texted c_t_above c_t_below c_t_at c_t_start c_t_isWord c_t_isFigures c_t_all c_t_known c_t_truth c_t_x c_t_h c_t_w c_t_refused c_t_weights) (wwX8_settled cyB cyI cyJ cyZ cyS a_t a_t_w a_t_isKept a_t_text a_t_refused a_t_numbers a_t_weights c_t_texted c_t_above c_t_below c_t_at c_t_start c_t_isWord c_t_isFigures out.2.1 out.2.2.1 c_t_truth c_t_x c_t_h c_t_w out.2.2.2.1 out.2.2.2.2) (some (.int out.1)) := by
  unfold fX8_settled at hf
  refine pb_K.ofV (cc := cX8_settled) (maxL := 4) (ret := (some .int)) (lv0 := [(0, .ref a_t), (1, .int p1), (2, .int p2), (3, .int p3)]) (by decide) rfl (Nat.le_of_ble_eq_true rfl) rfl ?_
  intro p e s m below meth c A C hX hr hlk hA
  refine pb_iload_n (pc := 0) C dX8_settled_0 rfl 1 rfl ?_
  refine pb_iload_n (pc := 1) C dX8_settled_1 rfl 2 rfl ?_
  refine pb_iload_n (pc := 2) C dX8_settled_2 rfl 3 rfl ?_
  obtain ⟨r3, hr3, hf⟩ := pb_bind hf
  refine pb_callS (pc := 3) (n0 := 4) (ws' := (wwX8_settled cyB cyI cyJ cyZ cyS a_t a_t_w a_t_isKept a_t_text a_t_refused a_t_numbers a_t_weights c_t_texted c_t_above c_t_below c_t_at c_t_start c_t_isWord c_t_isFigures c_t_all c_t_known c_t_truth c_t_x c_t_h c_t_w c_t_refused c_t_weights)) (rest := []) (st2 := [.int r3]) C (kcX8_isClaim l dC dI cyB cyI cyJ cyZ cyS p1 p2 p3 r3 hr3) pb_NW_b (pb_NW_x hX) (va_cwS 3 C.1.2.2.2.2 gX8_settled_X8_isClaim rfl rfl rfl kdS_X8_isClaim ⟨Nat.le_of_ble_eq_true rfl, Nat.le_of_ble_eq_true rfl⟩) [] [0, 1, 2, 3] rfl rfl ⟨⟨_, rfl, rfl⟩, ⟨⟨_, rfl, rfl⟩, ⟨⟨_, rfl, rfl⟩, ⟨⟨_, rfl, rfl⟩, trivial⟩⟩⟩⟩ rfl (by decide +kernel) (adl := []) rfl rfl rfl rfl rfl (Nat.le_of_ble_eq_true rfl) ⟨Nat.le_refl _, Nat.le_refl _⟩ dX8_settled_3 rfl ?_
  refine pb_if_ne (pc := 6) (tgt := 14) C dX8_settled_6 (by decide) (fun hc6 => ?_) (fun hc6 => ?_)
  · have hf := pb_neg hf hc6
    refine pb_aload_n (pc := 14) C dX8_settled_14 rfl 0 rfl ?_
    refine pb_iconst (v := 0) (pc := 15) C dX8_settled_15 pb_kI_0 ?_
    obtain ⟨r16, hr16, hf⟩ := pb_bind hf
    refine pb_callV (pc := 16) (n0 := 4) (ws' := (wwX8_settled cyB cyI cyJ cyZ cyS a_t a_t_w a_t_isKept a_t_text a_t_refused a_t_numbers a_t_weights c_t_texted c_t_above c_t_below c_t_at c_t_start c_t_isWord c_t_isFigures r16.1 c_t_known c_t_truth c_t_x c_t_h c_t_w c_t_refused r16.2)) (rest := []) (st2 := []) C (kcX8_weighAll l dC dI cyB cyI cyJ cyZ cyS a_t a_t_w a_t_isKept a_t_text a_t_refused a_t_numbers a_t_weights c_t_texted c_t_above c_t_below c_t_at c_t_start c_t_isWord c_t_isFigures c_t_all c_t_known c_t_truth c_t_x c_t_h c_t_w c_t_weights 0 r16 hr16) pb_NW_b (pb_NW_x hX) (cwV 1 C.1.2.2.2.2 gX8_settled_X8_weighAll rfl rfl rfl kdV_X8_weighAll ⟨Nat.le_of_ble_eq_true rfl, Nat.le_of_ble_eq_true rfl⟩) 0 rfl rfl [0, 1, 3] [2] rfl rfl ⟨⟨_, rfl, rfl⟩, trivial⟩ rfl (by decide +kernel) (adl := [a_t, a_t_w, a_t_weights]) rfl rfl rfl rfl rfl (Nat.le_of_ble_eq_true rfl) ⟨Nat.le_refl _, Nat.le_refl _⟩ dX8_settled_16 rfl ?_
    refine pb_aload_n (pc := 19) C dX8_settled_19 rfl 0 rfl ?_
    refine pb_iconst (v := 0) (pc := 20) C dX8_settled_20 pb_kI_0 ?_
    refine pb_put (pc := 21) (ws' := (wwX8_settled cyB cyI cyJ cyZ cyS a_t a_t_w a_t_isKept a_t_text a_t_refused a_t_numbers a_t_weights c_t_texted c_t_above c_t_below c_t_at c_t_start c_t_isWord c_t_isFigures r16.1 0 c_t_truth c_t_x c_t_h c_t_w c_t_refused r16.2)) C hnX8_settled_X8 tyX8 tyX8_ok nmX8 0 rfl rfl 14 (by decide) (List.mem_of_getElem? (i := 1) rfl) rfl rfl rfl rfl (Nat.le_of_ble_eq_true rfl) rfl dX8_settled_21 ?_
    refine pb_aload_n (pc := 24) C dX8_settled_24 rfl 0 rfl ?_
    refine pb_iload_n (pc := 25) C dX8_settled_25 rfl 1 rfl ?_
    refine pb_iload_n (pc := 26) C dX8_settled_26 rfl 2 rfl ?_
    refine pb_iload_n (pc := 27) C dX8_settled_27 rfl 3 rfl ?_
    obtain ⟨r28, hr28, hf⟩ := pb_bind hf
    refine pb_callV (pc := 28) (n0 := 4) (ws' := (wwX8_settled cyB cyI cyJ cyZ cyS a_t a_t_w a_t_isKept a_t_text a_t_refused a_t_numbers a_t_weights c_t_texted c_t_above c_t_below c_t_at c_t_start c_t_isWord c_t_isFigures r16.1 0 c_t_truth c_t_x c_t_h c_t_w c_t_refused r16.2)) (rest := []) (st2 := [.int r28]) C (kcX8_settledNow l dC dI cyB cyI cyJ cyZ cyS a_t a_t_w a_t_isKept a_t_text a_t_refused a_t_numbers a_t_weights c_t_texted c_t_above c_t_below c_t_at c_t_start c_t_isWord c_t_isFigures r16.1 0 c_t_truth c_t_x c_t_h r16.2 p1 p2 p3 r28 hr28) pb_NW_b (pb_NW_x hX) (cwV 3 C.1.2.2.2.2 gX8_settled_X8_settledNow rfl rfl rfl kdV_X8_settledNow ⟨Nat.le_of_ble_eq_true rfl, Nat.le_of_ble_eq_true rfl⟩) 0 rfl rfl [0, 3] [1, 2] rfl rfl ⟨⟨_, rfl, rfl⟩, ⟨⟨_, rfl, rfl⟩, trivial⟩⟩ rfl (by decide +kernel) (adl := [a_t, a_t_weights]) rfl rfl rfl rfl rfl (Nat.le_of_ble_eq_true rfl) ⟨Nat.le_refl _, Nat.le_refl _⟩ dX8_settled_28 rfl ?_
    obtain rfl := Option.some.inj hf
    exact pb_iret (pc := 31) C hr hlk hA dX8_settled_31
  · have hf := pb_pos hf hc6
    refine pb_aload_n (pc := 9) C dX8_settled_9 rfl 0 rfl ?_
    obtain ⟨r10, hr10, hf⟩ := pb_bind hf
    refine pb_callV (pc := 10) (n0 := 4) (ws' := (wwX8_settled cyB cyI cyJ cyZ cyS a_t a_t_w a_t_isKept a_t_text a_t_refused a_t_numbers a_t_weights c_t_texted c_t_above c_t_below c_t_at c_t_start c_t_isWord c_t_isFigures c_t_all c_t_known c_t_truth c_t_x c_t_h c_t_w r10.2 c_t_weights)) (rest := []) (st2 := [.int r10.1]) C (kcX8_bad l dC dI cyB cyI cyJ cyZ cyS a_t a_t_w a_t_isKept a_t_text a_t_refused a_t_numbers a_t_weights c_t_texted c_t_above c_t_below c_t_at c_t_start c_t_isWord c_t_isFigures c_t_all c_t_known c_t_truth c_t_x c_t_h c_t_refused r10 hr10) pb_NW_b (pb_NW_x hX) (cwV 0 C.1.2.2.2.2 gX8_settled_X8_bad rfl rfl rfl kdV_X8_bad ⟨Nat.le_of_ble_eq_true rfl, Nat.le_of_ble_eq_true rfl⟩) 0 rfl rfl [0, 2] [1, 3] rfl rfl ⟨⟨_, rfl, rfl⟩, ⟨⟨_, rfl, rfl⟩, trivial⟩⟩ rfl (by decide +kernel) (adl := [a_t, a_t_refused]) rfl rfl rfl rfl rfl (Nat.le_of_ble_eq_true rfl) ⟨Nat.le_refl _, Nat.le_refl _⟩ dX8_settled_10 rfl ?_
    obtain rfl := Option.some.inj hf
    exact pb_iret (pc := 13) C hr hlk hA dX8_settled_13
def rmX8_tells : Room := { frames := 0, cells := 0, slots := 0, locals := 0 }
def wwX8_tells (cyB cyI cyJ cyZ cyS : ClassId) (a_t a_t_w a_t_isKept a_t_text a_t_refused a_t_numbers a_t_weights : Nat) (c_t_texted : Int32) (c_t_above : Int64) (c_t_below : Int64) (c_t_at : Int32) (c_t_start : Int32) (c_t_isWord : Int32) (c_t_isFigures : Int32) (c_t_all : Int64) (c_t_known : Int32) (c_t_truth : Int32) (c_t_x : Int64) (c_t_h : Int64) : va_W := [(a_t, .inr (8, [.ref a_t_w, .ref a_t_isKept, .ref a_t_text, .int c_t_texted, .ref a_t_refused, .long c_t_above, .long c_t_below, .int c_t_at, .int c_t_start, .int c_t_isWord, .int c_t_isFigures, .ref a_t_numbers, .ref a_t_weights, .long c_t_all, .int c_t_known, .int c_t_truth, .long c_t_x, .long c_t_h]))]
theorem hnX8_tells_X8 : ∀ w ∈ wsX80, w ∈ wsX8_tells := fun _ h => List.mem_cons_of_mem _ (List.mem_append_right _ h)
set_option maxHeartbeats 4000000 in
set_option maxRecDepth 100000 in
theorem kcX8_tells (l : Launch) (dC : Nat → ClassId) (dI : Nat → Nat → Nat) (cyB cyI cyJ cyZ cyS : ClassId) (a_t a_t_w a_t_isKept a_t_text a_t_refused a_t_numbers a_t_weights : Nat) (c_t_texted : Int32) (c_t_above : Int64) (c_t_below : Int64) (c_t_at : Int32) (c_t_start : Int32) (c_t_isWord : Int32) (c_t_isFigures : Int32) (c_t_all : Int64) (c_t_known : Int32) (c_t_truth : Int32) (c_t_x : Int64) (c_t_h : Int64) (p1 : Int64) (p2 : Int64) (out : (Int32 × Int64 × Int64)) (hf : fX8_tells c_t_above c_t_below p1 p2 = some out) : pb_K l yX8_tells wsX8_tells rmX8_tells (dC, dI) vwCl (pb_tys cyB cyI cyJ cyZ cyS) pb_NW [.ref a_t, .long p1, .long p2] (wwX8_tells cyB cyI cyJ cyZ cyS a_t a_t_w a_t_isKept a_t_text a_t_refused a_t_numbers a_t_weights c_t_texted c_t_above c_t_below c_t_at c_t_start c_t_isWord c_t_isFigures c_t_all c_t_known c_t_truth c_t_x c_t_h) (wwX8_tells cyB cyI cyJ cyZ cyS a_t a_t_w a_t_isKept a_t_text a_t_refused a_t_numbers a_t_weights c_t_texted out.2.1 out.2.2 c_t_at c_t_start c_t_isWord c_t_isFigures c_t_all c_t_known c_t_truth c_t_x c_t_h) (some (.int out.1)) := by
  unfold fX8_tells at hf
  refine pb_K.ofV (cc := cX8_tells) (maxL := 11) (ret := (some .int)) (lv0 := [(0, .ref a_t), (1, .long p1), (3, .long p2)]) (by decide) rfl (Nat.le_of_ble_eq_true rfl) rfl ?_
  intro p e s m below meth c A C hX hr hlk hA
  refine pb_lload_n (pc := 0) C dX8_tells_0 rfl 1 rfl ?_
  refine pb_lconst (v := 0) (pc := 1) C dX8_tells_1 pb_kL_0 ?_
  obtain ⟨y12, hf, hk12⟩ := pb_bind hf
  have J12 : ∀ (j12_s0 : Int64), fX8_tells_J12 p1 p2 j12_s0 = some out → pb_V p l e rmX8_tells s m (([.ref a_t, .long p1, .long p2] : List Value).toArray) below meth c 11 (dC, dI) vwCl A 0 0 (pb_MQ below (([.ref a_t, .long p1, .long p2] : List Value).toArray) s (dC, dI) vwCl (wwX8_tells cyB cyI cyJ cyZ cyS a_t a_t_w a_t_isKept a_t_text a_t_refused a_t_numbers a_t_weights c_t_texted c_t_above c_t_below c_t_at c_t_start c_t_isWord c_t_isFigures c_t_all c_t_known c_t_truth c_t_x c_t_h) (wwX8_tells cyB cyI cyJ cyZ cyS a_t a_t_w a_t_isKept a_t_text a_t_refused a_t_numbers a_t_weights c_t_texted out.2.1 out.2.2 c_t_at c_t_start c_t_isWord c_t_isFigures c_t_all c_t_known c_t_truth c_t_x c_t_h) (some (.int out.1)) A) (wwX8_tells cyB cyI cyJ cyZ cyS a_t a_t_w a_t_isKept a_t_text a_t_refused a_t_numbers a_t_weights c_t_texted c_t_above c_t_below c_t_at c_t_start c_t_isWord c_t_isFigures c_t_all c_t_known c_t_truth c_t_x c_t_h) [(0, .ref a_t), (1, .long p1), (3, .long p2)] [.long j12_s0] 12 := by
    intro j12_s0 hf
    unfold fX8_tells_J12 at hf
    refine pb_lstore (lv' := [(5, .long j12_s0), (0, .ref a_t), (1, .long p1), (3, .long p2)]) (pc := 12) C dX8_tells_12 (by decide) rfl ?_
    refine pb_lload_n (pc := 14) C dX8_tells_14 rfl 3 rfl ?_
    refine pb_lstore (lv' := [(7, .long p2), (5, .long j12_s0), (0, .ref a_t), (1, .long p1), (3, .long p2)]) (pc := 15) C dX8_tells_15 (by decide) rfl ?_
    obtain ⟨z17, hz17, hk17⟩ := pb_bind hf
    have E17 : ∀ (e17_5 : Int64) (e17_7 : Int64), fX8_tells_E17 p1 p2 e17_5 e17_7 = some out → pb_V p l e rmX8_tells s m (([.ref a_t, .long p1, .long p2] : List Value).toArray) below meth c 11 (dC, dI) vwCl A 0 0 (pb_MQ below (([.ref a_t, .long p1, .long p2] : List Value).toArray) s (dC, dI) vwCl (wwX8_tells cyB cyI cyJ cyZ cyS a_t a_t_w a_t_isKept a_t_text a_t_refused a_t_numbers a_t_weights c_t_texted c_t_above c_t_below c_t_at c_t_start c_t_isWord c_t_isFigures c_t_all c_t_known c_t_truth c_t_x c_t_h) (wwX8_tells cyB cyI cyJ cyZ cyS a_t a_t_w a_t_isKept a_t_text a_t_refused a_t_numbers a_t_weights c_t_texted out.2.1 out.2.2 c_t_at c_t_start c_t_isWord c_t_isFigures c_t_all c_t_known c_t_truth c_t_x c_t_h) (some (.int out.1)) A) (wwX8_tells cyB cyI cyJ cyZ cyS a_t a_t_w a_t_isKept a_t_text a_t_refused a_t_numbers a_t_weights c_t_texted c_t_above c_t_below c_t_at c_t_start c_t_isWord c_t_isFigures c_t_all c_t_known c_t_truth c_t_x c_t_h) [(0, .ref a_t), (1, .long p1), (3, .long p2), (5, .long e17_5)] [] 42 := by
      intro e17_5 e17_7 hf
      unfold fX8_tells_E17 at hf
      refine pb_aload_n (pc := 42) C dX8_tells_42 rfl 0 rfl ?_
      refine pb_lload_n (pc := 43) C dX8_tells_43 rfl 1 rfl ?_
      refine pb_lload (pc := 44) C dX8_tells_44 3 rfl ?_
      obtain ⟨g46, hf⟩ := pb_grd hf
      refine pb_ldiv (pc := 46) C dX8_tells_46 g46 ?_
      obtain ⟨x47, ex47, hf⟩ := pb_bind hf
      have ex47 := Option.some.inj ex47
      refine pb_topl ex47 ?_
      refine pb_put (pc := 47) (ws' := (wwX8_tells cyB cyI cyJ cyZ cyS a_t a_t_w a_t_isKept a_t_text a_t_refused a_t_numbers a_t_weights c_t_texted x47 c_t_below c_t_at c_t_start c_t_isWord c_t_isFigures c_t_all c_t_known c_t_truth c_t_x c_t_h)) C hnX8_tells_X8 tyX8 tyX8_ok nmX8 0 rfl rfl 5 (by decide) (List.mem_of_getElem? (i := 1) rfl) rfl rfl rfl rfl (Nat.le_of_ble_eq_true rfl) rfl dX8_tells_47 ?_
      refine pb_aload_n (pc := 50) C dX8_tells_50 rfl 0 rfl ?_
      refine pb_lload_n (pc := 51) C dX8_tells_51 rfl 2 rfl ?_
      refine pb_lload (pc := 52) C dX8_tells_52 3 rfl ?_
      obtain ⟨g54, hf⟩ := pb_grd hf
      refine pb_ldiv (pc := 54) C dX8_tells_54 g54 ?_
      obtain ⟨x55, ex55, hf⟩ := pb_bind hf
      have ex55 := Option.some.inj ex55
      refine pb_topl ex55 ?_
      refine pb_put (pc := 55) (ws' := (wwX8_tells cyB cyI cyJ cyZ cyS a_t a_t_w a_t_isKept a_t_text a_t_refused a_t_numbers a_t_weights c_t_texted x47 x55 c_t_at c_t_start c_t_isWord c_t_isFigures c_t_all c_t_known c_t_truth c_t_x c_t_h)) C hnX8_tells_X8 tyX8 tyX8_ok nmX8 0 rfl rfl 6 (by decide) (List.mem_of_getElem? (i := 2) rfl) rfl rfl rfl rfl (Nat.le_of_ble_eq_true rfl) rfl dX8_tells_55 ?_
      refine pb_iconst (v := 1) (pc := 58) C dX8_tells_58 pb_kI_1 ?_
      obtain rfl := Option.some.inj hf
      exact pb_iret (pc := 59) C hr hlk hA dX8_tells_59
    have L17 : ∀ (n : Nat) (l17_5 : Int64) (l17_7 : Int64), pb_lp (fun y => fX8_tells_L17 y.1 y.2) n (l17_5, l17_7) = some z17 → pb_V p l e rmX8_tells s m (([.ref a_t, .long p1, .long p2] : List Value).toArray) below meth c 11 (dC, dI) vwCl A 0 0 (pb_MQ below (([.ref a_t, .long p1, .long p2] : List Value).toArray) s (dC, dI) vwCl (wwX8_tells cyB cyI cyJ cyZ cyS a_t a_t_w a_t_isKept a_t_text a_t_refused a_t_numbers a_t_weights c_t_texted c_t_above c_t_below c_t_at c_t_start c_t_isWord c_t_isFigures c_t_all c_t_known c_t_truth c_t_x c_t_h) (wwX8_tells cyB cyI cyJ cyZ cyS a_t a_t_w a_t_isKept a_t_text a_t_refused a_t_numbers a_t_weights c_t_texted out.2.1 out.2.2 c_t_at c_t_start c_t_isWord c_t_isFigures c_t_all c_t_known c_t_truth c_t_x c_t_h) (some (.int out.1)) A) (wwX8_tells cyB cyI cyJ cyZ cyS a_t a_t_w a_t_isKept a_t_text a_t_refused a_t_numbers a_t_weights c_t_texted c_t_above c_t_below c_t_at c_t_start c_t_isWord c_t_isFigures c_t_all c_t_known c_t_truth c_t_x c_t_h) [(0, .ref a_t), (1, .long p1), (3, .long p2), (5, .long l17_5), (7, .long l17_7)] [] 17 := by
      intro n
      induction n with
      | zero => intro l17_5 l17_7 hf; exact (pb_lp_zero hf).elim
      | succ n ih17 =>
        intro l17_5 l17_7 hf
        obtain ⟨y17, hf, hl17⟩ := pb_lp_succ hf
        have hf : fX8_tells_L17 l17_5 l17_7 = some y17 := hf
        unfold fX8_tells_L17 at hf
        refine pb_lload (pc := 17) C dX8_tells_17 4 rfl ?_
        refine pb_lconst (v := 0) (pc := 19) C dX8_tells_19 pb_kL_0 ?_
        refine pb_lif_eq (pc := 20) (tgt := 42) C dX8_tells_20 dX8_tells_21 (by decide) (fun hc20 => ?_) (fun hc20 => ?_)
        · have hf := pb_pos hf hc20
          obtain rfl := Option.some.inj hf
          obtain rfl := pb_esc hl17
          refine pb_sub [0, 1, 2, 3] rfl ?_
          exact E17 l17_5 l17_7 hk17
        · have hf := pb_neg hf hc20
          refine pb_lload (pc := 24) C dX8_tells_24 3 rfl ?_
          refine pb_lload (pc := 26) C dX8_tells_26 4 rfl ?_
          obtain ⟨g28, hf⟩ := pb_grd hf
          refine pb_lrem (pc := 28) C dX8_tells_28 g28 ?_
          obtain ⟨x29, ex29, hf⟩ := pb_bind hf
          have ex29 := Option.some.inj ex29
          refine pb_topl ex29 ?_
          refine pb_lstore (lv' := [(9, .long x29), (0, .ref a_t), (1, .long p1), (3, .long p2), (5, .long l17_5), (7, .long l17_7)]) (pc := 29) C dX8_tells_29 (by decide) rfl ?_
          refine pb_lload (pc := 31) C dX8_tells_31 5 rfl ?_
          refine pb_lstore (lv' := [(5, .long l17_7), (9, .long x29), (0, .ref a_t), (1, .long p1), (3, .long p2), (7, .long l17_7)]) (pc := 33) C dX8_tells_33 (by decide) rfl ?_
          refine pb_lload (pc := 35) C dX8_tells_35 1 rfl ?_
          refine pb_lstore (lv' := [(7, .long x29), (5, .long l17_7), (9, .long x29), (0, .ref a_t), (1, .long p1), (3, .long p2)]) (pc := 37) C dX8_tells_37 (by decide) rfl ?_
          refine pb_goto (pc := 39) (tgt := 17) C dX8_tells_39 (by decide) ?_
          obtain rfl := Option.some.inj hf
          refine pb_sub [3, 4, 5, 1, 0] rfl ?_
          have hl17 := pb_inl hl17
          exact ih17 l17_7 x29 hl17
    refine pb_sub [2, 3, 4, 1, 0] rfl ?_
    exact L17 pb_FU j12_s0 p2 hz17
  refine pb_lif_ge (pc := 2) (tgt := 11) C dX8_tells_2 dX8_tells_3 (by decide) (fun hc2 => ?_) (fun hc2 => ?_)
  · have hf := pb_pos hf hc2
    refine pb_lload_n (pc := 11) C dX8_tells_11 rfl 1 rfl ?_
    obtain rfl := Option.some.inj hf
    exact J12 p1 hk12
  · have hf := pb_neg hf hc2
    refine pb_lload_n (pc := 6) C dX8_tells_6 rfl 1 rfl ?_
    refine pb_lneg (pc := 7) C dX8_tells_7 ?_
    refine pb_goto (pc := 8) (tgt := 12) C dX8_tells_8 (by decide) ?_
    obtain rfl := Option.some.inj hf
    exact J12 (-p1) hk12
def rmX8_weightOf : Room := { frames := 2, cells := 0, slots := 0, locals := 46 }
def wwX8_weightOf (cyB cyI cyJ cyZ cyS : ClassId) (a_t a_t_w a_t_isKept a_t_text a_t_refused a_t_numbers a_t_weights : Nat) (c_t_texted : Int32) (c_t_above : Int64) (c_t_below : Int64) (c_t_at : Int32) (c_t_start : Int32) (c_t_isWord : Int32) (c_t_isFigures : Int32) (c_t_all : Int64) (c_t_known : Int32) (c_t_truth : Int32) (c_t_x : Int64) (c_t_h : Int64) (c_t_weights : (Nat → Int64)) : va_W := [(a_t, .inr (8, [.ref a_t_w, .ref a_t_isKept, .ref a_t_text, .int c_t_texted, .ref a_t_refused, .long c_t_above, .long c_t_below, .int c_t_at, .int c_t_start, .int c_t_isWord, .int c_t_isFigures, .ref a_t_numbers, .ref a_t_weights, .long c_t_all, .int c_t_known, .int c_t_truth, .long c_t_x, .long c_t_h])), (a_t_weights, .inl (cyJ, 128, .inr (.inl c_t_weights)))]
theorem hnX8_weightOf_X8 : ∀ w ∈ wsX80, w ∈ wsX8_weightOf := fun _ h => List.mem_cons_of_mem _ (List.mem_append_right _ h)
set_option maxHeartbeats 4000000 in
set_option maxRecDepth 100000 in
theorem kcX8_weightOf (l : Launch) (dC : Nat → ClassId) (dI : Nat → Nat → Nat) (cyB cyI cyJ cyZ cyS : ClassId) (a_t a_t_w a_t_isKept a_t_text a_t_refused a_t_numbers a_t_weights : Nat) (c_t_texted : Int32) (c_t_above : Int64) (c_t_below : Int64) (c_t_at : Int32) (c_t_start : Int32) (c_t_isWord : Int32) (c_t_isFigures : Int32) (c_t_all : Int64) (c_t_known : Int32) (c_t_truth : Int32) (c_t_x : Int64) (c_t_h : Int64) (c_t_weights : (Nat → Int64)) (p1 : Int32) (p2 : Int32) (p3 : Int32) (out : Int64) (hf : fX8_weightOf c_t_weights p1 p2 p3 = some out) : pb_K l yX8_weightOf wsX8_weightOf rmX8_weightOf (dC, dI) vwCl (pb_tys cyB cyI cyJ cyZ cyS) pb_NW [.ref a_t, .int p1, .int p2, .int p3] (wwX8_weightOf cyB cyI cyJ cyZ cyS a_t a_t_w a_t_isKept a_t_text a_t_refused a_t_numbers a_t_weights c_t_texted c_t_above c_t_below c_t_at c_t_start c_t_isWord c_t_isFigures c_t_all c_t_known c_t_truth c_t_x c_t_h c_t_weights) (wwX8_weightOf cyB cyI cyJ cyZ cyS a_t a_t_w a_t_isKept a_t_text a_t_refused a_t_numbers a_t_weights c_t_texted c_t_above c_t_below c_t_at c_t_start c_t_isWord c_t_isFigures c_t_all c_t_known c_t_truth c_t_x c_t_h c_t_weights) (some (.long out)) := by
  unfold fX8_weightOf at hf
  refine pb_K.ofV (cc := cX8_weightOf) (maxL := 7) (ret := (some .long)) (lv0 := [(0, .ref a_t), (1, .int p1), (2, .int p2), (3, .int p3)]) (by decide) rfl (Nat.le_of_ble_eq_true rfl) rfl ?_
  intro p e s m below meth c A C hX hr hlk hA
  refine pb_lconst (v := 0) (pc := 0) C dX8_weightOf_0 pb_kL_0 ?_
  refine pb_lstore (lv' := [(4, .long 0), (0, .ref a_t), (1, .int p1), (2, .int p2), (3, .int p3)]) (pc := 1) C dX8_weightOf_1 (by decide) rfl ?_
  refine pb_iconst (v := 0) (pc := 3) C dX8_weightOf_3 pb_kI_0 ?_
  refine pb_istore (lv' := [(6, .int 0), (4, .long 0), (0, .ref a_t), (1, .int p1), (2, .int p2), (3, .int p3)]) (pc := 4) C dX8_weightOf_4 (by decide) rfl ?_
  obtain ⟨z6, hz6, hk6⟩ := pb_bind hf
  have E6 : ∀ (e6_4 : Int64) (e6_6 : Int32), fX8_weightOf_E6 e6_4 e6_6 = some out → pb_V p l e rmX8_weightOf s m (([.ref a_t, .int p1, .int p2, .int p3] : List Value).toArray) below meth c 7 (dC, dI) vwCl A 0 0 (pb_MQ below (([.ref a_t, .int p1, .int p2, .int p3] : List Value).toArray) s (dC, dI) vwCl (wwX8_weightOf cyB cyI cyJ cyZ cyS a_t a_t_w a_t_isKept a_t_text a_t_refused a_t_numbers a_t_weights c_t_texted c_t_above c_t_below c_t_at c_t_start c_t_isWord c_t_isFigures c_t_all c_t_known c_t_truth c_t_x c_t_h c_t_weights) (wwX8_weightOf cyB cyI cyJ cyZ cyS a_t a_t_w a_t_isKept a_t_text a_t_refused a_t_numbers a_t_weights c_t_texted c_t_above c_t_below c_t_at c_t_start c_t_isWord c_t_isFigures c_t_all c_t_known c_t_truth c_t_x c_t_h c_t_weights) (some (.long out)) A) (wwX8_weightOf cyB cyI cyJ cyZ cyS a_t a_t_w a_t_isKept a_t_text a_t_refused a_t_numbers a_t_weights c_t_texted c_t_above c_t_below c_t_at c_t_start c_t_isWord c_t_isFigures c_t_all c_t_known c_t_truth c_t_x c_t_h c_t_weights) [(4, .long e6_4)] [] 47 := by
    intro e6_4 e6_6 hf
    unfold fX8_weightOf_E6 at hf
    refine pb_lload (pc := 47) C dX8_weightOf_47 0 rfl ?_
    obtain rfl := Option.some.inj hf
    exact pb_lret (pc := 49) C hr hlk hA dX8_weightOf_49
  have L6 : ∀ (n : Nat) (l6_4 : Int64) (l6_6 : Int32), pb_lp (fun y => fX8_weightOf_L6 c_t_weights p1 p2 p3 y.1 y.2) n (l6_4, l6_6) = some z6 → pb_V p l e rmX8_weightOf s m (([.ref a_t, .int p1, .int p2, .int p3] : List Value).toArray) below meth c 7 (dC, dI) vwCl A 0 0 (pb_MQ below (([.ref a_t, .int p1, .int p2, .int p3] : List Value).toArray) s (dC, dI) vwCl (wwX8_weightOf cyB cyI cyJ cyZ cyS a_t a_t_w a_t_isKept a_t_text a_t_refused a_t_numbers a_t_weights c_t_texted c_t_above c_t_below c_t_at c_t_start c_t_isWord c_t_isFigures c_t_all c_t_known c_t_truth c_t_x c_t_h c_t_weights) (wwX8_weightOf cyB cyI cyJ cyZ cyS a_t a_t_w a_t_isKept a_t_text a_t_refused a_t_numbers a_t_weights c_t_texted c_t_above c_t_below c_t_at c_t_start c_t_isWord c_t_isFigures c_t_all c_t_known c_t_truth c_t_x c_t_h c_t_weights) (some (.long out)) A) (wwX8_weightOf cyB cyI cyJ cyZ cyS a_t a_t_w a_t_isKept a_t_text a_t_refused a_t_numbers a_t_weights c_t_texted c_t_above c_t_below c_t_at c_t_start c_t_isWord c_t_isFigures c_t_all c_t_known c_t_truth c_t_x c_t_h c_t_weights) [(0, .ref a_t), (1, .int p1), (2, .int p2), (3, .int p3), (4, .long l6_4), (6, .int l6_6)] [] 6 := by
    intro n
    induction n with
    | zero => intro l6_4 l6_6 hf; exact (pb_lp_zero hf).elim
    | succ n ih6 =>
      intro l6_4 l6_6 hf
      obtain ⟨y6, hf, hl6⟩ := pb_lp_succ hf
      have hf : fX8_weightOf_L6 c_t_weights p1 p2 p3 l6_4 l6_6 = some y6 := hf
      unfold fX8_weightOf_L6 at hf
      refine pb_iload (pc := 6) C dX8_weightOf_6 5 rfl ?_
      refine pb_sipush (v := 128) (pc := 8) C dX8_weightOf_8 pb_kS_128 ?_
      refine pb_icmp_ge (pc := 11) (tgt := 47) C dX8_weightOf_11 (by decide) (fun hc11 => ?_) (fun hc11 => ?_)
      · have hf := pb_pos hf hc11
        obtain rfl := Option.some.inj hf
        obtain rfl := pb_esc hl6
        refine pb_sub [4] rfl ?_
        exact E6 l6_4 l6_6 hk6
      · have hf := pb_neg hf hc11
        refine pb_lload (pc := 14) C dX8_weightOf_14 4 rfl ?_
        refine pb_iload_n (pc := 16) C dX8_weightOf_16 rfl 1 rfl ?_
        refine pb_iload_n (pc := 17) C dX8_weightOf_17 rfl 2 rfl ?_
        refine pb_iload_n (pc := 18) C dX8_weightOf_18 rfl 3 rfl ?_
        refine pb_iload (pc := 19) C dX8_weightOf_19 5 rfl ?_
        obtain ⟨r21, hr21, hf⟩ := pb_bind hf
        refine pb_callS (pc := 21) (n0 := 2) (ws' := (wwX8_weightOf cyB cyI cyJ cyZ cyS a_t a_t_w a_t_isKept a_t_text a_t_refused a_t_numbers a_t_weights c_t_texted c_t_above c_t_below c_t_at c_t_start c_t_isWord c_t_isFigures c_t_all c_t_known c_t_truth c_t_x c_t_h c_t_weights)) (rest := [.long l6_4]) (st2 := [.int r21, .long l6_4]) C (kcX8_isSo l dC dI cyB cyI cyJ cyZ cyS p1 p2 p3 l6_6 r21 hr21) pb_NW_b (pb_NW_x hX) (va_cwS 4 C.1.2.2.2.2 gX8_weightOf_X8_isSo rfl rfl rfl kdS_X8_isSo ⟨Nat.le_of_ble_eq_true rfl, Nat.le_of_ble_eq_true rfl⟩) [] [0, 1] rfl rfl ⟨⟨_, rfl, rfl⟩, ⟨⟨_, rfl, rfl⟩, trivial⟩⟩ rfl (by decide +kernel) (adl := []) rfl rfl rfl rfl rfl (Nat.le_of_ble_eq_true rfl) ⟨Nat.le_refl _, Nat.le_refl _⟩ dX8_weightOf_21 rfl ?_
        refine pb_if_eq (pc := 24) (tgt := 37) C dX8_weightOf_24 (by decide) (fun hc24 => ?_) (fun hc24 => ?_)
        · have hf := pb_pos hf hc24
          refine pb_lconst (v := 0) (pc := 37) C dX8_weightOf_37 pb_kL_0 ?_
          refine pb_ladd (pc := 38) C dX8_weightOf_38 ?_
          obtain ⟨x39, ex39, hf⟩ := pb_bind hf
          have ex39 := Option.some.inj ex39
          refine pb_topl ex39 ?_
          refine pb_lstore (lv' := [(4, .long x39), (0, .ref a_t), (1, .int p1), (2, .int p2), (3, .int p3), (6, .int l6_6)]) (pc := 39) C dX8_weightOf_39 (by decide) rfl ?_
          refine pb_iinc (v := l6_6 + 1) (lv' := [(6, .int (l6_6 + 1)), (4, .long x39), (0, .ref a_t), (1, .int p1), (2, .int p2), (3, .int p3)]) (pc := 41) C dX8_weightOf_41 5 rfl (pb_inc pb_kI_1 rfl) (by decide) rfl ?_
          refine pb_goto (pc := 44) (tgt := 6) C dX8_weightOf_44 (by decide) ?_
          obtain rfl := Option.some.inj hf
          refine pb_sub [2, 3, 4, 5, 1, 0] rfl ?_
          have hl6 := pb_inl hl6
          exact ih6 x39 (l6_6 + 1) hl6
        · have hf := pb_neg hf hc24
          refine pb_aload_n (pc := 27) C dX8_weightOf_27 rfl 0 rfl ?_
          refine pb_get (pc := 28) C hnX8_weightOf_X8 0 rfl rfl 12 (by decide) (List.mem_of_getElem? (i := 1) rfl) rfl rfl dX8_weightOf_28 ?_
          refine pb_iload (pc := 31) C dX8_weightOf_31 5 rfl ?_
          obtain ⟨g33, hf⟩ := pb_grd hf
          refine pb_lald (pc := 33) C 1 2 rfl rfl g33 dX8_weightOf_33 ?_
          refine pb_goto (pc := 34) (tgt := 38) C dX8_weightOf_34 (by decide) ?_
          refine pb_ladd (pc := 38) C dX8_weightOf_38 ?_
          obtain ⟨x39, ex39, hf⟩ := pb_bind hf
          have ex39 := Option.some.inj ex39
          refine pb_topl ex39 ?_
          refine pb_lstore (lv' := [(4, .long x39), (0, .ref a_t), (1, .int p1), (2, .int p2), (3, .int p3), (6, .int l6_6)]) (pc := 39) C dX8_weightOf_39 (by decide) rfl ?_
          refine pb_iinc (v := l6_6 + 1) (lv' := [(6, .int (l6_6 + 1)), (4, .long x39), (0, .ref a_t), (1, .int p1), (2, .int p2), (3, .int p3)]) (pc := 41) C dX8_weightOf_41 5 rfl (pb_inc pb_kI_1 rfl) (by decide) rfl ?_
          refine pb_goto (pc := 44) (tgt := 6) C dX8_weightOf_44 (by decide) ?_
          obtain rfl := Option.some.inj hf
          refine pb_sub [2, 3, 4, 5, 1, 0] rfl ?_
          have hl6 := pb_inl hl6
          exact ih6 x39 (l6_6 + 1) hl6
  refine pb_sub [2, 3, 4, 5, 1, 0] rfl ?_
  exact L6 pb_FU 0 0 hz6
def rmX8_chance : Room := { frames := 5, cells := 0, slots := 0, locals := 116 }
def wwX8_chance (cyB cyI cyJ cyZ cyS : ClassId) (a_t a_t_w a_t_isKept a_t_text a_t_refused a_t_numbers a_t_weights : Nat) (c_t_texted : Int32) (c_t_above : Int64) (c_t_below : Int64) (c_t_at : Int32) (c_t_start : Int32) (c_t_isWord : Int32) (c_t_isFigures : Int32) (c_t_all : Int64) (c_t_known : Int32) (c_t_truth : Int32) (c_t_x : Int64) (c_t_h : Int64) (c_t_w : (Nat → Int32)) (c_t_refused : (Nat → Int32)) (c_t_weights : (Nat → Int64)) : va_W := [(a_t, .inr (8, [.ref a_t_w, .ref a_t_isKept, .ref a_t_text, .int c_t_texted, .ref a_t_refused, .long c_t_above, .long c_t_below, .int c_t_at, .int c_t_start, .int c_t_isWord, .int c_t_isFigures, .ref a_t_numbers, .ref a_t_weights, .long c_t_all, .int c_t_known, .int c_t_truth, .long c_t_x, .long c_t_h])), (a_t_w, .inl (cyI, 1508, .inl c_t_w)), (a_t_refused, .inl (cyI, 3, .inl c_t_refused)), (a_t_weights, .inl (cyJ, 128, .inr (.inl c_t_weights)))]
theorem hnX8_chance_X8 : ∀ w ∈ wsX80, w ∈ wsX8_chance := fun _ h => List.mem_cons_of_mem _ (List.mem_append_right _ h)
set_option maxHeartbeats 4000000 in
set_option maxRecDepth 100000 in
theorem kcX8_chance (l : Launch) (dC : Nat → ClassId) (dI : Nat → Nat → Nat) (cyB cyI cyJ cyZ cyS : ClassId) (a_t a_t_w a_t_isKept a_t_text a_t_refused a_t_numbers a_t_weights : Nat) (c_t_texted : Int32) (c_t_above : Int64) (c_t_below : Int64) (c_t_at : Int32) (c_t_start : Int32) (c_t_isWord : Int32) (c_t_isFigures : Int32) (c_t_all : Int64) (c_t_known : Int32) (c_t_truth : Int32) (c_t_x : Int64) (c_t_h : Int64) (c_t_w : (Nat → Int32)) (c_t_refused : (Nat → Int32)) (c_t_weights : (Nat → Int64)) (p1 : Int32) (p2 : Int32) (p3 : Int32) (out : (Int32 × Int64 × Int64 × Int64 × (Nat → Int32) × (Nat → Int64))) (hf : fX8_chance c_t_above c_t_below c_t_all c_t_w c_t_refused c_t_weights p1 p2 p3 = some out) : pb_K l yX8_chance wsX8_chance rmX8_chance (dC, dI) vwCl (pb_tys cyB cyI cyJ cyZ cyS) pb_NW [.ref a_t, .int p1, .int p2, .int p3] (wwX8_chance cyB cyI cyJ cyZ cyS a_t a_t_w a_t_isKept a_t_text a_t_refused a_t_numbers a_t_weights c_t_texted c_t_above c_t_below c_t_at c_t_start c_t_isWord c_t_isFigures c_t_all c_t_known c_t_truth c_t_x c_t_h c_t_w c_t_refused c_t_weights) (wwX8_chance cyB cyI cyJ cyZ cyS a_t a_t_w a_t_isKept a_t_text a_t_refused a_t_numbers a_t_weights c_t_texted out.2.1 out.2.2.1 c_t_at c_t_start c_t_isWord c_t_isFigures out.2.2.2.1 c_t_known c_t_truth c_t_x c_t_h c_t_w out.2.2.2.2.1 out.2.2.2.2.2) (some (.int out.1)) := by
  unfold fX8_chance at hf
  refine pb_K.ofV (cc := cX8_chance) (maxL := 4) (ret := (some .int)) (lv0 := [(0, .ref a_t), (1, .int p1), (2, .int p2), (3, .int p3)]) (by decide) rfl (Nat.le_of_ble_eq_true rfl) rfl ?_
  intro p e s m below meth c A C hX hr hlk hA
  refine pb_iload_n (pc := 0) C dX8_chance_0 rfl 1 rfl ?_
  refine pb_iload_n (pc := 1) C dX8_chance_1 rfl 2 rfl ?_
  refine pb_iload_n (pc := 2) C dX8_chance_2 rfl 3 rfl ?_
  obtain ⟨r3, hr3, hf⟩ := pb_bind hf
  refine pb_callS (pc := 3) (n0 := 4) (ws' := (wwX8_chance cyB cyI cyJ cyZ cyS a_t a_t_w a_t_isKept a_t_text a_t_refused a_t_numbers a_t_weights c_t_texted c_t_above c_t_below c_t_at c_t_start c_t_isWord c_t_isFigures c_t_all c_t_known c_t_truth c_t_x c_t_h c_t_w c_t_refused c_t_weights)) (rest := []) (st2 := [.int r3]) C (kcX8_isClaim l dC dI cyB cyI cyJ cyZ cyS p1 p2 p3 r3 hr3) pb_NW_b (pb_NW_x hX) (va_cwS 3 C.1.2.2.2.2 gX8_chance_X8_isClaim rfl rfl rfl kdS_X8_isClaim ⟨Nat.le_of_ble_eq_true rfl, Nat.le_of_ble_eq_true rfl⟩) [] [0, 1, 2, 3] rfl rfl ⟨⟨_, rfl, rfl⟩, ⟨⟨_, rfl, rfl⟩, ⟨⟨_, rfl, rfl⟩, ⟨⟨_, rfl, rfl⟩, trivial⟩⟩⟩⟩ rfl (by decide +kernel) (adl := []) rfl rfl rfl rfl rfl (Nat.le_of_ble_eq_true rfl) ⟨Nat.le_refl _, Nat.le_refl _⟩ dX8_chance_3 rfl ?_
  refine pb_if_ne (pc := 6) (tgt := 14) C dX8_chance_6 (by decide) (fun hc6 => ?_) (fun hc6 => ?_)
  · have hf := pb_neg hf hc6
    refine pb_aload_n (pc := 14) C dX8_chance_14 rfl 0 rfl ?_
    obtain ⟨r15, hr15, hf⟩ := pb_bind hf
    refine pb_callV (pc := 15) (n0 := 4) (ws' := (wwX8_chance cyB cyI cyJ cyZ cyS a_t a_t_w a_t_isKept a_t_text a_t_refused a_t_numbers a_t_weights c_t_texted c_t_above c_t_below c_t_at c_t_start c_t_isWord c_t_isFigures r15.2.1 c_t_known c_t_truth c_t_x c_t_h c_t_w c_t_refused r15.2.2)) (rest := []) (st2 := [.int r15.1]) C (kcX8_fits l dC dI cyB cyI cyJ cyZ cyS a_t a_t_w a_t_isKept a_t_text a_t_refused a_t_numbers a_t_weights c_t_texted c_t_above c_t_below c_t_at c_t_start c_t_isWord c_t_isFigures c_t_all c_t_known c_t_truth c_t_x c_t_h c_t_w c_t_weights r15 hr15) pb_NW_b (pb_NW_x hX) (cwV 0 C.1.2.2.2.2 gX8_chance_X8_fits rfl rfl rfl kdV_X8_fits ⟨Nat.le_of_ble_eq_true rfl, Nat.le_of_ble_eq_true rfl⟩) 0 rfl rfl [0, 1, 3] [2] rfl rfl ⟨⟨_, rfl, rfl⟩, trivial⟩ rfl (by decide +kernel) (adl := [a_t, a_t_w, a_t_weights]) rfl rfl rfl rfl rfl (Nat.le_of_ble_eq_true rfl) ⟨Nat.le_refl _, Nat.le_refl _⟩ dX8_chance_15 rfl ?_
    refine pb_if_eq (pc := 18) (tgt := 39) C dX8_chance_18 (by decide) (fun hc18 => ?_) (fun hc18 => ?_)
    · have hf := pb_pos hf hc18
      refine pb_aload_n (pc := 39) C dX8_chance_39 rfl 0 rfl ?_
      obtain ⟨r40, hr40, hf⟩ := pb_bind hf
      refine pb_callV (pc := 40) (n0 := 4) (ws' := (wwX8_chance cyB cyI cyJ cyZ cyS a_t a_t_w a_t_isKept a_t_text a_t_refused a_t_numbers a_t_weights c_t_texted c_t_above c_t_below c_t_at c_t_start c_t_isWord c_t_isFigures r15.2.1 c_t_known c_t_truth c_t_x c_t_h c_t_w r40.2 r15.2.2)) (rest := []) (st2 := [.int r40.1]) C (kcX8_no l dC dI cyB cyI cyJ cyZ cyS a_t a_t_w a_t_isKept a_t_text a_t_refused a_t_numbers a_t_weights c_t_texted c_t_above c_t_below c_t_at c_t_start c_t_isWord c_t_isFigures r15.2.1 c_t_known c_t_truth c_t_x c_t_h c_t_refused r40 hr40) pb_NW_b (pb_NW_x hX) (cwV 0 C.1.2.2.2.2 gX8_chance_X8_no rfl rfl rfl kdV_X8_no ⟨Nat.le_of_ble_eq_true rfl, Nat.le_of_ble_eq_true rfl⟩) 0 rfl rfl [0, 2] [1, 3] rfl rfl ⟨⟨_, rfl, rfl⟩, ⟨⟨_, rfl, rfl⟩, trivial⟩⟩ rfl (by decide +kernel) (adl := [a_t, a_t_refused]) rfl rfl rfl rfl rfl (Nat.le_of_ble_eq_true rfl) ⟨Nat.le_refl _, Nat.le_refl _⟩ dX8_chance_40 rfl ?_
      obtain rfl := Option.some.inj hf
      exact pb_iret (pc := 43) C hr hlk hA dX8_chance_43
    · have hf := pb_neg hf hc18
      refine pb_aload_n (pc := 21) C dX8_chance_21 rfl 0 rfl ?_
      refine pb_aload_n (pc := 22) C dX8_chance_22 rfl 0 rfl ?_
      refine pb_iload_n (pc := 23) C dX8_chance_23 rfl 1 rfl ?_
      refine pb_iload_n (pc := 24) C dX8_chance_24 rfl 2 rfl ?_
      refine pb_iload_n (pc := 25) C dX8_chance_25 rfl 3 rfl ?_
      obtain ⟨r26, hr26, hf⟩ := pb_bind hf
      refine pb_callV (pc := 26) (n0 := 4) (ws' := (wwX8_chance cyB cyI cyJ cyZ cyS a_t a_t_w a_t_isKept a_t_text a_t_refused a_t_numbers a_t_weights c_t_texted c_t_above c_t_below c_t_at c_t_start c_t_isWord c_t_isFigures r15.2.1 c_t_known c_t_truth c_t_x c_t_h c_t_w c_t_refused r15.2.2)) (rest := [.ref a_t]) (st2 := [.long r26, .ref a_t]) C (kcX8_weightOf l dC dI cyB cyI cyJ cyZ cyS a_t a_t_w a_t_isKept a_t_text a_t_refused a_t_numbers a_t_weights c_t_texted c_t_above c_t_below c_t_at c_t_start c_t_isWord c_t_isFigures r15.2.1 c_t_known c_t_truth c_t_x c_t_h r15.2.2 p1 p2 p3 r26 hr26) pb_NW_b (pb_NW_x hX) (cwV 3 C.1.2.2.2.2 gX8_chance_X8_weightOf rfl rfl rfl kdV_X8_weightOf ⟨Nat.le_of_ble_eq_true rfl, Nat.le_of_ble_eq_true rfl⟩) 0 rfl rfl [0, 3] [1, 2] rfl rfl ⟨⟨_, rfl, rfl⟩, ⟨⟨_, rfl, rfl⟩, trivial⟩⟩ rfl (by decide +kernel) (adl := [a_t, a_t_weights]) rfl rfl rfl rfl rfl (Nat.le_of_ble_eq_true rfl) ⟨Nat.le_refl _, Nat.le_refl _⟩ dX8_chance_26 rfl ?_
      refine pb_aload_n (pc := 29) C dX8_chance_29 rfl 0 rfl ?_
      refine pb_get (pc := 30) C hnX8_chance_X8 0 rfl rfl 13 (by decide) (List.mem_of_getElem? (i := 1) rfl) rfl rfl dX8_chance_30 ?_
      obtain ⟨r33, hr33, hf⟩ := pb_bind hf
      refine pb_callV (pc := 33) (n0 := 4) (ws' := (wwX8_chance cyB cyI cyJ cyZ cyS a_t a_t_w a_t_isKept a_t_text a_t_refused a_t_numbers a_t_weights c_t_texted r33.2.1 r33.2.2 c_t_at c_t_start c_t_isWord c_t_isFigures r15.2.1 c_t_known c_t_truth c_t_x c_t_h c_t_w c_t_refused r15.2.2)) (rest := []) (st2 := [.int r33.1]) C (kcX8_tells l dC dI cyB cyI cyJ cyZ cyS a_t a_t_w a_t_isKept a_t_text a_t_refused a_t_numbers a_t_weights c_t_texted c_t_above c_t_below c_t_at c_t_start c_t_isWord c_t_isFigures r15.2.1 c_t_known c_t_truth c_t_x c_t_h r26 r15.2.1 r33 hr33) pb_NW_b (pb_NW_x hX) (cwV 2 C.1.2.2.2.2 gX8_chance_X8_tells rfl rfl rfl kdV_X8_tells ⟨Nat.le_of_ble_eq_true rfl, Nat.le_of_ble_eq_true rfl⟩) 0 rfl rfl [0] [1, 2, 3] rfl rfl ⟨⟨_, rfl, rfl⟩, ⟨⟨_, rfl, rfl⟩, ⟨⟨_, rfl, rfl⟩, trivial⟩⟩⟩ rfl (by decide +kernel) (adl := [a_t]) rfl rfl rfl rfl rfl (Nat.le_of_ble_eq_true rfl) ⟨Nat.le_refl _, Nat.le_refl _⟩ dX8_chance_33 rfl ?_
      refine pb_goto (pc := 36) (tgt := 43) C dX8_chance_36 (by decide) ?_
      obtain rfl := Option.some.inj hf
      exact pb_iret (pc := 43) C hr hlk hA dX8_chance_43
  · have hf := pb_pos hf hc6
    refine pb_aload_n (pc := 9) C dX8_chance_9 rfl 0 rfl ?_
    obtain ⟨r10, hr10, hf⟩ := pb_bind hf
    refine pb_callV (pc := 10) (n0 := 4) (ws' := (wwX8_chance cyB cyI cyJ cyZ cyS a_t a_t_w a_t_isKept a_t_text a_t_refused a_t_numbers a_t_weights c_t_texted c_t_above c_t_below c_t_at c_t_start c_t_isWord c_t_isFigures c_t_all c_t_known c_t_truth c_t_x c_t_h c_t_w r10.2 c_t_weights)) (rest := []) (st2 := [.int r10.1]) C (kcX8_bad l dC dI cyB cyI cyJ cyZ cyS a_t a_t_w a_t_isKept a_t_text a_t_refused a_t_numbers a_t_weights c_t_texted c_t_above c_t_below c_t_at c_t_start c_t_isWord c_t_isFigures c_t_all c_t_known c_t_truth c_t_x c_t_h c_t_refused r10 hr10) pb_NW_b (pb_NW_x hX) (cwV 0 C.1.2.2.2.2 gX8_chance_X8_bad rfl rfl rfl kdV_X8_bad ⟨Nat.le_of_ble_eq_true rfl, Nat.le_of_ble_eq_true rfl⟩) 0 rfl rfl [0, 2] [1, 3] rfl rfl ⟨⟨_, rfl, rfl⟩, ⟨⟨_, rfl, rfl⟩, trivial⟩⟩ rfl (by decide +kernel) (adl := [a_t, a_t_refused]) rfl rfl rfl rfl rfl (Nat.le_of_ble_eq_true rfl) ⟨Nat.le_refl _, Nat.le_refl _⟩ dX8_chance_10 rfl ?_
    obtain rfl := Option.some.inj hf
    exact pb_iret (pc := 13) C hr hlk hA dX8_chance_13
def rmX8_ifFound : Room := { frames := 5, cells := 0, slots := 0, locals := 116 }
def wwX8_ifFound (cyB cyI cyJ cyZ cyS : ClassId) (a_t a_t_w a_t_isKept a_t_text a_t_refused a_t_numbers a_t_weights : Nat) (c_t_texted : Int32) (c_t_above : Int64) (c_t_below : Int64) (c_t_at : Int32) (c_t_start : Int32) (c_t_isWord : Int32) (c_t_isFigures : Int32) (c_t_all : Int64) (c_t_known : Int32) (c_t_truth : Int32) (c_t_x : Int64) (c_t_h : Int64) (c_t_w : (Nat → Int32)) (c_t_refused : (Nat → Int32)) (c_t_weights : (Nat → Int64)) : va_W := [(a_t, .inr (8, [.ref a_t_w, .ref a_t_isKept, .ref a_t_text, .int c_t_texted, .ref a_t_refused, .long c_t_above, .long c_t_below, .int c_t_at, .int c_t_start, .int c_t_isWord, .int c_t_isFigures, .ref a_t_numbers, .ref a_t_weights, .long c_t_all, .int c_t_known, .int c_t_truth, .long c_t_x, .long c_t_h])), (a_t_w, .inl (cyI, 1508, .inl c_t_w)), (a_t_refused, .inl (cyI, 3, .inl c_t_refused)), (a_t_weights, .inl (cyJ, 128, .inr (.inl c_t_weights)))]
theorem hnX8_ifFound_X8 : ∀ w ∈ wsX80, w ∈ wsX8_ifFound := fun _ h => List.mem_cons_of_mem _ (List.mem_append_right _ h)
set_option maxHeartbeats 4000000 in
set_option maxRecDepth 100000 in
theorem kcX8_ifFound (l : Launch) (dC : Nat → ClassId) (dI : Nat → Nat → Nat) (cyB cyI cyJ cyZ cyS : ClassId) (a_t a_t_w a_t_isKept a_t_text a_t_refused a_t_numbers a_t_weights : Nat) (c_t_texted : Int32) (c_t_above : Int64) (c_t_below : Int64) (c_t_at : Int32) (c_t_start : Int32) (c_t_isWord : Int32) (c_t_isFigures : Int32) (c_t_all : Int64) (c_t_known : Int32) (c_t_truth : Int32) (c_t_x : Int64) (c_t_h : Int64) (c_t_w : (Nat → Int32)) (c_t_refused : (Nat → Int32)) (c_t_weights : (Nat → Int64)) (p1 : Int32) (p2 : Int32) (p3 : Int32) (p4 : Int32) (p5 : Int32) (p6 : Int32) (out : (Int32 × Int64 × Int64 × Int64 × (Nat → Int32) × (Nat → Int64))) (hf : fX8_ifFound c_t_above c_t_below c_t_all c_t_w c_t_refused c_t_weights p1 p2 p3 p4 p5 p6 = some out) : pb_K l yX8_ifFound wsX8_ifFound rmX8_ifFound (dC, dI) vwCl (pb_tys cyB cyI cyJ cyZ cyS) pb_NW [.ref a_t, .int p1, .int p2, .int p3, .int p4, .int p5, .int p6] (wwX8_ifFound cyB cyI cyJ cyZ cyS a_t a_t_w a_t_isKept a_t_text a_t_refused a_t_numbers a_t_weights c_t_texted c_t_above c_t_below c_t_at c_t_start c_t_isWord c_t_isFigures c_t_all c_t_known c_t_truth c_t_x c_t_h c_t_w c_t_refused c_t_weights) (wwX8_ifFound cyB cyI cyJ cyZ cyS a_t a_t_w a_t_isKept a_t_text a_t_refused a_t_numbers a_t_weights c_t_texted out.2.1 out.2.2.1 c_t_at c_t_start c_t_isWord c_t_isFigures out.2.2.2.1 c_t_known c_t_truth c_t_x c_t_h c_t_w out.2.2.2.2.1 out.2.2.2.2.2) (some (.int out.1)) := by
  unfold fX8_ifFound at hf
  refine pb_K.ofV (cc := cX8_ifFound) (maxL := 8) (ret := (some .int)) (lv0 := [(0, .ref a_t), (1, .int p1), (2, .int p2), (3, .int p3), (4, .int p4), (5, .int p5), (6, .int p6)]) (by decide) rfl (Nat.le_of_ble_eq_true rfl) rfl ?_
  intro p e s m below meth c A C hX hr hlk hA
  refine pb_iload_n (pc := 0) C dX8_ifFound_0 rfl 1 rfl ?_
  refine pb_iload_n (pc := 1) C dX8_ifFound_1 rfl 2 rfl ?_
  refine pb_iload_n (pc := 2) C dX8_ifFound_2 rfl 3 rfl ?_
  obtain ⟨r3, hr3, hf⟩ := pb_bind hf
  refine pb_callS (pc := 3) (n0 := 4) (ws' := (wwX8_ifFound cyB cyI cyJ cyZ cyS a_t a_t_w a_t_isKept a_t_text a_t_refused a_t_numbers a_t_weights c_t_texted c_t_above c_t_below c_t_at c_t_start c_t_isWord c_t_isFigures c_t_all c_t_known c_t_truth c_t_x c_t_h c_t_w c_t_refused c_t_weights)) (rest := []) (st2 := [.int r3]) C (kcX8_isClaim l dC dI cyB cyI cyJ cyZ cyS p1 p2 p3 r3 hr3) pb_NW_b (pb_NW_x hX) (va_cwS 3 C.1.2.2.2.2 gX8_ifFound_X8_isClaim rfl rfl rfl kdS_X8_isClaim ⟨Nat.le_of_ble_eq_true rfl, Nat.le_of_ble_eq_true rfl⟩) [] [0, 1, 2, 3] rfl rfl ⟨⟨_, rfl, rfl⟩, ⟨⟨_, rfl, rfl⟩, ⟨⟨_, rfl, rfl⟩, ⟨⟨_, rfl, rfl⟩, trivial⟩⟩⟩⟩ rfl (by decide +kernel) (adl := []) rfl rfl rfl rfl rfl (Nat.le_of_ble_eq_true rfl) ⟨Nat.le_refl _, Nat.le_refl _⟩ dX8_ifFound_3 rfl ?_
  refine pb_if_eq (pc := 6) (tgt := 21) C dX8_ifFound_6 (by decide) (fun hc6 => ?_) (fun hc6 => ?_)
  · have hf := pb_pos hf hc6
    refine pb_aload_n (pc := 21) C dX8_ifFound_21 rfl 0 rfl ?_
    obtain ⟨r22, hr22, hf⟩ := pb_bind hf
    refine pb_callV (pc := 22) (n0 := 4) (ws' := (wwX8_ifFound cyB cyI cyJ cyZ cyS a_t a_t_w a_t_isKept a_t_text a_t_refused a_t_numbers a_t_weights c_t_texted c_t_above c_t_below c_t_at c_t_start c_t_isWord c_t_isFigures c_t_all c_t_known c_t_truth c_t_x c_t_h c_t_w r22.2 c_t_weights)) (rest := []) (st2 := [.int r22.1]) C (kcX8_bad l dC dI cyB cyI cyJ cyZ cyS a_t a_t_w a_t_isKept a_t_text a_t_refused a_t_numbers a_t_weights c_t_texted c_t_above c_t_below c_t_at c_t_start c_t_isWord c_t_isFigures c_t_all c_t_known c_t_truth c_t_x c_t_h c_t_refused r22 hr22) pb_NW_b (pb_NW_x hX) (cwV 0 C.1.2.2.2.2 gX8_ifFound_X8_bad rfl rfl rfl kdV_X8_bad ⟨Nat.le_of_ble_eq_true rfl, Nat.le_of_ble_eq_true rfl⟩) 0 rfl rfl [0, 2] [1, 3] rfl rfl ⟨⟨_, rfl, rfl⟩, ⟨⟨_, rfl, rfl⟩, trivial⟩⟩ rfl (by decide +kernel) (adl := [a_t, a_t_refused]) rfl rfl rfl rfl rfl (Nat.le_of_ble_eq_true rfl) ⟨Nat.le_refl _, Nat.le_refl _⟩ dX8_ifFound_22 rfl ?_
    obtain rfl := Option.some.inj hf
    exact pb_iret (pc := 25) C hr hlk hA dX8_ifFound_25
  · have hf := pb_neg hf hc6
    refine pb_iload (pc := 9) C dX8_ifFound_9 4 rfl ?_
    refine pb_iload (pc := 11) C dX8_ifFound_11 5 rfl ?_
    refine pb_iload (pc := 13) C dX8_ifFound_13 6 rfl ?_
    obtain ⟨r15, hr15, hf⟩ := pb_bind hf
    refine pb_callS (pc := 15) (n0 := 4) (ws' := (wwX8_ifFound cyB cyI cyJ cyZ cyS a_t a_t_w a_t_isKept a_t_text a_t_refused a_t_numbers a_t_weights c_t_texted c_t_above c_t_below c_t_at c_t_start c_t_isWord c_t_isFigures c_t_all c_t_known c_t_truth c_t_x c_t_h c_t_w c_t_refused c_t_weights)) (rest := []) (st2 := [.int r15]) C (kcX8_isFind l dC dI cyB cyI cyJ cyZ cyS p4 p5 p6 r15 hr15) pb_NW_b (pb_NW_x hX) (va_cwS 3 C.1.2.2.2.2 gX8_ifFound_X8_isFind rfl rfl rfl kdS_X8_isFind ⟨Nat.le_of_ble_eq_true rfl, Nat.le_of_ble_eq_true rfl⟩) [] [0, 1, 2, 3] rfl rfl ⟨⟨_, rfl, rfl⟩, ⟨⟨_, rfl, rfl⟩, ⟨⟨_, rfl, rfl⟩, ⟨⟨_, rfl, rfl⟩, trivial⟩⟩⟩⟩ rfl (by decide +kernel) (adl := []) rfl rfl rfl rfl rfl (Nat.le_of_ble_eq_true rfl) ⟨Nat.le_refl _, Nat.le_refl _⟩ dX8_ifFound_15 rfl ?_
    refine pb_if_ne (pc := 18) (tgt := 26) C dX8_ifFound_18 (by decide) (fun hc18 => ?_) (fun hc18 => ?_)
    · have hf := pb_neg hf hc18
      refine pb_aload_n (pc := 26) C dX8_ifFound_26 rfl 0 rfl ?_
      obtain ⟨r27, hr27, hf⟩ := pb_bind hf
      refine pb_callV (pc := 27) (n0 := 4) (ws' := (wwX8_ifFound cyB cyI cyJ cyZ cyS a_t a_t_w a_t_isKept a_t_text a_t_refused a_t_numbers a_t_weights c_t_texted c_t_above c_t_below c_t_at c_t_start c_t_isWord c_t_isFigures r27.2.1 c_t_known c_t_truth c_t_x c_t_h c_t_w c_t_refused r27.2.2)) (rest := []) (st2 := [.int r27.1]) C (kcX8_fits l dC dI cyB cyI cyJ cyZ cyS a_t a_t_w a_t_isKept a_t_text a_t_refused a_t_numbers a_t_weights c_t_texted c_t_above c_t_below c_t_at c_t_start c_t_isWord c_t_isFigures c_t_all c_t_known c_t_truth c_t_x c_t_h c_t_w c_t_weights r27 hr27) pb_NW_b (pb_NW_x hX) (cwV 0 C.1.2.2.2.2 gX8_ifFound_X8_fits rfl rfl rfl kdV_X8_fits ⟨Nat.le_of_ble_eq_true rfl, Nat.le_of_ble_eq_true rfl⟩) 0 rfl rfl [0, 1, 3] [2] rfl rfl ⟨⟨_, rfl, rfl⟩, trivial⟩ rfl (by decide +kernel) (adl := [a_t, a_t_w, a_t_weights]) rfl rfl rfl rfl rfl (Nat.le_of_ble_eq_true rfl) ⟨Nat.le_refl _, Nat.le_refl _⟩ dX8_ifFound_27 rfl ?_
      refine pb_if_ne (pc := 30) (tgt := 38) C dX8_ifFound_30 (by decide) (fun hc30 => ?_) (fun hc30 => ?_)
      · have hf := pb_neg hf hc30
        refine pb_aload_n (pc := 38) C dX8_ifFound_38 rfl 0 rfl ?_
        refine pb_lconst (v := 0) (pc := 39) C dX8_ifFound_39 pb_kL_0 ?_
        refine pb_put (pc := 40) (ws' := (wwX8_ifFound cyB cyI cyJ cyZ cyS a_t a_t_w a_t_isKept a_t_text a_t_refused a_t_numbers a_t_weights c_t_texted c_t_above c_t_below c_t_at c_t_start c_t_isWord c_t_isFigures 0 c_t_known c_t_truth c_t_x c_t_h c_t_w c_t_refused r27.2.2)) C hnX8_ifFound_X8 tyX8 tyX8_ok nmX8 0 rfl rfl 13 (by decide) (List.mem_of_getElem? (i := 1) rfl) rfl rfl rfl rfl (Nat.le_of_ble_eq_true rfl) rfl dX8_ifFound_40 ?_
        refine pb_iconst (v := 0) (pc := 43) C dX8_ifFound_43 pb_kI_0 ?_
        refine pb_istore (lv' := [(7, .int 0), (0, .ref a_t), (1, .int p1), (2, .int p2), (3, .int p3), (4, .int p4), (5, .int p5), (6, .int p6)]) (pc := 44) C dX8_ifFound_44 (by decide) rfl ?_
        obtain ⟨z46, hz46, hk46⟩ := pb_bind hf
        have E46 : ∀ (e46_7 : Int32) (e46_c_t_all : Int64) (e46_c_t_weights : (Nat → Int64)), fX8_ifFound_E46 c_t_above c_t_below c_t_refused p1 p2 p3 e46_7 e46_c_t_all e46_c_t_weights = some out → pb_V p l e rmX8_ifFound s m (([.ref a_t, .int p1, .int p2, .int p3, .int p4, .int p5, .int p6] : List Value).toArray) below meth c 8 (dC, dI) vwCl A 0 0 (pb_MQ below (([.ref a_t, .int p1, .int p2, .int p3, .int p4, .int p5, .int p6] : List Value).toArray) s (dC, dI) vwCl (wwX8_ifFound cyB cyI cyJ cyZ cyS a_t a_t_w a_t_isKept a_t_text a_t_refused a_t_numbers a_t_weights c_t_texted c_t_above c_t_below c_t_at c_t_start c_t_isWord c_t_isFigures c_t_all c_t_known c_t_truth c_t_x c_t_h c_t_w c_t_refused c_t_weights) (wwX8_ifFound cyB cyI cyJ cyZ cyS a_t a_t_w a_t_isKept a_t_text a_t_refused a_t_numbers a_t_weights c_t_texted out.2.1 out.2.2.1 c_t_at c_t_start c_t_isWord c_t_isFigures out.2.2.2.1 c_t_known c_t_truth c_t_x c_t_h c_t_w out.2.2.2.2.1 out.2.2.2.2.2) (some (.int out.1)) A) (wwX8_ifFound cyB cyI cyJ cyZ cyS a_t a_t_w a_t_isKept a_t_text a_t_refused a_t_numbers a_t_weights c_t_texted c_t_above c_t_below c_t_at c_t_start c_t_isWord c_t_isFigures e46_c_t_all c_t_known c_t_truth c_t_x c_t_h c_t_w c_t_refused e46_c_t_weights) [(0, .ref a_t), (1, .int p1), (2, .int p2), (3, .int p3)] [] 119 := by
          intro e46_7 e46_c_t_all e46_c_t_weights hf
          unfold fX8_ifFound_E46 at hf
          refine pb_aload_n (pc := 119) C dX8_ifFound_119 rfl 0 rfl ?_
          refine pb_get (pc := 120) C hnX8_ifFound_X8 0 rfl rfl 13 (by decide) (List.mem_of_getElem? (i := 1) rfl) rfl rfl dX8_ifFound_120 ?_
          refine pb_lconst (v := 0) (pc := 123) C dX8_ifFound_123 pb_kL_0 ?_
          refine pb_lif_le (pc := 124) (tgt := 146) C dX8_ifFound_124 dX8_ifFound_125 (by decide) (fun hc124 => ?_) (fun hc124 => ?_)
          · have hf := pb_pos hf hc124
            refine pb_aload_n (pc := 146) C dX8_ifFound_146 rfl 0 rfl ?_
            obtain ⟨r147, hr147, hf⟩ := pb_bind hf
            refine pb_callV (pc := 147) (n0 := 4) (ws' := (wwX8_ifFound cyB cyI cyJ cyZ cyS a_t a_t_w a_t_isKept a_t_text a_t_refused a_t_numbers a_t_weights c_t_texted c_t_above c_t_below c_t_at c_t_start c_t_isWord c_t_isFigures e46_c_t_all c_t_known c_t_truth c_t_x c_t_h c_t_w r147.2 e46_c_t_weights)) (rest := []) (st2 := [.int r147.1]) C (kcX8_no l dC dI cyB cyI cyJ cyZ cyS a_t a_t_w a_t_isKept a_t_text a_t_refused a_t_numbers a_t_weights c_t_texted c_t_above c_t_below c_t_at c_t_start c_t_isWord c_t_isFigures e46_c_t_all c_t_known c_t_truth c_t_x c_t_h c_t_refused r147 hr147) pb_NW_b (pb_NW_x hX) (cwV 0 C.1.2.2.2.2 gX8_ifFound_X8_no rfl rfl rfl kdV_X8_no ⟨Nat.le_of_ble_eq_true rfl, Nat.le_of_ble_eq_true rfl⟩) 0 rfl rfl [0, 2] [1, 3] rfl rfl ⟨⟨_, rfl, rfl⟩, ⟨⟨_, rfl, rfl⟩, trivial⟩⟩ rfl (by decide +kernel) (adl := [a_t, a_t_refused]) rfl rfl rfl rfl rfl (Nat.le_of_ble_eq_true rfl) ⟨Nat.le_refl _, Nat.le_refl _⟩ dX8_ifFound_147 rfl ?_
            obtain rfl := Option.some.inj hf
            exact pb_iret (pc := 150) C hr hlk hA dX8_ifFound_150
          · have hf := pb_neg hf hc124
            refine pb_aload_n (pc := 128) C dX8_ifFound_128 rfl 0 rfl ?_
            refine pb_aload_n (pc := 129) C dX8_ifFound_129 rfl 0 rfl ?_
            refine pb_iload_n (pc := 130) C dX8_ifFound_130 rfl 1 rfl ?_
            refine pb_iload_n (pc := 131) C dX8_ifFound_131 rfl 2 rfl ?_
            refine pb_iload_n (pc := 132) C dX8_ifFound_132 rfl 3 rfl ?_
            obtain ⟨r133, hr133, hf⟩ := pb_bind hf
            refine pb_callV (pc := 133) (n0 := 4) (ws' := (wwX8_ifFound cyB cyI cyJ cyZ cyS a_t a_t_w a_t_isKept a_t_text a_t_refused a_t_numbers a_t_weights c_t_texted c_t_above c_t_below c_t_at c_t_start c_t_isWord c_t_isFigures e46_c_t_all c_t_known c_t_truth c_t_x c_t_h c_t_w c_t_refused e46_c_t_weights)) (rest := [.ref a_t]) (st2 := [.long r133, .ref a_t]) C (kcX8_weightOf l dC dI cyB cyI cyJ cyZ cyS a_t a_t_w a_t_isKept a_t_text a_t_refused a_t_numbers a_t_weights c_t_texted c_t_above c_t_below c_t_at c_t_start c_t_isWord c_t_isFigures e46_c_t_all c_t_known c_t_truth c_t_x c_t_h e46_c_t_weights p1 p2 p3 r133 hr133) pb_NW_b (pb_NW_x hX) (cwV 3 C.1.2.2.2.2 gX8_ifFound_X8_weightOf rfl rfl rfl kdV_X8_weightOf ⟨Nat.le_of_ble_eq_true rfl, Nat.le_of_ble_eq_true rfl⟩) 0 rfl rfl [0, 3] [1, 2] rfl rfl ⟨⟨_, rfl, rfl⟩, ⟨⟨_, rfl, rfl⟩, trivial⟩⟩ rfl (by decide +kernel) (adl := [a_t, a_t_weights]) rfl rfl rfl rfl rfl (Nat.le_of_ble_eq_true rfl) ⟨Nat.le_refl _, Nat.le_refl _⟩ dX8_ifFound_133 rfl ?_
            refine pb_aload_n (pc := 136) C dX8_ifFound_136 rfl 0 rfl ?_
            refine pb_get (pc := 137) C hnX8_ifFound_X8 0 rfl rfl 13 (by decide) (List.mem_of_getElem? (i := 1) rfl) rfl rfl dX8_ifFound_137 ?_
            obtain ⟨r140, hr140, hf⟩ := pb_bind hf
            refine pb_callV (pc := 140) (n0 := 4) (ws' := (wwX8_ifFound cyB cyI cyJ cyZ cyS a_t a_t_w a_t_isKept a_t_text a_t_refused a_t_numbers a_t_weights c_t_texted r140.2.1 r140.2.2 c_t_at c_t_start c_t_isWord c_t_isFigures e46_c_t_all c_t_known c_t_truth c_t_x c_t_h c_t_w c_t_refused e46_c_t_weights)) (rest := []) (st2 := [.int r140.1]) C (kcX8_tells l dC dI cyB cyI cyJ cyZ cyS a_t a_t_w a_t_isKept a_t_text a_t_refused a_t_numbers a_t_weights c_t_texted c_t_above c_t_below c_t_at c_t_start c_t_isWord c_t_isFigures e46_c_t_all c_t_known c_t_truth c_t_x c_t_h r133 e46_c_t_all r140 hr140) pb_NW_b (pb_NW_x hX) (cwV 2 C.1.2.2.2.2 gX8_ifFound_X8_tells rfl rfl rfl kdV_X8_tells ⟨Nat.le_of_ble_eq_true rfl, Nat.le_of_ble_eq_true rfl⟩) 0 rfl rfl [0] [1, 2, 3] rfl rfl ⟨⟨_, rfl, rfl⟩, ⟨⟨_, rfl, rfl⟩, ⟨⟨_, rfl, rfl⟩, trivial⟩⟩⟩ rfl (by decide +kernel) (adl := [a_t]) rfl rfl rfl rfl rfl (Nat.le_of_ble_eq_true rfl) ⟨Nat.le_refl _, Nat.le_refl _⟩ dX8_ifFound_140 rfl ?_
            refine pb_goto (pc := 143) (tgt := 150) C dX8_ifFound_143 (by decide) ?_
            obtain rfl := Option.some.inj hf
            exact pb_iret (pc := 150) C hr hlk hA dX8_ifFound_150
        have L46 : ∀ (n : Nat) (l46_7 : Int32) (l46_c_t_all : Int64) (l46_c_t_weights : (Nat → Int64)), pb_lp (fun y => fX8_ifFound_L46 p4 p5 p6 y.1 y.2.1 y.2.2) n (l46_7, l46_c_t_all, l46_c_t_weights) = some z46 → pb_V p l e rmX8_ifFound s m (([.ref a_t, .int p1, .int p2, .int p3, .int p4, .int p5, .int p6] : List Value).toArray) below meth c 8 (dC, dI) vwCl A 0 0 (pb_MQ below (([.ref a_t, .int p1, .int p2, .int p3, .int p4, .int p5, .int p6] : List Value).toArray) s (dC, dI) vwCl (wwX8_ifFound cyB cyI cyJ cyZ cyS a_t a_t_w a_t_isKept a_t_text a_t_refused a_t_numbers a_t_weights c_t_texted c_t_above c_t_below c_t_at c_t_start c_t_isWord c_t_isFigures c_t_all c_t_known c_t_truth c_t_x c_t_h c_t_w c_t_refused c_t_weights) (wwX8_ifFound cyB cyI cyJ cyZ cyS a_t a_t_w a_t_isKept a_t_text a_t_refused a_t_numbers a_t_weights c_t_texted out.2.1 out.2.2.1 c_t_at c_t_start c_t_isWord c_t_isFigures out.2.2.2.1 c_t_known c_t_truth c_t_x c_t_h c_t_w out.2.2.2.2.1 out.2.2.2.2.2) (some (.int out.1)) A) (wwX8_ifFound cyB cyI cyJ cyZ cyS a_t a_t_w a_t_isKept a_t_text a_t_refused a_t_numbers a_t_weights c_t_texted c_t_above c_t_below c_t_at c_t_start c_t_isWord c_t_isFigures l46_c_t_all c_t_known c_t_truth c_t_x c_t_h c_t_w c_t_refused l46_c_t_weights) [(0, .ref a_t), (1, .int p1), (2, .int p2), (3, .int p3), (4, .int p4), (5, .int p5), (6, .int p6), (7, .int l46_7)] [] 46 := by
          intro n
          induction n with
          | zero => intro l46_7 l46_c_t_all l46_c_t_weights hf; exact (pb_lp_zero hf).elim
          | succ n ih46 =>
            intro l46_7 l46_c_t_all l46_c_t_weights hf
            obtain ⟨y46, hf, hl46⟩ := pb_lp_succ hf
            have hf : fX8_ifFound_L46 p4 p5 p6 l46_7 l46_c_t_all l46_c_t_weights = some y46 := hf
            unfold fX8_ifFound_L46 at hf
            refine pb_iload (pc := 46) C dX8_ifFound_46 7 rfl ?_
            refine pb_sipush (v := 128) (pc := 48) C dX8_ifFound_48 pb_kS_128 ?_
            refine pb_icmp_ge (pc := 51) (tgt := 119) C dX8_ifFound_51 (by decide) (fun hc51 => ?_) (fun hc51 => ?_)
            · have hf := pb_pos hf hc51
              obtain rfl := Option.some.inj hf
              obtain rfl := pb_esc hl46
              refine pb_sub [0, 1, 2, 3] rfl ?_
              exact E46 l46_7 l46_c_t_all l46_c_t_weights hk46
            · have hf := pb_neg hf hc51
              refine pb_aload_n (pc := 54) C dX8_ifFound_54 rfl 0 rfl ?_
              refine pb_get (pc := 55) C hnX8_ifFound_X8 0 rfl rfl 12 (by decide) (List.mem_of_getElem? (i := 2) rfl) rfl rfl dX8_ifFound_55 ?_
              refine pb_iload (pc := 58) C dX8_ifFound_58 7 rfl ?_
              refine pb_dup2_11 (pc := 60) C dX8_ifFound_60 rfl rfl ?_
              obtain ⟨g61, hf⟩ := pb_grd hf
              refine pb_lald (pc := 61) C 3 2 rfl rfl g61 dX8_ifFound_61 ?_
              refine pb_iload (pc := 62) C dX8_ifFound_62 7 rfl ?_
              refine pb_iload (pc := 64) C dX8_ifFound_64 4 rfl ?_
              obtain ⟨r66, hr66, hf⟩ := pb_bind hf
              refine pb_callS (pc := 66) (n0 := 4) (ws' := (wwX8_ifFound cyB cyI cyJ cyZ cyS a_t a_t_w a_t_isKept a_t_text a_t_refused a_t_numbers a_t_weights c_t_texted c_t_above c_t_below c_t_at c_t_start c_t_isWord c_t_isFigures l46_c_t_all c_t_known c_t_truth c_t_x c_t_h c_t_w c_t_refused l46_c_t_weights)) (rest := [.long (l46_c_t_weights (Int32.toNatClampNeg l46_7)), .int l46_7, .ref a_t_weights]) (st2 := [.int r66, .long (l46_c_t_weights (Int32.toNatClampNeg l46_7)), .int l46_7, .ref a_t_weights]) C (kcX8_has l dC dI cyB cyI cyJ cyZ cyS l46_7 p4 r66 hr66) pb_NW_b (pb_NW_x hX) (va_cwS 2 C.1.2.2.2.2 gX8_ifFound_X8_has rfl rfl rfl kdS_X8_has ⟨Nat.le_of_ble_eq_true rfl, Nat.le_of_ble_eq_true rfl⟩) [] [0, 1, 2, 3] rfl rfl ⟨⟨_, rfl, rfl⟩, ⟨⟨_, rfl, rfl⟩, ⟨⟨_, rfl, rfl⟩, ⟨⟨_, rfl, rfl⟩, trivial⟩⟩⟩⟩ rfl (by decide +kernel) (adl := []) rfl rfl rfl rfl rfl (Nat.le_of_ble_eq_true rfl) ⟨Nat.le_refl _, Nat.le_refl _⟩ dX8_ifFound_66 rfl ?_
              refine pb_iload (pc := 69) C dX8_ifFound_69 5 rfl ?_
              refine pb_iconst (v := 1) (pc := 71) C dX8_ifFound_71 pb_kI_1 ?_
              obtain ⟨y80, hf, hk80⟩ := pb_bind hf
              have J80 : ∀ (j80_s4 : Int32), fX8_ifFound_J80 p6 l46_7 l46_c_t_all l46_c_t_weights r66 j80_s4 = some y46 → pb_V p l e rmX8_ifFound s m (([.ref a_t, .int p1, .int p2, .int p3, .int p4, .int p5, .int p6] : List Value).toArray) below meth c 8 (dC, dI) vwCl A 0 0 (pb_MQ below (([.ref a_t, .int p1, .int p2, .int p3, .int p4, .int p5, .int p6] : List Value).toArray) s (dC, dI) vwCl (wwX8_ifFound cyB cyI cyJ cyZ cyS a_t a_t_w a_t_isKept a_t_text a_t_refused a_t_numbers a_t_weights c_t_texted c_t_above c_t_below c_t_at c_t_start c_t_isWord c_t_isFigures c_t_all c_t_known c_t_truth c_t_x c_t_h c_t_w c_t_refused c_t_weights) (wwX8_ifFound cyB cyI cyJ cyZ cyS a_t a_t_w a_t_isKept a_t_text a_t_refused a_t_numbers a_t_weights c_t_texted out.2.1 out.2.2.1 c_t_at c_t_start c_t_isWord c_t_isFigures out.2.2.2.1 c_t_known c_t_truth c_t_x c_t_h c_t_w out.2.2.2.2.1 out.2.2.2.2.2) (some (.int out.1)) A) (wwX8_ifFound cyB cyI cyJ cyZ cyS a_t a_t_w a_t_isKept a_t_text a_t_refused a_t_numbers a_t_weights c_t_texted c_t_above c_t_below c_t_at c_t_start c_t_isWord c_t_isFigures l46_c_t_all c_t_known c_t_truth c_t_x c_t_h c_t_w c_t_refused l46_c_t_weights) [(0, .ref a_t), (1, .int p1), (2, .int p2), (3, .int p3), (4, .int p4), (5, .int p5), (6, .int p6), (7, .int l46_7)] [.int j80_s4, .int r66, .long (l46_c_t_weights (Int32.toNatClampNeg l46_7)), .int l46_7, .ref a_t_weights] 80 := by
                intro j80_s4 hf
                unfold fX8_ifFound_J80 at hf
                obtain ⟨y95, hf, hk95⟩ := pb_bind hf
                have J95 : ∀ (j95_s3 : Int64), fX8_ifFound_J95 l46_7 l46_c_t_all l46_c_t_weights j95_s3 = some y46 → pb_V p l e rmX8_ifFound s m (([.ref a_t, .int p1, .int p2, .int p3, .int p4, .int p5, .int p6] : List Value).toArray) below meth c 8 (dC, dI) vwCl A 0 0 (pb_MQ below (([.ref a_t, .int p1, .int p2, .int p3, .int p4, .int p5, .int p6] : List Value).toArray) s (dC, dI) vwCl (wwX8_ifFound cyB cyI cyJ cyZ cyS a_t a_t_w a_t_isKept a_t_text a_t_refused a_t_numbers a_t_weights c_t_texted c_t_above c_t_below c_t_at c_t_start c_t_isWord c_t_isFigures c_t_all c_t_known c_t_truth c_t_x c_t_h c_t_w c_t_refused c_t_weights) (wwX8_ifFound cyB cyI cyJ cyZ cyS a_t a_t_w a_t_isKept a_t_text a_t_refused a_t_numbers a_t_weights c_t_texted out.2.1 out.2.2.1 c_t_at c_t_start c_t_isWord c_t_isFigures out.2.2.2.1 c_t_known c_t_truth c_t_x c_t_h c_t_w out.2.2.2.2.1 out.2.2.2.2.2) (some (.int out.1)) A) (wwX8_ifFound cyB cyI cyJ cyZ cyS a_t a_t_w a_t_isKept a_t_text a_t_refused a_t_numbers a_t_weights c_t_texted c_t_above c_t_below c_t_at c_t_start c_t_isWord c_t_isFigures l46_c_t_all c_t_known c_t_truth c_t_x c_t_h c_t_w c_t_refused l46_c_t_weights) [(0, .ref a_t), (1, .int p1), (2, .int p2), (3, .int p3), (4, .int p4), (5, .int p5), (6, .int p6), (7, .int l46_7)] [.long j95_s3, .long (l46_c_t_weights (Int32.toNatClampNeg l46_7)), .int l46_7, .ref a_t_weights] 95 := by
                  intro j95_s3 hf
                  unfold fX8_ifFound_J95 at hf
                  refine pb_lmul (pc := 95) C dX8_ifFound_95 ?_
                  obtain ⟨g96, hf⟩ := pb_grd hf
                  obtain ⟨u96, eu96, hf⟩ := pb_bind hf
                  have eu96 := Option.some.inj eu96
                  refine pb_last (pc := 96) (ws' := (wwX8_ifFound cyB cyI cyJ cyZ cyS a_t a_t_w a_t_isKept a_t_text a_t_refused a_t_numbers a_t_weights c_t_texted c_t_above c_t_below c_t_at c_t_start c_t_isWord c_t_isFigures l46_c_t_all c_t_known c_t_truth c_t_x c_t_h c_t_w c_t_refused u96)) C 3 2 rfl rfl g96 eu96 rfl dX8_ifFound_96 ?_
                  refine pb_aload_n (pc := 97) C dX8_ifFound_97 rfl 0 rfl ?_
                  refine pb_dup (pc := 98) C dX8_ifFound_98 rfl ?_
                  refine pb_get (pc := 99) C hnX8_ifFound_X8 0 rfl rfl 13 (by decide) (List.mem_of_getElem? (i := 1) rfl) rfl rfl dX8_ifFound_99 ?_
                  refine pb_aload_n (pc := 102) C dX8_ifFound_102 rfl 0 rfl ?_
                  refine pb_get (pc := 103) C hnX8_ifFound_X8 0 rfl rfl 12 (by decide) (List.mem_of_getElem? (i := 2) rfl) rfl rfl dX8_ifFound_103 ?_
                  refine pb_iload (pc := 106) C dX8_ifFound_106 7 rfl ?_
                  obtain ⟨g108, hf⟩ := pb_grd hf
                  refine pb_lald (pc := 108) C 3 2 rfl rfl g108 dX8_ifFound_108 ?_
                  refine pb_ladd (pc := 109) C dX8_ifFound_109 ?_
                  obtain ⟨x110, ex110, hf⟩ := pb_bind hf
                  have ex110 := Option.some.inj ex110
                  refine pb_topl ex110 ?_
                  refine pb_put (pc := 110) (ws' := (wwX8_ifFound cyB cyI cyJ cyZ cyS a_t a_t_w a_t_isKept a_t_text a_t_refused a_t_numbers a_t_weights c_t_texted c_t_above c_t_below c_t_at c_t_start c_t_isWord c_t_isFigures x110 c_t_known c_t_truth c_t_x c_t_h c_t_w c_t_refused u96)) C hnX8_ifFound_X8 tyX8 tyX8_ok nmX8 0 rfl rfl 13 (by decide) (List.mem_of_getElem? (i := 1) rfl) rfl rfl rfl rfl (Nat.le_of_ble_eq_true rfl) rfl dX8_ifFound_110 ?_
                  refine pb_iinc (v := l46_7 + 1) (lv' := [(7, .int (l46_7 + 1)), (0, .ref a_t), (1, .int p1), (2, .int p2), (3, .int p3), (4, .int p4), (5, .int p5), (6, .int p6)]) (pc := 113) C dX8_ifFound_113 7 rfl (pb_inc pb_kI_1 rfl) (by decide) rfl ?_
                  refine pb_goto (pc := 116) (tgt := 46) C dX8_ifFound_116 (by decide) ?_
                  obtain rfl := Option.some.inj hf
                  refine pb_sub [1, 2, 3, 4, 5, 6, 7, 0] rfl ?_
                  have hl46 := pb_inl hl46
                  exact ih46 (l46_7 + 1) x110 u96 hl46
                refine pb_icmp_ne (pc := 80) (tgt := 89) C dX8_ifFound_80 (by decide) (fun hc80 => ?_) (fun hc80 => ?_)
                · have hf := pb_neg hf hc80
                  refine pb_bipush (v := 10) (pc := 89) C dX8_ifFound_89 pb_kB_10 ?_
                  refine pb_iload (pc := 91) C dX8_ifFound_91 6 rfl ?_
                  refine pb_isub (pc := 93) C dX8_ifFound_93 ?_
                  refine pb_i2l (pc := 94) C dX8_ifFound_94 ?_
                  obtain rfl := Option.some.inj hf
                  exact J95 (Int32.toInt64 (10 - p6)) hk95
                · have hf := pb_pos hf hc80
                  refine pb_iload (pc := 83) C dX8_ifFound_83 6 rfl ?_
                  refine pb_i2l (pc := 85) C dX8_ifFound_85 ?_
                  refine pb_goto (pc := 86) (tgt := 95) C dX8_ifFound_86 (by decide) ?_
                  obtain rfl := Option.some.inj hf
                  exact J95 (Int32.toInt64 p6) hk95
              refine pb_icmp_ne (pc := 72) (tgt := 79) C dX8_ifFound_72 (by decide) (fun hc72 => ?_) (fun hc72 => ?_)
              · have hf := pb_neg hf hc72
                refine pb_iconst (v := 0) (pc := 79) C dX8_ifFound_79 pb_kI_0 ?_
                obtain rfl := Option.some.inj hf
                exact J80 0 hk80
              · have hf := pb_pos hf hc72
                refine pb_iconst (v := 1) (pc := 75) C dX8_ifFound_75 pb_kI_1 ?_
                refine pb_goto (pc := 76) (tgt := 80) C dX8_ifFound_76 (by decide) ?_
                obtain rfl := Option.some.inj hf
                exact J80 1 hk80
        refine pb_sub [1, 2, 3, 4, 5, 6, 7, 0] rfl ?_
        exact L46 pb_FU 0 0 r27.2.2 hz46
      · have hf := pb_pos hf hc30
        refine pb_aload_n (pc := 33) C dX8_ifFound_33 rfl 0 rfl ?_
        obtain ⟨r34, hr34, hf⟩ := pb_bind hf
        refine pb_callV (pc := 34) (n0 := 4) (ws' := (wwX8_ifFound cyB cyI cyJ cyZ cyS a_t a_t_w a_t_isKept a_t_text a_t_refused a_t_numbers a_t_weights c_t_texted c_t_above c_t_below c_t_at c_t_start c_t_isWord c_t_isFigures r27.2.1 c_t_known c_t_truth c_t_x c_t_h c_t_w r34.2 r27.2.2)) (rest := []) (st2 := [.int r34.1]) C (kcX8_no l dC dI cyB cyI cyJ cyZ cyS a_t a_t_w a_t_isKept a_t_text a_t_refused a_t_numbers a_t_weights c_t_texted c_t_above c_t_below c_t_at c_t_start c_t_isWord c_t_isFigures r27.2.1 c_t_known c_t_truth c_t_x c_t_h c_t_refused r34 hr34) pb_NW_b (pb_NW_x hX) (cwV 0 C.1.2.2.2.2 gX8_ifFound_X8_no rfl rfl rfl kdV_X8_no ⟨Nat.le_of_ble_eq_true rfl, Nat.le_of_ble_eq_true rfl⟩) 0 rfl rfl [0, 2] [1, 3] rfl rfl ⟨⟨_, rfl, rfl⟩, ⟨⟨_, rfl, rfl⟩, trivial⟩⟩ rfl (by decide +kernel) (adl := [a_t, a_t_refused]) rfl rfl rfl rfl rfl (Nat.le_of_ble_eq_true rfl) ⟨Nat.le_refl _, Nat.le_refl _⟩ dX8_ifFound_34 rfl ?_
        obtain rfl := Option.some.inj hf
        exact pb_iret (pc := 37) C hr hlk hA dX8_ifFound_37
    · have hf := pb_pos hf hc18
      refine pb_aload_n (pc := 21) C dX8_ifFound_21 rfl 0 rfl ?_
      obtain ⟨r22, hr22, hf⟩ := pb_bind hf
      refine pb_callV (pc := 22) (n0 := 4) (ws' := (wwX8_ifFound cyB cyI cyJ cyZ cyS a_t a_t_w a_t_isKept a_t_text a_t_refused a_t_numbers a_t_weights c_t_texted c_t_above c_t_below c_t_at c_t_start c_t_isWord c_t_isFigures c_t_all c_t_known c_t_truth c_t_x c_t_h c_t_w r22.2 c_t_weights)) (rest := []) (st2 := [.int r22.1]) C (kcX8_bad l dC dI cyB cyI cyJ cyZ cyS a_t a_t_w a_t_isKept a_t_text a_t_refused a_t_numbers a_t_weights c_t_texted c_t_above c_t_below c_t_at c_t_start c_t_isWord c_t_isFigures c_t_all c_t_known c_t_truth c_t_x c_t_h c_t_refused r22 hr22) pb_NW_b (pb_NW_x hX) (cwV 0 C.1.2.2.2.2 gX8_ifFound_X8_bad rfl rfl rfl kdV_X8_bad ⟨Nat.le_of_ble_eq_true rfl, Nat.le_of_ble_eq_true rfl⟩) 0 rfl rfl [0, 2] [1, 3] rfl rfl ⟨⟨_, rfl, rfl⟩, ⟨⟨_, rfl, rfl⟩, trivial⟩⟩ rfl (by decide +kernel) (adl := [a_t, a_t_refused]) rfl rfl rfl rfl rfl (Nat.le_of_ble_eq_true rfl) ⟨Nat.le_refl _, Nat.le_refl _⟩ dX8_ifFound_22 rfl ?_
      obtain rfl := Option.some.inj hf
      exact pb_iret (pc := 25) C hr hlk hA dX8_ifFound_25
def rmX8_wins : Room := { frames := 2, cells := 0, slots := 0, locals := 46 }
def wwX8_wins (cyB cyI cyJ cyZ cyS : ClassId) (a_t a_t_w a_t_isKept a_t_text a_t_refused a_t_numbers a_t_weights : Nat) (c_t_texted : Int32) (c_t_above : Int64) (c_t_below : Int64) (c_t_at : Int32) (c_t_start : Int32) (c_t_isWord : Int32) (c_t_isFigures : Int32) (c_t_all : Int64) (c_t_known : Int32) (c_t_truth : Int32) (c_t_x : Int64) (c_t_h : Int64) (c_t_w : (Nat → Int32)) : va_W := [(a_t, .inr (8, [.ref a_t_w, .ref a_t_isKept, .ref a_t_text, .int c_t_texted, .ref a_t_refused, .long c_t_above, .long c_t_below, .int c_t_at, .int c_t_start, .int c_t_isWord, .int c_t_isFigures, .ref a_t_numbers, .ref a_t_weights, .long c_t_all, .int c_t_known, .int c_t_truth, .long c_t_x, .long c_t_h])), (a_t_w, .inl (cyI, 1508, .inl c_t_w))]
theorem hnX8_wins_X8 : ∀ w ∈ wsX80, w ∈ wsX8_wins := fun _ h => List.mem_cons_of_mem _ (List.mem_append_right _ h)
set_option maxHeartbeats 4000000 in
set_option maxRecDepth 100000 in
theorem kcX8_wins (l : Launch) (dC : Nat → ClassId) (dI : Nat → Nat → Nat) (cyB cyI cyJ cyZ cyS : ClassId) (a_t a_t_w a_t_isKept a_t_text a_t_refused a_t_numbers a_t_weights : Nat) (c_t_texted : Int32) (c_t_above : Int64) (c_t_below : Int64) (c_t_at : Int32) (c_t_start : Int32) (c_t_isWord : Int32) (c_t_isFigures : Int32) (c_t_all : Int64) (c_t_known : Int32) (c_t_truth : Int32) (c_t_x : Int64) (c_t_h : Int64) (c_t_w : (Nat → Int32)) (p1 : Int32) (p2 : Int32) (out : Int32) (hf : fX8_wins c_t_w p1 p2 = some out) : pb_K l yX8_wins wsX8_wins rmX8_wins (dC, dI) vwCl (pb_tys cyB cyI cyJ cyZ cyS) pb_NW [.ref a_t, .int p1, .int p2] (wwX8_wins cyB cyI cyJ cyZ cyS a_t a_t_w a_t_isKept a_t_text a_t_refused a_t_numbers a_t_weights c_t_texted c_t_above c_t_below c_t_at c_t_start c_t_isWord c_t_isFigures c_t_all c_t_known c_t_truth c_t_x c_t_h c_t_w) (wwX8_wins cyB cyI cyJ cyZ cyS a_t a_t_w a_t_isKept a_t_text a_t_refused a_t_numbers a_t_weights c_t_texted c_t_above c_t_below c_t_at c_t_start c_t_isWord c_t_isFigures c_t_all c_t_known c_t_truth c_t_x c_t_h c_t_w) (some (.int out)) := by
  unfold fX8_wins at hf
  refine pb_K.ofV (cc := cX8_wins) (maxL := 3) (ret := (some .boolean)) (lv0 := [(0, .ref a_t), (1, .int p1), (2, .int p2)]) (by decide) rfl (Nat.le_of_ble_eq_true rfl) rfl ?_
  intro p e s m below meth c A C hX hr hlk hA
  refine pb_aload_n (pc := 0) C dX8_wins_0 rfl 0 rfl ?_
  refine pb_get (pc := 1) C hnX8_wins_X8 0 rfl rfl 0 (by decide) (List.mem_of_getElem? (i := 1) rfl) rfl rfl dX8_wins_1 ?_
  refine pb_bipush (v := 59) (pc := 4) C dX8_wins_4 pb_kB_59 ?_
  refine pb_iconst (v := 5) (pc := 6) C dX8_wins_6 pb_kI_5 ?_
  refine pb_iload_n (pc := 7) C dX8_wins_7 rfl 1 rfl ?_
  refine pb_imul (pc := 8) C dX8_wins_8 ?_
  refine pb_iadd (pc := 9) C dX8_wins_9 ?_
  obtain ⟨g10, hf⟩ := pb_grd hf
  refine pb_iald (pc := 10) C 1 1 rfl rfl g10 dX8_wins_10 ?_
  refine pb_aload_n (pc := 11) C dX8_wins_11 rfl 0 rfl ?_
  refine pb_get (pc := 12) C hnX8_wins_X8 0 rfl rfl 0 (by decide) (List.mem_of_getElem? (i := 1) rfl) rfl rfl dX8_wins_12 ?_
  refine pb_bipush (v := 59) (pc := 15) C dX8_wins_15 pb_kB_59 ?_
  refine pb_iconst (v := 5) (pc := 17) C dX8_wins_17 pb_kI_5 ?_
  refine pb_iload_n (pc := 18) C dX8_wins_18 rfl 1 rfl ?_
  refine pb_imul (pc := 19) C dX8_wins_19 ?_
  refine pb_iadd (pc := 20) C dX8_wins_20 ?_
  refine pb_iconst (v := 1) (pc := 21) C dX8_wins_21 pb_kI_1 ?_
  refine pb_iadd (pc := 22) C dX8_wins_22 ?_
  obtain ⟨g23, hf⟩ := pb_grd hf
  refine pb_iald (pc := 23) C 1 1 rfl rfl g23 dX8_wins_23 ?_
  refine pb_aload_n (pc := 24) C dX8_wins_24 rfl 0 rfl ?_
  refine pb_get (pc := 25) C hnX8_wins_X8 0 rfl rfl 0 (by decide) (List.mem_of_getElem? (i := 1) rfl) rfl rfl dX8_wins_25 ?_
  refine pb_bipush (v := 59) (pc := 28) C dX8_wins_28 pb_kB_59 ?_
  refine pb_iconst (v := 5) (pc := 30) C dX8_wins_30 pb_kI_5 ?_
  refine pb_iload_n (pc := 31) C dX8_wins_31 rfl 1 rfl ?_
  refine pb_imul (pc := 32) C dX8_wins_32 ?_
  refine pb_iadd (pc := 33) C dX8_wins_33 ?_
  refine pb_iconst (v := 2) (pc := 34) C dX8_wins_34 pb_kI_2 ?_
  refine pb_iadd (pc := 35) C dX8_wins_35 ?_
  obtain ⟨g36, hf⟩ := pb_grd hf
  refine pb_iald (pc := 36) C 1 1 rfl rfl g36 dX8_wins_36 ?_
  refine pb_iload_n (pc := 37) C dX8_wins_37 rfl 2 rfl ?_
  obtain ⟨r38, hr38, hf⟩ := pb_bind hf
  refine pb_callS (pc := 38) (n0 := 2) (ws' := (wwX8_wins cyB cyI cyJ cyZ cyS a_t a_t_w a_t_isKept a_t_text a_t_refused a_t_numbers a_t_weights c_t_texted c_t_above c_t_below c_t_at c_t_start c_t_isWord c_t_isFigures c_t_all c_t_known c_t_truth c_t_x c_t_h c_t_w)) (rest := []) (st2 := [.int r38]) C (kcX8_isSo l dC dI cyB cyI cyJ cyZ cyS (c_t_w (Int32.toNatClampNeg (59 + (5 * p1)))) (c_t_w (Int32.toNatClampNeg ((59 + (5 * p1)) + 1))) (c_t_w (Int32.toNatClampNeg ((59 + (5 * p1)) + 2))) p2 r38 hr38) pb_NW_b (pb_NW_x hX) (va_cwS 4 C.1.2.2.2.2 gX8_wins_X8_isSo rfl rfl rfl kdS_X8_isSo ⟨Nat.le_of_ble_eq_true rfl, Nat.le_of_ble_eq_true rfl⟩) [] [0, 1] rfl rfl ⟨⟨_, rfl, rfl⟩, ⟨⟨_, rfl, rfl⟩, trivial⟩⟩ rfl (by decide +kernel) (adl := []) rfl rfl rfl rfl rfl (Nat.le_of_ble_eq_true rfl) ⟨Nat.le_refl _, Nat.le_refl _⟩ dX8_wins_38 rfl ?_
  obtain ⟨g41, hf⟩ := pb_grd hf
  obtain rfl := Option.some.inj hf
  exact pb_zret (pc := 41) C hr hlk hA g41 dX8_wins_41
def rmX8_gain : Room := { frames := 3, cells := 0, slots := 0, locals := 68 }
def wwX8_gain (cyB cyI cyJ cyZ cyS : ClassId) (a_t a_t_w a_t_isKept a_t_text a_t_refused a_t_numbers a_t_weights : Nat) (c_t_texted : Int32) (c_t_above : Int64) (c_t_below : Int64) (c_t_at : Int32) (c_t_start : Int32) (c_t_isWord : Int32) (c_t_isFigures : Int32) (c_t_all : Int64) (c_t_known : Int32) (c_t_truth : Int32) (c_t_x : Int64) (c_t_h : Int64) (c_t_w : (Nat → Int32)) : va_W := [(a_t, .inr (8, [.ref a_t_w, .ref a_t_isKept, .ref a_t_text, .int c_t_texted, .ref a_t_refused, .long c_t_above, .long c_t_below, .int c_t_at, .int c_t_start, .int c_t_isWord, .int c_t_isFigures, .ref a_t_numbers, .ref a_t_weights, .long c_t_all, .int c_t_known, .int c_t_truth, .long c_t_x, .long c_t_h])), (a_t_w, .inl (cyI, 1508, .inl c_t_w))]
theorem hnX8_gain_X8 : ∀ w ∈ wsX80, w ∈ wsX8_gain := fun _ h => List.mem_cons_of_mem _ (List.mem_append_right _ h)
set_option maxHeartbeats 4000000 in
set_option maxRecDepth 100000 in
theorem kcX8_gain (l : Launch) (dC : Nat → ClassId) (dI : Nat → Nat → Nat) (cyB cyI cyJ cyZ cyS : ClassId) (a_t a_t_w a_t_isKept a_t_text a_t_refused a_t_numbers a_t_weights : Nat) (c_t_texted : Int32) (c_t_above : Int64) (c_t_below : Int64) (c_t_at : Int32) (c_t_start : Int32) (c_t_isWord : Int32) (c_t_isFigures : Int32) (c_t_all : Int64) (c_t_known : Int32) (c_t_truth : Int32) (c_t_x : Int64) (c_t_h : Int64) (c_t_w : (Nat → Int32)) (p1 : Int32) (p2 : Int32) (out : Int32) (hf : fX8_gain c_t_w p1 p2 = some out) : pb_K l yX8_gain wsX8_gain rmX8_gain (dC, dI) vwCl (pb_tys cyB cyI cyJ cyZ cyS) pb_NW [.ref a_t, .int p1, .int p2] (wwX8_gain cyB cyI cyJ cyZ cyS a_t a_t_w a_t_isKept a_t_text a_t_refused a_t_numbers a_t_weights c_t_texted c_t_above c_t_below c_t_at c_t_start c_t_isWord c_t_isFigures c_t_all c_t_known c_t_truth c_t_x c_t_h c_t_w) (wwX8_gain cyB cyI cyJ cyZ cyS a_t a_t_w a_t_isKept a_t_text a_t_refused a_t_numbers a_t_weights c_t_texted c_t_above c_t_below c_t_at c_t_start c_t_isWord c_t_isFigures c_t_all c_t_known c_t_truth c_t_x c_t_h c_t_w) (some (.int out)) := by
  unfold fX8_gain at hf
  refine pb_K.ofV (cc := cX8_gain) (maxL := 4) (ret := (some .int)) (lv0 := [(0, .ref a_t), (1, .int p1), (2, .int p2)]) (by decide) rfl (Nat.le_of_ble_eq_true rfl) rfl ?_
  intro p e s m below meth c A C hX hr hlk hA
  refine pb_aload_n (pc := 0) C dX8_gain_0 rfl 0 rfl ?_
  refine pb_get (pc := 1) C hnX8_gain_X8 0 rfl rfl 0 (by decide) (List.mem_of_getElem? (i := 1) rfl) rfl rfl dX8_gain_1 ?_
  refine pb_bipush (v := 59) (pc := 4) C dX8_gain_4 pb_kB_59 ?_
  refine pb_iconst (v := 5) (pc := 6) C dX8_gain_6 pb_kI_5 ?_
  refine pb_iload_n (pc := 7) C dX8_gain_7 rfl 1 rfl ?_
  refine pb_imul (pc := 8) C dX8_gain_8 ?_
  refine pb_iadd (pc := 9) C dX8_gain_9 ?_
  refine pb_iconst (v := 3) (pc := 10) C dX8_gain_10 pb_kI_3 ?_
  refine pb_iadd (pc := 11) C dX8_gain_11 ?_
  obtain ⟨g12, hf⟩ := pb_grd hf
  refine pb_iald (pc := 12) C 1 1 rfl rfl g12 dX8_gain_12 ?_
  obtain ⟨x13, ex13, hf⟩ := pb_bind hf
  have ex13 := Option.some.inj ex13
  refine pb_topi ex13 ?_
  refine pb_istore_n (lv' := [(3, .int x13), (0, .ref a_t), (1, .int p1), (2, .int p2)]) (pc := 13) C dX8_gain_13 rfl (by decide) rfl ?_
  refine pb_aload_n (pc := 14) C dX8_gain_14 rfl 1 rfl ?_
  refine pb_iload_n (pc := 15) C dX8_gain_15 rfl 2 rfl ?_
  refine pb_iload_n (pc := 16) C dX8_gain_16 rfl 3 rfl ?_
  obtain ⟨r17, hr17, hf⟩ := pb_bind hf
  refine pb_callV (pc := 17) (n0 := 2) (ws' := (wwX8_gain cyB cyI cyJ cyZ cyS a_t a_t_w a_t_isKept a_t_text a_t_refused a_t_numbers a_t_weights c_t_texted c_t_above c_t_below c_t_at c_t_start c_t_isWord c_t_isFigures c_t_all c_t_known c_t_truth c_t_x c_t_h c_t_w)) (rest := []) (st2 := [.int r17]) C (kcX8_wins l dC dI cyB cyI cyJ cyZ cyS a_t a_t_w a_t_isKept a_t_text a_t_refused a_t_numbers a_t_weights c_t_texted c_t_above c_t_below c_t_at c_t_start c_t_isWord c_t_isFigures c_t_all c_t_known c_t_truth c_t_x c_t_h c_t_w p1 p2 r17 hr17) pb_NW_b (pb_NW_x hX) (cwV 2 C.1.2.2.2.2 gX8_gain_X8_wins rfl rfl rfl kdV_X8_wins ⟨Nat.le_of_ble_eq_true rfl, Nat.le_of_ble_eq_true rfl⟩) 0 rfl rfl [0, 1] [] rfl rfl trivial rfl (by decide +kernel) (adl := [a_t, a_t_w]) rfl rfl rfl rfl rfl (Nat.le_of_ble_eq_true rfl) ⟨Nat.le_refl _, Nat.le_refl _⟩ dX8_gain_17 rfl ?_
  refine pb_if_eq (pc := 20) (tgt := 41) C dX8_gain_20 (by decide) (fun hc20 => ?_) (fun hc20 => ?_)
  · have hf := pb_pos hf hc20
    refine pb_iload_n (pc := 41) C dX8_gain_41 rfl 0 rfl ?_
    refine pb_ineg (pc := 42) C dX8_gain_42 ?_
    obtain rfl := Option.some.inj hf
    exact pb_iret (pc := 43) C hr hlk hA dX8_gain_43
  · have hf := pb_neg hf hc20
    refine pb_iload_n (pc := 23) C dX8_gain_23 rfl 0 rfl ?_
    refine pb_aload_n (pc := 24) C dX8_gain_24 rfl 1 rfl ?_
    refine pb_get (pc := 25) C hnX8_gain_X8 0 rfl rfl 0 (by decide) (List.mem_of_getElem? (i := 1) rfl) rfl rfl dX8_gain_25 ?_
    refine pb_bipush (v := 59) (pc := 28) C dX8_gain_28 pb_kB_59 ?_
    refine pb_iconst (v := 5) (pc := 30) C dX8_gain_30 pb_kI_5 ?_
    refine pb_iload_n (pc := 31) C dX8_gain_31 rfl 2 rfl ?_
    refine pb_imul (pc := 32) C dX8_gain_32 ?_
    refine pb_iadd (pc := 33) C dX8_gain_33 ?_
    refine pb_iconst (v := 4) (pc := 34) C dX8_gain_34 pb_kI_4 ?_
    refine pb_iadd (pc := 35) C dX8_gain_35 ?_
    obtain ⟨g36, hf⟩ := pb_grd hf
    refine pb_iald (pc := 36) C 1 1 rfl rfl g36 dX8_gain_36 ?_
    refine pb_imul (pc := 37) C dX8_gain_37 ?_
    refine pb_goto (pc := 38) (tgt := 43) C dX8_gain_38 (by decide) ?_
    obtain rfl := Option.some.inj hf
    exact pb_iret (pc := 43) C hr hlk hA dX8_gain_43
def rmX8_bookOf : Room := { frames := 4, cells := 0, slots := 0, locals := 91 }
def wwX8_bookOf (cyB cyI cyJ cyZ cyS : ClassId) (a_t a_t_w a_t_isKept a_t_text a_t_refused a_t_numbers a_t_weights : Nat) (c_t_texted : Int32) (c_t_above : Int64) (c_t_below : Int64) (c_t_at : Int32) (c_t_start : Int32) (c_t_isWord : Int32) (c_t_isFigures : Int32) (c_t_all : Int64) (c_t_known : Int32) (c_t_truth : Int32) (c_t_x : Int64) (c_t_h : Int64) (c_t_w : (Nat → Int32)) : va_W := [(a_t, .inr (8, [.ref a_t_w, .ref a_t_isKept, .ref a_t_text, .int c_t_texted, .ref a_t_refused, .long c_t_above, .long c_t_below, .int c_t_at, .int c_t_start, .int c_t_isWord, .int c_t_isFigures, .ref a_t_numbers, .ref a_t_weights, .long c_t_all, .int c_t_known, .int c_t_truth, .long c_t_x, .long c_t_h])), (a_t_w, .inl (cyI, 1508, .inl c_t_w))]
theorem hnX8_bookOf_X8 : ∀ w ∈ wsX80, w ∈ wsX8_bookOf := fun _ h => List.mem_cons_of_mem _ (List.mem_append_right _ h)
set_option maxHeartbeats 4000000 in
set_option maxRecDepth 100000 in
theorem kcX8_bookOf (l : Launch) (dC : Nat → ClassId) (dI : Nat → Nat → Nat) (cyB cyI cyJ cyZ cyS : ClassId) (a_t a_t_w a_t_isKept a_t_text a_t_refused a_t_numbers a_t_weights : Nat) (c_t_texted : Int32) (c_t_above : Int64) (c_t_below : Int64) (c_t_at : Int32) (c_t_start : Int32) (c_t_isWord : Int32) (c_t_isFigures : Int32) (c_t_all : Int64) (c_t_known : Int32) (c_t_truth : Int32) (c_t_x : Int64) (c_t_h : Int64) (c_t_w : (Nat → Int32)) (p1 : Int32) (out : Int32) (hf : fX8_bookOf c_t_w p1 = some out) : pb_K l yX8_bookOf wsX8_bookOf rmX8_bookOf (dC, dI) vwCl (pb_tys cyB cyI cyJ cyZ cyS) pb_NW [.ref a_t, .int p1] (wwX8_bookOf cyB cyI cyJ cyZ cyS a_t a_t_w a_t_isKept a_t_text a_t_refused a_t_numbers a_t_weights c_t_texted c_t_above c_t_below c_t_at c_t_start c_t_isWord c_t_isFigures c_t_all c_t_known c_t_truth c_t_x c_t_h c_t_w) (wwX8_bookOf cyB cyI cyJ cyZ cyS a_t a_t_w a_t_isKept a_t_text a_t_refused a_t_numbers a_t_weights c_t_texted c_t_above c_t_below c_t_at c_t_start c_t_isWord c_t_isFigures c_t_all c_t_known c_t_truth c_t_x c_t_h c_t_w) (some (.int out)) := by
  unfold fX8_bookOf at hf
  refine pb_K.ofV (cc := cX8_bookOf) (maxL := 4) (ret := (some .int)) (lv0 := [(0, .ref a_t), (1, .int p1)]) (by decide) rfl (Nat.le_of_ble_eq_true rfl) rfl ?_
  intro p e s m below meth c A C hX hr hlk hA
  refine pb_iconst (v := 0) (pc := 0) C dX8_bookOf_0 pb_kI_0 ?_
  refine pb_istore_n (lv' := [(2, .int 0), (0, .ref a_t), (1, .int p1)]) (pc := 1) C dX8_bookOf_1 rfl (by decide) rfl ?_
  refine pb_iconst (v := 0) (pc := 2) C dX8_bookOf_2 pb_kI_0 ?_
  refine pb_istore_n (lv' := [(3, .int 0), (2, .int 0), (0, .ref a_t), (1, .int p1)]) (pc := 3) C dX8_bookOf_3 rfl (by decide) rfl ?_
  obtain ⟨z4, hz4, hk4⟩ := pb_bind hf
  have E4 : ∀ (e4_2 : Int32) (e4_3 : Int32), fX8_bookOf_E4 e4_2 e4_3 = some out → pb_V p l e rmX8_bookOf s m (([.ref a_t, .int p1] : List Value).toArray) below meth c 4 (dC, dI) vwCl A 0 0 (pb_MQ below (([.ref a_t, .int p1] : List Value).toArray) s (dC, dI) vwCl (wwX8_bookOf cyB cyI cyJ cyZ cyS a_t a_t_w a_t_isKept a_t_text a_t_refused a_t_numbers a_t_weights c_t_texted c_t_above c_t_below c_t_at c_t_start c_t_isWord c_t_isFigures c_t_all c_t_known c_t_truth c_t_x c_t_h c_t_w) (wwX8_bookOf cyB cyI cyJ cyZ cyS a_t a_t_w a_t_isKept a_t_text a_t_refused a_t_numbers a_t_weights c_t_texted c_t_above c_t_below c_t_at c_t_start c_t_isWord c_t_isFigures c_t_all c_t_known c_t_truth c_t_x c_t_h c_t_w) (some (.int out)) A) (wwX8_bookOf cyB cyI cyJ cyZ cyS a_t a_t_w a_t_isKept a_t_text a_t_refused a_t_numbers a_t_weights c_t_texted c_t_above c_t_below c_t_at c_t_start c_t_isWord c_t_isFigures c_t_all c_t_known c_t_truth c_t_x c_t_h c_t_w) [(2, .int e4_2)] [] 29 := by
    intro e4_2 e4_3 hf
    unfold fX8_bookOf_E4 at hf
    refine pb_iload_n (pc := 29) C dX8_bookOf_29 rfl 0 rfl ?_
    obtain rfl := Option.some.inj hf
    exact pb_iret (pc := 30) C hr hlk hA dX8_bookOf_30
  have L4 : ∀ (n : Nat) (l4_2 : Int32) (l4_3 : Int32), pb_lp (fun y => fX8_bookOf_L4 c_t_w p1 y.1 y.2) n (l4_2, l4_3) = some z4 → pb_V p l e rmX8_bookOf s m (([.ref a_t, .int p1] : List Value).toArray) below meth c 4 (dC, dI) vwCl A 0 0 (pb_MQ below (([.ref a_t, .int p1] : List Value).toArray) s (dC, dI) vwCl (wwX8_bookOf cyB cyI cyJ cyZ cyS a_t a_t_w a_t_isKept a_t_text a_t_refused a_t_numbers a_t_weights c_t_texted c_t_above c_t_below c_t_at c_t_start c_t_isWord c_t_isFigures c_t_all c_t_known c_t_truth c_t_x c_t_h c_t_w) (wwX8_bookOf cyB cyI cyJ cyZ cyS a_t a_t_w a_t_isKept a_t_text a_t_refused a_t_numbers a_t_weights c_t_texted c_t_above c_t_below c_t_at c_t_start c_t_isWord c_t_isFigures c_t_all c_t_known c_t_truth c_t_x c_t_h c_t_w) (some (.int out)) A) (wwX8_bookOf cyB cyI cyJ cyZ cyS a_t a_t_w a_t_isKept a_t_text a_t_refused a_t_numbers a_t_weights c_t_texted c_t_above c_t_below c_t_at c_t_start c_t_isWord c_t_isFigures c_t_all c_t_known c_t_truth c_t_x c_t_h c_t_w) [(0, .ref a_t), (1, .int p1), (2, .int l4_2), (3, .int l4_3)] [] 4 := by
    intro n
    induction n with
    | zero => intro l4_2 l4_3 hf; exact (pb_lp_zero hf).elim
    | succ n ih4 =>
      intro l4_2 l4_3 hf
      obtain ⟨y4, hf, hl4⟩ := pb_lp_succ hf
      have hf : fX8_bookOf_L4 c_t_w p1 l4_2 l4_3 = some y4 := hf
      unfold fX8_bookOf_L4 at hf
      refine pb_iload_n (pc := 4) C dX8_bookOf_4 rfl 3 rfl ?_
      refine pb_aload_n (pc := 5) C dX8_bookOf_5 rfl 0 rfl ?_
      refine pb_get (pc := 6) C hnX8_bookOf_X8 0 rfl rfl 0 (by decide) (List.mem_of_getElem? (i := 1) rfl) rfl rfl dX8_bookOf_6 ?_
      refine pb_iconst (v := 2) (pc := 9) C dX8_bookOf_9 pb_kI_2 ?_
      refine pb_iald (pc := 10) C 1 1 rfl rfl pb_ok_2_1508 dX8_bookOf_10 ?_
      refine pb_topi (congrArg c_t_w pb_kN_2) ?_
      refine pb_icmp_ge (pc := 11) (tgt := 29) C dX8_bookOf_11 (by decide) (fun hc11 => ?_) (fun hc11 => ?_)
      · have hf := pb_pos hf hc11
        obtain rfl := Option.some.inj hf
        obtain rfl := pb_esc hl4
        refine pb_sub [2] rfl ?_
        exact E4 l4_2 l4_3 hk4
      · have hf := pb_neg hf hc11
        refine pb_iload_n (pc := 14) C dX8_bookOf_14 rfl 2 rfl ?_
        refine pb_aload_n (pc := 15) C dX8_bookOf_15 rfl 0 rfl ?_
        refine pb_iload_n (pc := 16) C dX8_bookOf_16 rfl 3 rfl ?_
        refine pb_iload_n (pc := 17) C dX8_bookOf_17 rfl 1 rfl ?_
        obtain ⟨r18, hr18, hf⟩ := pb_bind hf
        refine pb_callV (pc := 18) (n0 := 2) (ws' := (wwX8_bookOf cyB cyI cyJ cyZ cyS a_t a_t_w a_t_isKept a_t_text a_t_refused a_t_numbers a_t_weights c_t_texted c_t_above c_t_below c_t_at c_t_start c_t_isWord c_t_isFigures c_t_all c_t_known c_t_truth c_t_x c_t_h c_t_w)) (rest := [.int l4_2]) (st2 := [.int r18, .int l4_2]) C (kcX8_gain l dC dI cyB cyI cyJ cyZ cyS a_t a_t_w a_t_isKept a_t_text a_t_refused a_t_numbers a_t_weights c_t_texted c_t_above c_t_below c_t_at c_t_start c_t_isWord c_t_isFigures c_t_all c_t_known c_t_truth c_t_x c_t_h c_t_w l4_3 p1 r18 hr18) pb_NW_b (pb_NW_x hX) (cwV 2 C.1.2.2.2.2 gX8_bookOf_X8_gain rfl rfl rfl kdV_X8_gain ⟨Nat.le_of_ble_eq_true rfl, Nat.le_of_ble_eq_true rfl⟩) 0 rfl rfl [0, 1] [] rfl rfl trivial rfl (by decide +kernel) (adl := [a_t, a_t_w]) rfl rfl rfl rfl rfl (Nat.le_of_ble_eq_true rfl) ⟨Nat.le_refl _, Nat.le_refl _⟩ dX8_bookOf_18 rfl ?_
        refine pb_isub (pc := 21) C dX8_bookOf_21 ?_
        obtain ⟨x22, ex22, hf⟩ := pb_bind hf
        have ex22 := Option.some.inj ex22
        refine pb_topi ex22 ?_
        refine pb_istore_n (lv' := [(2, .int x22), (0, .ref a_t), (1, .int p1), (3, .int l4_3)]) (pc := 22) C dX8_bookOf_22 rfl (by decide) rfl ?_
        refine pb_iinc (v := l4_3 + 1) (lv' := [(3, .int (l4_3 + 1)), (2, .int x22), (0, .ref a_t), (1, .int p1)]) (pc := 23) C dX8_bookOf_23 3 rfl (pb_inc pb_kI_1 rfl) (by decide) rfl ?_
        refine pb_goto (pc := 26) (tgt := 4) C dX8_bookOf_26 (by decide) ?_
        obtain rfl := Option.some.inj hf
        refine pb_sub [2, 3, 1, 0] rfl ?_
        have hl4 := pb_inl hl4
        exact ih4 x22 (l4_3 + 1) hl4
  refine pb_sub [2, 3, 1, 0] rfl ?_
  exact L4 pb_FU 0 0 hz4
def rmX8_book : Room := { frames := 5, cells := 0, slots := 0, locals := 114 }
def wwX8_book (cyB cyI cyJ cyZ cyS : ClassId) (a_t a_t_w a_t_isKept a_t_text a_t_refused a_t_numbers a_t_weights : Nat) (c_t_texted : Int32) (c_t_above : Int64) (c_t_below : Int64) (c_t_at : Int32) (c_t_start : Int32) (c_t_isWord : Int32) (c_t_isFigures : Int32) (c_t_all : Int64) (c_t_known : Int32) (c_t_truth : Int32) (c_t_x : Int64) (c_t_h : Int64) (c_t_w : (Nat → Int32)) (c_t_refused : (Nat → Int32)) : va_W := [(a_t, .inr (8, [.ref a_t_w, .ref a_t_isKept, .ref a_t_text, .int c_t_texted, .ref a_t_refused, .long c_t_above, .long c_t_below, .int c_t_at, .int c_t_start, .int c_t_isWord, .int c_t_isFigures, .ref a_t_numbers, .ref a_t_weights, .long c_t_all, .int c_t_known, .int c_t_truth, .long c_t_x, .long c_t_h])), (a_t_w, .inl (cyI, 1508, .inl c_t_w)), (a_t_refused, .inl (cyI, 3, .inl c_t_refused))]
set_option maxHeartbeats 4000000 in
set_option maxRecDepth 100000 in
theorem kcX8_book (l : Launch) (dC : Nat → ClassId) (dI : Nat → Nat → Nat) (cyB cyI cyJ cyZ cyS : ClassId) (a_t a_t_w a_t_isKept a_t_text a_t_refused a_t_numbers a_t_weights : Nat) (c_t_texted : Int32) (c_t_above : Int64) (c_t_below : Int64) (c_t_at : Int32) (c_t_start : Int32) (c_t_isWord : Int32) (c_t_isFigures : Int32) (c_t_all : Int64) (c_t_known : Int32) (c_t_truth : Int32) (c_t_x : Int64) (c_t_h : Int64) (c_t_w : (Nat → Int32)) (c_t_refused : (Nat → Int32)) (p1 : Int32) (out : (Int32 × (Nat → Int32))) (hf : fX8_book c_t_w c_t_refused p1 = some out) : pb_K l yX8_book wsX8_book rmX8_book (dC, dI) vwCl (pb_tys cyB cyI cyJ cyZ cyS) pb_NW [.ref a_t, .int p1] (wwX8_book cyB cyI cyJ cyZ cyS a_t a_t_w a_t_isKept a_t_text a_t_refused a_t_numbers a_t_weights c_t_texted c_t_above c_t_below c_t_at c_t_start c_t_isWord c_t_isFigures c_t_all c_t_known c_t_truth c_t_x c_t_h c_t_w c_t_refused) (wwX8_book cyB cyI cyJ cyZ cyS a_t a_t_w a_t_isKept a_t_text a_t_refused a_t_numbers a_t_weights c_t_texted c_t_above c_t_below c_t_at c_t_start c_t_isWord c_t_isFigures c_t_all c_t_known c_t_truth c_t_x c_t_h c_t_w out.2) (some (.int out.1)) := by
  unfold fX8_book at hf
  refine pb_K.ofV (cc := cX8_book) (maxL := 2) (ret := (some .int)) (lv0 := [(0, .ref a_t), (1, .int p1)]) (by decide) rfl (Nat.le_of_ble_eq_true rfl) rfl ?_
  intro p e s m below meth c A C hX hr hlk hA
  refine pb_iload_n (pc := 0) C dX8_book_0 rfl 1 rfl ?_
  obtain ⟨r1, hr1, hf⟩ := pb_bind hf
  refine pb_callS (pc := 1) (n0 := 3) (ws' := (wwX8_book cyB cyI cyJ cyZ cyS a_t a_t_w a_t_isKept a_t_text a_t_refused a_t_numbers a_t_weights c_t_texted c_t_above c_t_below c_t_at c_t_start c_t_isWord c_t_isFigures c_t_all c_t_known c_t_truth c_t_x c_t_h c_t_w c_t_refused)) (rest := []) (st2 := [.int r1]) C (kcX8_isPast l dC dI cyB cyI cyJ cyZ cyS p1 r1 hr1) pb_NW_b (pb_NW_x hX) (va_cwS 1 C.1.2.2.2.2 gX8_book_X8_isPast rfl rfl rfl kdS_X8_isPast ⟨Nat.le_of_ble_eq_true rfl, Nat.le_of_ble_eq_true rfl⟩) [] [0, 1, 2] rfl rfl ⟨⟨_, rfl, rfl⟩, ⟨⟨_, rfl, rfl⟩, ⟨⟨_, rfl, rfl⟩, trivial⟩⟩⟩ rfl (by decide +kernel) (adl := []) rfl rfl rfl rfl rfl (Nat.le_of_ble_eq_true rfl) ⟨Nat.le_refl _, Nat.le_refl _⟩ dX8_book_1 rfl ?_
  refine pb_if_eq (pc := 4) (tgt := 15) C dX8_book_4 (by decide) (fun hc4 => ?_) (fun hc4 => ?_)
  · have hf := pb_pos hf hc4
    refine pb_aload_n (pc := 15) C dX8_book_15 rfl 0 rfl ?_
    refine pb_ldc (v := (-100000)) (pc := 16) C dX8_book_16 (List.mem_of_getElem? (i := 1) rfl) ?_
    obtain ⟨r18, hr18, hf⟩ := pb_bind hf
    refine pb_callV (pc := 18) (n0 := 3) (ws' := (wwX8_book cyB cyI cyJ cyZ cyS a_t a_t_w a_t_isKept a_t_text a_t_refused a_t_numbers a_t_weights c_t_texted c_t_above c_t_below c_t_at c_t_start c_t_isWord c_t_isFigures c_t_all c_t_known c_t_truth c_t_x c_t_h c_t_w r18.2)) (rest := []) (st2 := [.int r18.1]) C (kcX8_badAs l dC dI cyB cyI cyJ cyZ cyS a_t a_t_w a_t_isKept a_t_text a_t_refused a_t_numbers a_t_weights c_t_texted c_t_above c_t_below c_t_at c_t_start c_t_isWord c_t_isFigures c_t_all c_t_known c_t_truth c_t_x c_t_h c_t_refused (-100000) r18 hr18) pb_NW_b (pb_NW_x hX) (cwV 1 C.1.2.2.2.2 gX8_book_X8_badAs rfl rfl rfl kdV_X8_badAs ⟨Nat.le_of_ble_eq_true rfl, Nat.le_of_ble_eq_true rfl⟩) 0 rfl rfl [0, 2] [1] rfl rfl ⟨⟨_, rfl, rfl⟩, trivial⟩ rfl (by decide +kernel) (adl := [a_t, a_t_refused]) rfl rfl rfl rfl rfl (Nat.le_of_ble_eq_true rfl) ⟨Nat.le_refl _, Nat.le_refl _⟩ dX8_book_18 rfl ?_
    obtain rfl := Option.some.inj hf
    exact pb_iret (pc := 21) C hr hlk hA dX8_book_21
  · have hf := pb_neg hf hc4
    refine pb_aload_n (pc := 7) C dX8_book_7 rfl 0 rfl ?_
    refine pb_iload_n (pc := 8) C dX8_book_8 rfl 1 rfl ?_
    obtain ⟨r9, hr9, hf⟩ := pb_bind hf
    refine pb_callV (pc := 9) (n0 := 3) (ws' := (wwX8_book cyB cyI cyJ cyZ cyS a_t a_t_w a_t_isKept a_t_text a_t_refused a_t_numbers a_t_weights c_t_texted c_t_above c_t_below c_t_at c_t_start c_t_isWord c_t_isFigures c_t_all c_t_known c_t_truth c_t_x c_t_h c_t_w c_t_refused)) (rest := []) (st2 := [.int r9]) C (kcX8_bookOf l dC dI cyB cyI cyJ cyZ cyS a_t a_t_w a_t_isKept a_t_text a_t_refused a_t_numbers a_t_weights c_t_texted c_t_above c_t_below c_t_at c_t_start c_t_isWord c_t_isFigures c_t_all c_t_known c_t_truth c_t_x c_t_h c_t_w p1 r9 hr9) pb_NW_b (pb_NW_x hX) (cwV 1 C.1.2.2.2.2 gX8_book_X8_bookOf rfl rfl rfl kdV_X8_bookOf ⟨Nat.le_of_ble_eq_true rfl, Nat.le_of_ble_eq_true rfl⟩) 0 rfl rfl [0, 1] [2] rfl rfl ⟨⟨_, rfl, rfl⟩, trivial⟩ rfl (by decide +kernel) (adl := [a_t, a_t_w]) rfl rfl rfl rfl rfl (Nat.le_of_ble_eq_true rfl) ⟨Nat.le_refl _, Nat.le_refl _⟩ dX8_book_9 rfl ?_
    refine pb_goto (pc := 12) (tgt := 21) C dX8_book_12 (by decide) ?_
    obtain rfl := Option.some.inj hf
    exact pb_iret (pc := 21) C hr hlk hA dX8_book_21
def rmX8_worst : Room := { frames := 5, cells := 0, slots := 0, locals := 116 }
def wwX8_worst (cyB cyI cyJ cyZ cyS : ClassId) (a_t a_t_w a_t_isKept a_t_text a_t_refused a_t_numbers a_t_weights : Nat) (c_t_texted : Int32) (c_t_above : Int64) (c_t_below : Int64) (c_t_at : Int32) (c_t_start : Int32) (c_t_isWord : Int32) (c_t_isFigures : Int32) (c_t_all : Int64) (c_t_known : Int32) (c_t_truth : Int32) (c_t_x : Int64) (c_t_h : Int64) (c_t_w : (Nat → Int32)) (c_t_refused : (Nat → Int32)) (c_t_weights : (Nat → Int64)) : va_W := [(a_t, .inr (8, [.ref a_t_w, .ref a_t_isKept, .ref a_t_text, .int c_t_texted, .ref a_t_refused, .long c_t_above, .long c_t_below, .int c_t_at, .int c_t_start, .int c_t_isWord, .int c_t_isFigures, .ref a_t_numbers, .ref a_t_weights, .long c_t_all, .int c_t_known, .int c_t_truth, .long c_t_x, .long c_t_h])), (a_t_w, .inl (cyI, 1508, .inl c_t_w)), (a_t_refused, .inl (cyI, 3, .inl c_t_refused)), (a_t_weights, .inl (cyJ, 128, .inr (.inl c_t_weights)))]
theorem hnX8_worst_X8 : ∀ w ∈ wsX80, w ∈ wsX8_worst := fun _ h => List.mem_cons_of_mem _ (List.mem_append_right _ h)
set_option maxHeartbeats 4000000 in
set_option maxRecDepth 100000 in
theorem kcX8_worst (l : Launch) (dC : Nat → ClassId) (dI : Nat → Nat → Nat) (cyB cyI cyJ cyZ cyS : ClassId) (a_t a_t_w a_t_isKept a_t_text a_t_refused a_t_numbers a_t_weights : Nat) (c_t_texted : Int32) (c_t_above : Int64) (c_t_below : Int64) (c_t_at : Int32) (c_t_start : Int32) (c_t_isWord : Int32) (c_t_isFigures : Int32) (c_t_all : Int64) (c_t_known : Int32) (c_t_truth : Int32) (c_t_x : Int64) (c_t_h : Int64) (c_t_w : (Nat → Int32)) (c_t_refused : (Nat → Int32)) (c_t_weights : (Nat → Int64)) (p1 : Int32) (out : (Int32 × Int64 × (Nat → Int32) × (Nat → Int64))) (hf : fX8_worst c_t_all c_t_w c_t_refused c_t_weights p1 = some out) : pb_K l yX8_worst wsX8_worst rmX8_worst (dC, dI) vwCl (pb_tys cyB cyI cyJ cyZ cyS) pb_NW [.ref a_t, .int p1] (wwX8_worst cyB cyI cyJ cyZ cyS a_t a_t_w a_t_isKept a_t_text a_t_refused a_t_numbers a_t_weights c_t_texted c_t_above c_t_below c_t_at c_t_start c_t_isWord c_t_isFigures c_t_all c_t_known c_t_truth c_t_x c_t_h c_t_w c_t_refused c_t_weights) (wwX8_worst cyB cyI cyJ cyZ cyS a_t a_t_w a_t_isKept a_t_text a_t_refused a_t_numbers a_t_weights c_t_texted c_t_above c_t_below c_t_at c_t_start c_t_isWord c_t_isFigures out.2.1 c_t_known c_t_truth c_t_x c_t_h c_t_w out.2.2.1 out.2.2.2) (some (.int out.1)) := by
  unfold fX8_worst at hf
  refine pb_K.ofV (cc := cX8_worst) (maxL := 4) (ret := (some .int)) (lv0 := [(0, .ref a_t), (1, .int p1)]) (by decide) rfl (Nat.le_of_ble_eq_true rfl) rfl ?_
  intro p e s m below meth c A C hX hr hlk hA
  refine pb_iload_n (pc := 0) C dX8_worst_0 rfl 1 rfl ?_
  refine pb_i2l (pc := 1) C dX8_worst_1 ?_
  refine pb_lconst (v := 0) (pc := 2) C dX8_worst_2 pb_kL_0 ?_
  refine pb_lconst (v := 1) (pc := 3) C dX8_worst_3 pb_kL_1 ?_
  obtain ⟨r4, hr4, hf⟩ := pb_bind hf
  refine pb_callS (pc := 4) (n0 := 4) (ws' := (wwX8_worst cyB cyI cyJ cyZ cyS a_t a_t_w a_t_isKept a_t_text a_t_refused a_t_numbers a_t_weights c_t_texted c_t_above c_t_below c_t_at c_t_start c_t_isWord c_t_isFigures c_t_all c_t_known c_t_truth c_t_x c_t_h c_t_w c_t_refused c_t_weights)) (rest := []) (st2 := [.int r4]) C (kcX8_in l dC dI cyB cyI cyJ cyZ cyS (Int32.toInt64 p1) 0 1 r4 hr4) pb_NW_b (pb_NW_x hX) (va_cwS 3 C.1.2.2.2.2 gX8_worst_X8_in rfl rfl rfl kdS_X8_in ⟨Nat.le_of_ble_eq_true rfl, Nat.le_of_ble_eq_true rfl⟩) [] [0, 1, 2, 3] rfl rfl ⟨⟨_, rfl, rfl⟩, ⟨⟨_, rfl, rfl⟩, ⟨⟨_, rfl, rfl⟩, ⟨⟨_, rfl, rfl⟩, trivial⟩⟩⟩⟩ rfl (by decide +kernel) (adl := []) rfl rfl rfl rfl rfl (Nat.le_of_ble_eq_true rfl) ⟨Nat.le_refl _, Nat.le_refl _⟩ dX8_worst_4 rfl ?_
  refine pb_if_ne (pc := 7) (tgt := 17) C dX8_worst_7 (by decide) (fun hc7 => ?_) (fun hc7 => ?_)
  · have hf := pb_neg hf hc7
    refine pb_aload_n (pc := 17) C dX8_worst_17 rfl 0 rfl ?_
    obtain ⟨r18, hr18, hf⟩ := pb_bind hf
    refine pb_callV (pc := 18) (n0 := 4) (ws' := (wwX8_worst cyB cyI cyJ cyZ cyS a_t a_t_w a_t_isKept a_t_text a_t_refused a_t_numbers a_t_weights c_t_texted c_t_above c_t_below c_t_at c_t_start c_t_isWord c_t_isFigures r18.2.1 c_t_known c_t_truth c_t_x c_t_h c_t_w c_t_refused r18.2.2)) (rest := []) (st2 := [.int r18.1]) C (kcX8_fits l dC dI cyB cyI cyJ cyZ cyS a_t a_t_w a_t_isKept a_t_text a_t_refused a_t_numbers a_t_weights c_t_texted c_t_above c_t_below c_t_at c_t_start c_t_isWord c_t_isFigures c_t_all c_t_known c_t_truth c_t_x c_t_h c_t_w c_t_weights r18 hr18) pb_NW_b (pb_NW_x hX) (cwV 0 C.1.2.2.2.2 gX8_worst_X8_fits rfl rfl rfl kdV_X8_fits ⟨Nat.le_of_ble_eq_true rfl, Nat.le_of_ble_eq_true rfl⟩) 0 rfl rfl [0, 1, 3] [2] rfl rfl ⟨⟨_, rfl, rfl⟩, trivial⟩ rfl (by decide +kernel) (adl := [a_t, a_t_w, a_t_weights]) rfl rfl rfl rfl rfl (Nat.le_of_ble_eq_true rfl) ⟨Nat.le_refl _, Nat.le_refl _⟩ dX8_worst_18 rfl ?_
    refine pb_if_ne (pc := 21) (tgt := 31) C dX8_worst_21 (by decide) (fun hc21 => ?_) (fun hc21 => ?_)
    · have hf := pb_neg hf hc21
      refine pb_iconst (v := (-1)) (pc := 31) C dX8_worst_31 pb_kI_m1 ?_
      refine pb_istore_n (lv' := [(2, .int (-1)), (0, .ref a_t), (1, .int p1)]) (pc := 32) C dX8_worst_32 rfl (by decide) rfl ?_
      refine pb_iconst (v := 0) (pc := 33) C dX8_worst_33 pb_kI_0 ?_
      refine pb_istore_n (lv' := [(3, .int 0), (2, .int (-1)), (0, .ref a_t), (1, .int p1)]) (pc := 34) C dX8_worst_34 rfl (by decide) rfl ?_
      obtain ⟨z35, hz35, hk35⟩ := pb_bind hf
      have E35 : ∀ (e35_2 : Int32) (e35_3 : Int32), fX8_worst_E35 c_t_w c_t_refused p1 r18 e35_2 e35_3 = some out → pb_V p l e rmX8_worst s m (([.ref a_t, .int p1] : List Value).toArray) below meth c 4 (dC, dI) vwCl A 0 0 (pb_MQ below (([.ref a_t, .int p1] : List Value).toArray) s (dC, dI) vwCl (wwX8_worst cyB cyI cyJ cyZ cyS a_t a_t_w a_t_isKept a_t_text a_t_refused a_t_numbers a_t_weights c_t_texted c_t_above c_t_below c_t_at c_t_start c_t_isWord c_t_isFigures c_t_all c_t_known c_t_truth c_t_x c_t_h c_t_w c_t_refused c_t_weights) (wwX8_worst cyB cyI cyJ cyZ cyS a_t a_t_w a_t_isKept a_t_text a_t_refused a_t_numbers a_t_weights c_t_texted c_t_above c_t_below c_t_at c_t_start c_t_isWord c_t_isFigures out.2.1 c_t_known c_t_truth c_t_x c_t_h c_t_w out.2.2.1 out.2.2.2) (some (.int out.1)) A) (wwX8_worst cyB cyI cyJ cyZ cyS a_t a_t_w a_t_isKept a_t_text a_t_refused a_t_numbers a_t_weights c_t_texted c_t_above c_t_below c_t_at c_t_start c_t_isWord c_t_isFigures r18.2.1 c_t_known c_t_truth c_t_x c_t_h c_t_w c_t_refused r18.2.2) [(0, .ref a_t), (1, .int p1), (2, .int e35_2)] [] 83 := by
        intro e35_2 e35_3 hf
        unfold fX8_worst_E35 at hf
        refine pb_iload_n (pc := 83) C dX8_worst_83 rfl 1 rfl ?_
        refine pb_iconst (v := 1) (pc := 84) C dX8_worst_84 pb_kI_1 ?_
        refine pb_icmp_ne (pc := 85) (tgt := 92) C dX8_worst_85 (by decide) (fun hc85 => ?_) (fun hc85 => ?_)
        · have hf := pb_neg hf hc85
          refine pb_aload_n (pc := 92) C dX8_worst_92 rfl 0 rfl ?_
          refine pb_iload_n (pc := 93) C dX8_worst_93 rfl 2 rfl ?_
          obtain ⟨r94, hr94, hf⟩ := pb_bind hf
          refine pb_callV (pc := 94) (n0 := 4) (ws' := (wwX8_worst cyB cyI cyJ cyZ cyS a_t a_t_w a_t_isKept a_t_text a_t_refused a_t_numbers a_t_weights c_t_texted c_t_above c_t_below c_t_at c_t_start c_t_isWord c_t_isFigures r18.2.1 c_t_known c_t_truth c_t_x c_t_h c_t_w c_t_refused r18.2.2)) (rest := []) (st2 := [.int r94]) C (kcX8_bookOf l dC dI cyB cyI cyJ cyZ cyS a_t a_t_w a_t_isKept a_t_text a_t_refused a_t_numbers a_t_weights c_t_texted c_t_above c_t_below c_t_at c_t_start c_t_isWord c_t_isFigures r18.2.1 c_t_known c_t_truth c_t_x c_t_h c_t_w e35_2 r94 hr94) pb_NW_b (pb_NW_x hX) (cwV 1 C.1.2.2.2.2 gX8_worst_X8_bookOf rfl rfl rfl kdV_X8_bookOf ⟨Nat.le_of_ble_eq_true rfl, Nat.le_of_ble_eq_true rfl⟩) 0 rfl rfl [0, 1] [2, 3] rfl rfl ⟨⟨_, rfl, rfl⟩, ⟨⟨_, rfl, rfl⟩, trivial⟩⟩ rfl (by decide +kernel) (adl := [a_t, a_t_w]) rfl rfl rfl rfl rfl (Nat.le_of_ble_eq_true rfl) ⟨Nat.le_refl _, Nat.le_refl _⟩ dX8_worst_94 rfl ?_
          obtain rfl := Option.some.inj hf
          exact pb_iret (pc := 97) C hr hlk hA dX8_worst_97
        · have hf := pb_pos hf hc85
          refine pb_iload_n (pc := 88) C dX8_worst_88 rfl 2 rfl ?_
          refine pb_goto (pc := 89) (tgt := 97) C dX8_worst_89 (by decide) ?_
          obtain rfl := Option.some.inj hf
          exact pb_iret (pc := 97) C hr hlk hA dX8_worst_97
      have L35 : ∀ (n : Nat) (l35_2 : Int32) (l35_3 : Int32), pb_lp (fun y => fX8_worst_L35 c_t_w r18 y.1 y.2) n (l35_2, l35_3) = some z35 → pb_V p l e rmX8_worst s m (([.ref a_t, .int p1] : List Value).toArray) below meth c 4 (dC, dI) vwCl A 0 0 (pb_MQ below (([.ref a_t, .int p1] : List Value).toArray) s (dC, dI) vwCl (wwX8_worst cyB cyI cyJ cyZ cyS a_t a_t_w a_t_isKept a_t_text a_t_refused a_t_numbers a_t_weights c_t_texted c_t_above c_t_below c_t_at c_t_start c_t_isWord c_t_isFigures c_t_all c_t_known c_t_truth c_t_x c_t_h c_t_w c_t_refused c_t_weights) (wwX8_worst cyB cyI cyJ cyZ cyS a_t a_t_w a_t_isKept a_t_text a_t_refused a_t_numbers a_t_weights c_t_texted c_t_above c_t_below c_t_at c_t_start c_t_isWord c_t_isFigures out.2.1 c_t_known c_t_truth c_t_x c_t_h c_t_w out.2.2.1 out.2.2.2) (some (.int out.1)) A) (wwX8_worst cyB cyI cyJ cyZ cyS a_t a_t_w a_t_isKept a_t_text a_t_refused a_t_numbers a_t_weights c_t_texted c_t_above c_t_below c_t_at c_t_start c_t_isWord c_t_isFigures r18.2.1 c_t_known c_t_truth c_t_x c_t_h c_t_w c_t_refused r18.2.2) [(0, .ref a_t), (1, .int p1), (2, .int l35_2), (3, .int l35_3)] [] 35 := by
        intro n
        induction n with
        | zero => intro l35_2 l35_3 hf; exact (pb_lp_zero hf).elim
        | succ n ih35 =>
          intro l35_2 l35_3 hf
          obtain ⟨y35, hf, hl35⟩ := pb_lp_succ hf
          have hf : fX8_worst_L35 c_t_w r18 l35_2 l35_3 = some y35 := hf
          unfold fX8_worst_L35 at hf
          refine pb_iload_n (pc := 35) C dX8_worst_35 rfl 3 rfl ?_
          refine pb_sipush (v := 128) (pc := 36) C dX8_worst_36 pb_kS_128 ?_
          refine pb_icmp_ge (pc := 39) (tgt := 83) C dX8_worst_39 (by decide) (fun hc39 => ?_) (fun hc39 => ?_)
          · have hf := pb_pos hf hc39
            obtain rfl := Option.some.inj hf
            obtain rfl := pb_esc hl35
            refine pb_sub [0, 1, 2] rfl ?_
            exact E35 l35_2 l35_3 hk35
          · have hf := pb_neg hf hc39
            refine pb_aload_n (pc := 42) C dX8_worst_42 rfl 0 rfl ?_
            refine pb_get (pc := 43) C hnX8_worst_X8 0 rfl rfl 12 (by decide) (List.mem_of_getElem? (i := 3) rfl) rfl rfl dX8_worst_43 ?_
            refine pb_iload_n (pc := 46) C dX8_worst_46 rfl 3 rfl ?_
            obtain ⟨g47, hf⟩ := pb_grd hf
            refine pb_lald (pc := 47) C 3 2 rfl rfl g47 dX8_worst_47 ?_
            refine pb_lconst (v := 0) (pc := 48) C dX8_worst_48 pb_kL_0 ?_
            refine pb_lif_le (pc := 49) (tgt := 75) C dX8_worst_49 dX8_worst_50 (by decide) (fun hc49 => ?_) (fun hc49 => ?_)
            · have hf := pb_pos hf hc49
              refine pb_iload_n (pc := 75) C dX8_worst_75 rfl 2 rfl ?_
              refine pb_istore_n (lv' := [(2, .int l35_2), (0, .ref a_t), (1, .int p1), (3, .int l35_3)]) (pc := 76) C dX8_worst_76 rfl (by decide) rfl ?_
              refine pb_iinc (v := l35_3 + 1) (lv' := [(3, .int (l35_3 + 1)), (2, .int l35_2), (0, .ref a_t), (1, .int p1)]) (pc := 77) C dX8_worst_77 3 rfl (pb_inc pb_kI_1 rfl) (by decide) rfl ?_
              refine pb_goto (pc := 80) (tgt := 35) C dX8_worst_80 (by decide) ?_
              obtain rfl := Option.some.inj hf
              refine pb_sub [2, 3, 1, 0] rfl ?_
              have hl35 := pb_inl hl35
              exact ih35 l35_2 (l35_3 + 1) hl35
            · have hf := pb_neg hf hc49
              refine pb_iload_n (pc := 53) C dX8_worst_53 rfl 2 rfl ?_
              refine pb_iconst (v := (-1)) (pc := 54) C dX8_worst_54 pb_kI_m1 ?_
              refine pb_icmp_eq (pc := 55) (tgt := 71) C dX8_worst_55 (by decide) (fun hc55 => ?_) (fun hc55 => ?_)
              · have hf := pb_pos hf hc55
                refine pb_iload_n (pc := 71) C dX8_worst_71 rfl 3 rfl ?_
                refine pb_goto (pc := 72) (tgt := 76) C dX8_worst_72 (by decide) ?_
                refine pb_istore_n (lv' := [(2, .int l35_3), (0, .ref a_t), (1, .int p1), (3, .int l35_3)]) (pc := 76) C dX8_worst_76 rfl (by decide) rfl ?_
                refine pb_iinc (v := l35_3 + 1) (lv' := [(3, .int (l35_3 + 1)), (2, .int l35_3), (0, .ref a_t), (1, .int p1)]) (pc := 77) C dX8_worst_77 3 rfl (pb_inc pb_kI_1 rfl) (by decide) rfl ?_
                refine pb_goto (pc := 80) (tgt := 35) C dX8_worst_80 (by decide) ?_
                obtain rfl := Option.some.inj hf
                refine pb_sub [2, 3, 1, 0] rfl ?_
                have hl35 := pb_inl hl35
                exact ih35 l35_3 (l35_3 + 1) hl35
              · have hf := pb_neg hf hc55
                refine pb_aload_n (pc := 58) C dX8_worst_58 rfl 0 rfl ?_
                refine pb_iload_n (pc := 59) C dX8_worst_59 rfl 3 rfl ?_
                obtain ⟨r60, hr60, hf⟩ := pb_bind hf
                refine pb_callV (pc := 60) (n0 := 4) (ws' := (wwX8_worst cyB cyI cyJ cyZ cyS a_t a_t_w a_t_isKept a_t_text a_t_refused a_t_numbers a_t_weights c_t_texted c_t_above c_t_below c_t_at c_t_start c_t_isWord c_t_isFigures r18.2.1 c_t_known c_t_truth c_t_x c_t_h c_t_w c_t_refused r18.2.2)) (rest := []) (st2 := [.int r60]) C (kcX8_bookOf l dC dI cyB cyI cyJ cyZ cyS a_t a_t_w a_t_isKept a_t_text a_t_refused a_t_numbers a_t_weights c_t_texted c_t_above c_t_below c_t_at c_t_start c_t_isWord c_t_isFigures r18.2.1 c_t_known c_t_truth c_t_x c_t_h c_t_w l35_3 r60 hr60) pb_NW_b (pb_NW_x hX) (cwV 1 C.1.2.2.2.2 gX8_worst_X8_bookOf rfl rfl rfl kdV_X8_bookOf ⟨Nat.le_of_ble_eq_true rfl, Nat.le_of_ble_eq_true rfl⟩) 0 rfl rfl [0, 1] [2, 3] rfl rfl ⟨⟨_, rfl, rfl⟩, ⟨⟨_, rfl, rfl⟩, trivial⟩⟩ rfl (by decide +kernel) (adl := [a_t, a_t_w]) rfl rfl rfl rfl rfl (Nat.le_of_ble_eq_true rfl) ⟨Nat.le_refl _, Nat.le_refl _⟩ dX8_worst_60 rfl ?_
                refine pb_aload_n (pc := 63) C dX8_worst_63 rfl 0 rfl ?_
                refine pb_iload_n (pc := 64) C dX8_worst_64 rfl 2 rfl ?_
                obtain ⟨r65, hr65, hf⟩ := pb_bind hf
                refine pb_callV (pc := 65) (n0 := 4) (ws' := (wwX8_worst cyB cyI cyJ cyZ cyS a_t a_t_w a_t_isKept a_t_text a_t_refused a_t_numbers a_t_weights c_t_texted c_t_above c_t_below c_t_at c_t_start c_t_isWord c_t_isFigures r18.2.1 c_t_known c_t_truth c_t_x c_t_h c_t_w c_t_refused r18.2.2)) (rest := [.int r60]) (st2 := [.int r65, .int r60]) C (kcX8_bookOf l dC dI cyB cyI cyJ cyZ cyS a_t a_t_w a_t_isKept a_t_text a_t_refused a_t_numbers a_t_weights c_t_texted c_t_above c_t_below c_t_at c_t_start c_t_isWord c_t_isFigures r18.2.1 c_t_known c_t_truth c_t_x c_t_h c_t_w l35_2 r65 hr65) pb_NW_b (pb_NW_x hX) (cwV 1 C.1.2.2.2.2 gX8_worst_X8_bookOf rfl rfl rfl kdV_X8_bookOf ⟨Nat.le_of_ble_eq_true rfl, Nat.le_of_ble_eq_true rfl⟩) 0 rfl rfl [0, 1] [2, 3] rfl rfl ⟨⟨_, rfl, rfl⟩, ⟨⟨_, rfl, rfl⟩, trivial⟩⟩ rfl (by decide +kernel) (adl := [a_t, a_t_w]) rfl rfl rfl rfl rfl (Nat.le_of_ble_eq_true rfl) ⟨Nat.le_refl _, Nat.le_refl _⟩ dX8_worst_65 rfl ?_
                refine pb_icmp_ge (pc := 68) (tgt := 75) C dX8_worst_68 (by decide) (fun hc68 => ?_) (fun hc68 => ?_)
                · have hf := pb_pos hf hc68
                  refine pb_iload_n (pc := 75) C dX8_worst_75 rfl 2 rfl ?_
                  refine pb_istore_n (lv' := [(2, .int l35_2), (0, .ref a_t), (1, .int p1), (3, .int l35_3)]) (pc := 76) C dX8_worst_76 rfl (by decide) rfl ?_
                  refine pb_iinc (v := l35_3 + 1) (lv' := [(3, .int (l35_3 + 1)), (2, .int l35_2), (0, .ref a_t), (1, .int p1)]) (pc := 77) C dX8_worst_77 3 rfl (pb_inc pb_kI_1 rfl) (by decide) rfl ?_
                  refine pb_goto (pc := 80) (tgt := 35) C dX8_worst_80 (by decide) ?_
                  obtain rfl := Option.some.inj hf
                  refine pb_sub [2, 3, 1, 0] rfl ?_
                  have hl35 := pb_inl hl35
                  exact ih35 l35_2 (l35_3 + 1) hl35
                · have hf := pb_neg hf hc68
                  refine pb_iload_n (pc := 71) C dX8_worst_71 rfl 3 rfl ?_
                  refine pb_goto (pc := 72) (tgt := 76) C dX8_worst_72 (by decide) ?_
                  refine pb_istore_n (lv' := [(2, .int l35_3), (0, .ref a_t), (1, .int p1), (3, .int l35_3)]) (pc := 76) C dX8_worst_76 rfl (by decide) rfl ?_
                  refine pb_iinc (v := l35_3 + 1) (lv' := [(3, .int (l35_3 + 1)), (2, .int l35_3), (0, .ref a_t), (1, .int p1)]) (pc := 77) C dX8_worst_77 3 rfl (pb_inc pb_kI_1 rfl) (by decide) rfl ?_
                  refine pb_goto (pc := 80) (tgt := 35) C dX8_worst_80 (by decide) ?_
                  obtain rfl := Option.some.inj hf
                  refine pb_sub [2, 3, 1, 0] rfl ?_
                  have hl35 := pb_inl hl35
                  exact ih35 l35_3 (l35_3 + 1) hl35
      refine pb_sub [2, 3, 1, 0] rfl ?_
      exact L35 pb_FU (-1) 0 hz35
    · have hf := pb_pos hf hc21
      refine pb_aload_n (pc := 24) C dX8_worst_24 rfl 0 rfl ?_
      refine pb_ldc (v := (-99999)) (pc := 25) C dX8_worst_25 (List.mem_of_getElem? (i := 2) rfl) ?_
      obtain ⟨r27, hr27, hf⟩ := pb_bind hf
      refine pb_callV (pc := 27) (n0 := 4) (ws' := (wwX8_worst cyB cyI cyJ cyZ cyS a_t a_t_w a_t_isKept a_t_text a_t_refused a_t_numbers a_t_weights c_t_texted c_t_above c_t_below c_t_at c_t_start c_t_isWord c_t_isFigures r18.2.1 c_t_known c_t_truth c_t_x c_t_h c_t_w r27.2 r18.2.2)) (rest := []) (st2 := [.int r27.1]) C (kcX8_noAs l dC dI cyB cyI cyJ cyZ cyS a_t a_t_w a_t_isKept a_t_text a_t_refused a_t_numbers a_t_weights c_t_texted c_t_above c_t_below c_t_at c_t_start c_t_isWord c_t_isFigures r18.2.1 c_t_known c_t_truth c_t_x c_t_h c_t_refused (-99999) r27 hr27) pb_NW_b (pb_NW_x hX) (cwV 1 C.1.2.2.2.2 gX8_worst_X8_noAs rfl rfl rfl kdV_X8_noAs ⟨Nat.le_of_ble_eq_true rfl, Nat.le_of_ble_eq_true rfl⟩) 0 rfl rfl [0, 2] [1, 3] rfl rfl ⟨⟨_, rfl, rfl⟩, ⟨⟨_, rfl, rfl⟩, trivial⟩⟩ rfl (by decide +kernel) (adl := [a_t, a_t_refused]) rfl rfl rfl rfl rfl (Nat.le_of_ble_eq_true rfl) ⟨Nat.le_refl _, Nat.le_refl _⟩ dX8_worst_27 rfl ?_
      obtain rfl := Option.some.inj hf
      exact pb_iret (pc := 30) C hr hlk hA dX8_worst_30
  · have hf := pb_pos hf hc7
    refine pb_aload_n (pc := 10) C dX8_worst_10 rfl 0 rfl ?_
    refine pb_ldc (v := (-100000)) (pc := 11) C dX8_worst_11 (List.mem_of_getElem? (i := 1) rfl) ?_
    obtain ⟨r13, hr13, hf⟩ := pb_bind hf
    refine pb_callV (pc := 13) (n0 := 4) (ws' := (wwX8_worst cyB cyI cyJ cyZ cyS a_t a_t_w a_t_isKept a_t_text a_t_refused a_t_numbers a_t_weights c_t_texted c_t_above c_t_below c_t_at c_t_start c_t_isWord c_t_isFigures c_t_all c_t_known c_t_truth c_t_x c_t_h c_t_w r13.2 c_t_weights)) (rest := []) (st2 := [.int r13.1]) C (kcX8_badAs l dC dI cyB cyI cyJ cyZ cyS a_t a_t_w a_t_isKept a_t_text a_t_refused a_t_numbers a_t_weights c_t_texted c_t_above c_t_below c_t_at c_t_start c_t_isWord c_t_isFigures c_t_all c_t_known c_t_truth c_t_x c_t_h c_t_refused (-100000) r13 hr13) pb_NW_b (pb_NW_x hX) (cwV 1 C.1.2.2.2.2 gX8_worst_X8_badAs rfl rfl rfl kdV_X8_badAs ⟨Nat.le_of_ble_eq_true rfl, Nat.le_of_ble_eq_true rfl⟩) 0 rfl rfl [0, 2] [1, 3] rfl rfl ⟨⟨_, rfl, rfl⟩, ⟨⟨_, rfl, rfl⟩, trivial⟩⟩ rfl (by decide +kernel) (adl := [a_t, a_t_refused]) rfl rfl rfl rfl rfl (Nat.le_of_ble_eq_true rfl) ⟨Nat.le_refl _, Nat.le_refl _⟩ dX8_worst_13 rfl ?_
    obtain rfl := Option.some.inj hf
    exact pb_iret (pc := 16) C hr hlk hA dX8_worst_16
