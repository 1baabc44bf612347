def rmX8_mean : Room := { frames := 5, cells := 0, slots := 0, locals := 116 }
def wwX8_mean (cyB cyI cyJ cyZ cyS : ClassId) (a_t a_t_w a_t_isKept a_t_text a_t_refused a_t_numbers a_t_weights : Nat) (c_t_texted : Int32) (c_t_above : Int64) (c_t_below : Int64) (c_t_at : Int32) (c_t_start : Int32) (c_t_isWord : Int32) (c_t_isFigures : Int32) (c_t_all : Int64) (c_t_known : Int32) (c_t_truth : Int32) (c_t_x : Int64) (c_t_h : Int64) (c_t_w : (Nat → Int32)) (c_t_refused : (Nat → Int32)) (c_t_weights : (Nat → Int64)) : va_W := [(a_t, .inr (8, [.ref a_t_w, .ref a_t_isKept, .ref a_t_text, .int c_t_texted, .ref a_t_refused, .long c_t_above, .long c_t_below, .int c_t_at, .int c_t_start, .int c_t_isWord, .int c_t_isFigures, .ref a_t_numbers, .ref a_t_weights, .long c_t_all, .int c_t_known, .int c_t_truth, .long c_t_x, .long c_t_h])), (a_t_w, .inl (cyI, 1508, .inl c_t_w)), (a_t_refused, .inl (cyI, 3, .inl c_t_refused)), (a_t_weights, .inl (cyJ, 128, .inr (.inl c_t_weights)))]
theorem hnX8_mean_X8 : ∀ w ∈ wsX80, w ∈ wsX8_mean := fun _ h => List.mem_cons_of_mem _ (List.mem_append_right _ h)
set_option maxHeartbeats 4000000 in
set_option maxRecDepth 100000 in
theorem kcX8_mean (l : Launch) (dC : Nat → ClassId) (dI : Nat → Nat → Nat) (cyB cyI cyJ cyZ cyS : ClassId) (a_t a_t_w a_t_isKept a_t_text a_t_refused a_t_numbers a_t_weights : Nat) (c_t_texted : Int32) (c_t_above : Int64) (c_t_below : Int64) (c_t_at : Int32) (c_t_start : Int32) (c_t_isWord : Int32) (c_t_isFigures : Int32) (c_t_all : Int64) (c_t_known : Int32) (c_t_truth : Int32) (c_t_x : Int64) (c_t_h : Int64) (c_t_w : (Nat → Int32)) (c_t_refused : (Nat → Int32)) (c_t_weights : (Nat → Int64)) (out : (Int32 × Int64 × Int64 × Int64 × (Nat → Int32) × (Nat → Int64))) (hf : fX8_mean c_t_above c_t_below c_t_all c_t_w c_t_refused c_t_weights = some out) : pb_K l yX8_mean wsX8_mean rmX8_mean (dC, dI) vwCl (pb_tys cyB cyI cyJ cyZ cyS) pb_NW [.ref a_t] (wwX8_mean cyB cyI cyJ cyZ cyS a_t a_t_w a_t_isKept a_t_text a_t_refused a_t_numbers a_t_weights c_t_texted c_t_above c_t_below c_t_at c_t_start c_t_isWord c_t_isFigures c_t_all c_t_known c_t_truth c_t_x c_t_h c_t_w c_t_refused c_t_weights) (wwX8_mean cyB cyI cyJ cyZ cyS a_t a_t_w a_t_isKept a_t_text a_t_refused a_t_numbers a_t_weights c_t_texted out.2.1 out.2.2.1 c_t_at c_t_start c_t_isWord c_t_isFigures out.2.2.2.1 c_t_known c_t_truth c_t_x c_t_h c_t_w out.2.2.2.2.1 out.2.2.2.2.2) (some (.int out.1)) := by
  unfold fX8_mean at hf
  refine pb_K.ofV (cc := cX8_mean) (maxL := 4) (ret := (some .int)) (lv0 := [(0, .ref a_t)]) (by decide) rfl (Nat.le_of_ble_eq_true rfl) rfl ?_
  intro p e s m below meth c A C hX hr hlk hA
  refine pb_aload_n (pc := 0) C dX8_mean_0 rfl 0 rfl ?_
  obtain ⟨r1, hr1, hf⟩ := pb_bind hf
  refine pb_callV (pc := 1) (n0 := 4) (ws' := (wwX8_mean cyB cyI cyJ cyZ cyS a_t a_t_w a_t_isKept a_t_text a_t_refused a_t_numbers a_t_weights c_t_texted c_t_above c_t_below c_t_at c_t_start c_t_isWord c_t_isFigures r1.2.1 c_t_known c_t_truth c_t_x c_t_h c_t_w c_t_refused r1.2.2)) (rest := []) (st2 := [.int r1.1]) C (kcX8_fits l dC dI cyB cyI cyJ cyZ cyS a_t a_t_w a_t_isKept a_t_text a_t_refused a_t_numbers a_t_weights c_t_texted c_t_above c_t_below c_t_at c_t_start c_t_isWord c_t_isFigures c_t_all c_t_known c_t_truth c_t_x c_t_h c_t_w c_t_weights r1 hr1) pb_NW_b (pb_NW_x hX) (cwV 0 C.1.2.2.2.2 gX8_mean_X8_fits rfl rfl rfl kdV_X8_fits ⟨Nat.le_of_ble_eq_true rfl, Nat.le_of_ble_eq_true rfl⟩) 0 rfl rfl [0, 1, 3] [2] rfl rfl ⟨⟨_, rfl, rfl⟩, trivial⟩ rfl (by decide +kernel) (adl := [a_t, a_t_w, a_t_weights]) rfl rfl rfl rfl rfl (Nat.le_of_ble_eq_true rfl) ⟨Nat.le_refl _, Nat.le_refl _⟩ dX8_mean_1 rfl ?_
  refine pb_if_ne (pc := 4) (tgt := 12) C dX8_mean_4 (by decide) (fun hc4 => ?_) (fun hc4 => ?_)
  · have hf := pb_neg hf hc4
    refine pb_lconst (v := 0) (pc := 12) C dX8_mean_12 pb_kL_0 ?_
    refine pb_lstore_n (lv' := [(1, .long 0), (0, .ref a_t)]) (pc := 13) C dX8_mean_13 rfl (by decide) rfl ?_
    refine pb_iconst (v := 0) (pc := 14) C dX8_mean_14 pb_kI_0 ?_
    refine pb_istore_n (lv' := [(3, .int 0), (1, .long 0), (0, .ref a_t)]) (pc := 15) C dX8_mean_15 rfl (by decide) rfl ?_
    obtain ⟨z16, hz16, hk16⟩ := pb_bind hf
    have E16 : ∀ (e16_1 : Int64) (e16_3 : Int32), fX8_mean_E16 c_t_above c_t_below c_t_refused r1 e16_1 e16_3 = some out → pb_V p l e rmX8_mean s m (([.ref a_t] : List Value).toArray) below meth c 4 (dC, dI) vwCl A 0 0 (pb_MQ below (([.ref a_t] : List Value).toArray) s (dC, dI) vwCl (wwX8_mean cyB cyI cyJ cyZ cyS a_t a_t_w a_t_isKept a_t_text a_t_refused a_t_numbers a_t_weights c_t_texted c_t_above c_t_below c_t_at c_t_start c_t_isWord c_t_isFigures c_t_all c_t_known c_t_truth c_t_x c_t_h c_t_w c_t_refused c_t_weights) (wwX8_mean cyB cyI cyJ cyZ cyS a_t a_t_w a_t_isKept a_t_text a_t_refused a_t_numbers a_t_weights c_t_texted out.2.1 out.2.2.1 c_t_at c_t_start c_t_isWord c_t_isFigures out.2.2.2.1 c_t_known c_t_truth c_t_x c_t_h c_t_w out.2.2.2.2.1 out.2.2.2.2.2) (some (.int out.1)) A) (wwX8_mean cyB cyI cyJ cyZ cyS a_t a_t_w a_t_isKept a_t_text a_t_refused a_t_numbers a_t_weights c_t_texted c_t_above c_t_below c_t_at c_t_start c_t_isWord c_t_isFigures r1.2.1 c_t_known c_t_truth c_t_x c_t_h c_t_w c_t_refused r1.2.2) [(0, .ref a_t), (1, .long e16_1)] [] 45 := by
      intro e16_1 e16_3 hf
      unfold fX8_mean_E16 at hf
      refine pb_aload_n (pc := 45) C dX8_mean_45 rfl 0 rfl ?_
      refine pb_lload_n (pc := 46) C dX8_mean_46 rfl 1 rfl ?_
      refine pb_aload_n (pc := 47) C dX8_mean_47 rfl 0 rfl ?_
      refine pb_get (pc := 48) C hnX8_mean_X8 0 rfl rfl 13 (by decide) (List.mem_of_getElem? (i := 2) rfl) rfl rfl dX8_mean_48 ?_
      obtain ⟨r51, hr51, hf⟩ := pb_bind hf
      refine pb_callV (pc := 51) (n0 := 4) (ws' := (wwX8_mean cyB cyI cyJ cyZ cyS a_t a_t_w a_t_isKept a_t_text a_t_refused a_t_numbers a_t_weights c_t_texted r51.2.1 r51.2.2 c_t_at c_t_start c_t_isWord c_t_isFigures r1.2.1 c_t_known c_t_truth c_t_x c_t_h c_t_w c_t_refused r1.2.2)) (rest := []) (st2 := [.int r51.1]) C (kcX8_tells l dC dI cyB cyI cyJ cyZ cyS a_t a_t_w a_t_isKept a_t_text a_t_refused a_t_numbers a_t_weights c_t_texted c_t_above c_t_below c_t_at c_t_start c_t_isWord c_t_isFigures r1.2.1 c_t_known c_t_truth c_t_x c_t_h e16_1 r1.2.1 r51 hr51) pb_NW_b (pb_NW_x hX) (cwV 2 C.1.2.2.2.2 gX8_mean_X8_tells rfl rfl rfl kdV_X8_tells ⟨Nat.le_of_ble_eq_true rfl, Nat.le_of_ble_eq_true rfl⟩) 0 rfl rfl [0] [1, 2, 3] rfl rfl ⟨⟨_, rfl, rfl⟩, ⟨⟨_, rfl, rfl⟩, ⟨⟨_, rfl, rfl⟩, trivial⟩⟩⟩ rfl (by decide +kernel) (adl := [a_t]) rfl rfl rfl rfl rfl (Nat.le_of_ble_eq_true rfl) ⟨Nat.le_refl _, Nat.le_refl _⟩ dX8_mean_51 rfl ?_
      obtain rfl := Option.some.inj hf
      exact pb_iret (pc := 54) C hr hlk hA dX8_mean_54
    have L16 : ∀ (n : Nat) (l16_1 : Int64) (l16_3 : Int32), pb_lp (fun y => fX8_mean_L16 c_t_w r1 y.1 y.2) n (l16_1, l16_3) = some z16 → pb_V p l e rmX8_mean s m (([.ref a_t] : List Value).toArray) below meth c 4 (dC, dI) vwCl A 0 0 (pb_MQ below (([.ref a_t] : List Value).toArray) s (dC, dI) vwCl (wwX8_mean cyB cyI cyJ cyZ cyS a_t a_t_w a_t_isKept a_t_text a_t_refused a_t_numbers a_t_weights c_t_texted c_t_above c_t_below c_t_at c_t_start c_t_isWord c_t_isFigures c_t_all c_t_known c_t_truth c_t_x c_t_h c_t_w c_t_refused c_t_weights) (wwX8_mean cyB cyI cyJ cyZ cyS a_t a_t_w a_t_isKept a_t_text a_t_refused a_t_numbers a_t_weights c_t_texted out.2.1 out.2.2.1 c_t_at c_t_start c_t_isWord c_t_isFigures out.2.2.2.1 c_t_known c_t_truth c_t_x c_t_h c_t_w out.2.2.2.2.1 out.2.2.2.2.2) (some (.int out.1)) A) (wwX8_mean cyB cyI cyJ cyZ cyS a_t a_t_w a_t_isKept a_t_text a_t_refused a_t_numbers a_t_weights c_t_texted c_t_above c_t_below c_t_at c_t_start c_t_isWord c_t_isFigures r1.2.1 c_t_known c_t_truth c_t_x c_t_h c_t_w c_t_refused r1.2.2) [(0, .ref a_t), (1, .long l16_1), (3, .int l16_3)] [] 16 := by
      intro n
      induction n with
      | zero => intro l16_1 l16_3 hf; exact (pb_lp_zero hf).elim
      | succ n ih16 =>
        intro l16_1 l16_3 hf
        obtain ⟨y16, hf, hl16⟩ := pb_lp_succ hf
        have hf : fX8_mean_L16 c_t_w r1 l16_1 l16_3 = some y16 := hf
        unfold fX8_mean_L16 at hf
        refine pb_iload_n (pc := 16) C dX8_mean_16 rfl 2 rfl ?_
        refine pb_sipush (v := 128) (pc := 17) C dX8_mean_17 pb_kS_128 ?_
        refine pb_icmp_ge (pc := 20) (tgt := 45) C dX8_mean_20 (by decide) (fun hc20 => ?_) (fun hc20 => ?_)
        · have hf := pb_pos hf hc20
          obtain rfl := Option.some.inj hf
          obtain rfl := pb_esc hl16
          refine pb_sub [0, 1] rfl ?_
          exact E16 l16_1 l16_3 hk16
        · have hf := pb_neg hf hc20
          refine pb_lload_n (pc := 23) C dX8_mean_23 rfl 1 rfl ?_
          refine pb_aload_n (pc := 24) C dX8_mean_24 rfl 0 rfl ?_
          refine pb_get (pc := 25) C hnX8_mean_X8 0 rfl rfl 12 (by decide) (List.mem_of_getElem? (i := 1) rfl) rfl rfl dX8_mean_25 ?_
          refine pb_iload_n (pc := 28) C dX8_mean_28 rfl 2 rfl ?_
          obtain ⟨g29, hf⟩ := pb_grd hf
          refine pb_lald (pc := 29) C 3 2 rfl rfl g29 dX8_mean_29 ?_
          refine pb_aload_n (pc := 30) C dX8_mean_30 rfl 0 rfl ?_
          refine pb_iload_n (pc := 31) C dX8_mean_31 rfl 2 rfl ?_
          obtain ⟨r32, hr32, hf⟩ := pb_bind hf
          refine pb_callV (pc := 32) (n0 := 4) (ws' := (wwX8_mean cyB cyI cyJ cyZ cyS a_t a_t_w a_t_isKept a_t_text a_t_refused a_t_numbers a_t_weights c_t_texted c_t_above c_t_below c_t_at c_t_start c_t_isWord c_t_isFigures r1.2.1 c_t_known c_t_truth c_t_x c_t_h c_t_w c_t_refused r1.2.2)) (rest := [.long (r1.2.2 (Int32.toNatClampNeg l16_3)), .long l16_1]) (st2 := [.int r32, .long (r1.2.2 (Int32.toNatClampNeg l16_3)), .long l16_1]) C (kcX8_bookOf l dC dI cyB cyI cyJ cyZ cyS a_t a_t_w a_t_isKept a_t_text a_t_refused a_t_numbers a_t_weights c_t_texted c_t_above c_t_below c_t_at c_t_start c_t_isWord c_t_isFigures r1.2.1 c_t_known c_t_truth c_t_x c_t_h c_t_w l16_3 r32 hr32) pb_NW_b (pb_NW_x hX) (cwV 1 C.1.2.2.2.2 gX8_mean_X8_bookOf rfl rfl rfl kdV_X8_bookOf ⟨Nat.le_of_ble_eq_true rfl, Nat.le_of_ble_eq_true rfl⟩) 0 rfl rfl [0, 1] [2, 3] rfl rfl ⟨⟨_, rfl, rfl⟩, ⟨⟨_, rfl, rfl⟩, trivial⟩⟩ rfl (by decide +kernel) (adl := [a_t, a_t_w]) rfl rfl rfl rfl rfl (Nat.le_of_ble_eq_true rfl) ⟨Nat.le_refl _, Nat.le_refl _⟩ dX8_mean_32 rfl ?_
          refine pb_i2l (pc := 35) C dX8_mean_35 ?_
          refine pb_lmul (pc := 36) C dX8_mean_36 ?_
          refine pb_ladd (pc := 37) C dX8_mean_37 ?_
          obtain ⟨x38, ex38, hf⟩ := pb_bind hf
          have ex38 := Option.some.inj ex38
          refine pb_topl ex38 ?_
          refine pb_lstore_n (lv' := [(1, .long x38), (0, .ref a_t), (3, .int l16_3)]) (pc := 38) C dX8_mean_38 rfl (by decide) rfl ?_
          refine pb_iinc (v := l16_3 + 1) (lv' := [(3, .int (l16_3 + 1)), (1, .long x38), (0, .ref a_t)]) (pc := 39) C dX8_mean_39 2 rfl (pb_inc pb_kI_1 rfl) (by decide) rfl ?_
          refine pb_goto (pc := 42) (tgt := 16) C dX8_mean_42 (by decide) ?_
          obtain rfl := Option.some.inj hf
          refine pb_sub [2, 1, 0] rfl ?_
          have hl16 := pb_inl hl16
          exact ih16 x38 (l16_3 + 1) hl16
    refine pb_sub [2, 1, 0] rfl ?_
    exact L16 pb_FU 0 0 hz16
  · have hf := pb_pos hf hc4
    refine pb_aload_n (pc := 7) C dX8_mean_7 rfl 0 rfl ?_
    obtain ⟨r8, hr8, hf⟩ := pb_bind hf
    refine pb_callV (pc := 8) (n0 := 4) (ws' := (wwX8_mean cyB cyI cyJ cyZ cyS a_t a_t_w a_t_isKept a_t_text a_t_refused a_t_numbers a_t_weights c_t_texted c_t_above c_t_below c_t_at c_t_start c_t_isWord c_t_isFigures r1.2.1 c_t_known c_t_truth c_t_x c_t_h c_t_w r8.2 r1.2.2)) (rest := []) (st2 := [.int r8.1]) C (kcX8_no l dC dI cyB cyI cyJ cyZ cyS a_t a_t_w a_t_isKept a_t_text a_t_refused a_t_numbers a_t_weights c_t_texted c_t_above c_t_below c_t_at c_t_start c_t_isWord c_t_isFigures r1.2.1 c_t_known c_t_truth c_t_x c_t_h c_t_refused r8 hr8) pb_NW_b (pb_NW_x hX) (cwV 0 C.1.2.2.2.2 gX8_mean_X8_no rfl rfl rfl kdV_X8_no ⟨Nat.le_of_ble_eq_true rfl, Nat.le_of_ble_eq_true rfl⟩) 0 rfl rfl [0, 2] [1, 3] rfl rfl ⟨⟨_, rfl, rfl⟩, ⟨⟨_, rfl, rfl⟩, trivial⟩⟩ rfl (by decide +kernel) (adl := [a_t, a_t_refused]) rfl rfl rfl rfl rfl (Nat.le_of_ble_eq_true rfl) ⟨Nat.le_refl _, Nat.le_refl _⟩ dX8_mean_8 rfl ?_
    obtain rfl := Option.some.inj hf
    exact pb_iret (pc := 11) C hr hlk hA dX8_mean_11
def rmX8_sure : Room := { frames := 5, cells := 0, slots := 0, locals := 116 }
def wwX8_sure (cyB cyI cyJ cyZ cyS : ClassId) (a_t a_t_w a_t_isKept a_t_text a_t_refused a_t_numbers a_t_weights : Nat) (c_t_texted : Int32) (c_t_above : Int64) (c_t_below : Int64) (c_t_at : Int32) (c_t_start : Int32) (c_t_isWord : Int32) (c_t_isFigures : Int32) (c_t_all : Int64) (c_t_known : Int32) (c_t_truth : Int32) (c_t_x : Int64) (c_t_h : Int64) (c_t_w : (Nat → Int32)) (c_t_refused : (Nat → Int32)) (c_t_weights : (Nat → Int64)) : va_W := [(a_t, .inr (8, [.ref a_t_w, .ref a_t_isKept, .ref a_t_text, .int c_t_texted, .ref a_t_refused, .long c_t_above, .long c_t_below, .int c_t_at, .int c_t_start, .int c_t_isWord, .int c_t_isFigures, .ref a_t_numbers, .ref a_t_weights, .long c_t_all, .int c_t_known, .int c_t_truth, .long c_t_x, .long c_t_h])), (a_t_w, .inl (cyI, 1508, .inl c_t_w)), (a_t_refused, .inl (cyI, 3, .inl c_t_refused)), (a_t_weights, .inl (cyJ, 128, .inr (.inl c_t_weights)))]
theorem hnX8_sure_X8 : ∀ w ∈ wsX80, w ∈ wsX8_sure := fun _ h => List.mem_cons_of_mem _ (List.mem_append_right _ h)
set_option maxHeartbeats 4000000 in
set_option maxRecDepth 100000 in
theorem kcX8_sure (l : Launch) (dC : Nat → ClassId) (dI : Nat → Nat → Nat) (cyB cyI cyJ cyZ cyS : ClassId) (a_t a_t_w a_t_isKept a_t_text a_t_refused a_t_numbers a_t_weights : Nat) (c_t_texted : Int32) (c_t_above : Int64) (c_t_below : Int64) (c_t_at : Int32) (c_t_start : Int32) (c_t_isWord : Int32) (c_t_isFigures : Int32) (c_t_all : Int64) (c_t_known : Int32) (c_t_truth : Int32) (c_t_x : Int64) (c_t_h : Int64) (c_t_w : (Nat → Int32)) (c_t_refused : (Nat → Int32)) (c_t_weights : (Nat → Int64)) (p1 : Int32) (out : (Int32 × Int64 × (Nat → Int32) × (Nat → Int64))) (hf : fX8_sure c_t_all c_t_w c_t_refused c_t_weights p1 = some out) : pb_K l yX8_sure wsX8_sure rmX8_sure (dC, dI) vwCl (pb_tys cyB cyI cyJ cyZ cyS) pb_NW [.ref a_t, .int p1] (wwX8_sure cyB cyI cyJ cyZ cyS a_t a_t_w a_t_isKept a_t_text a_t_refused a_t_numbers a_t_weights c_t_texted c_t_above c_t_below c_t_at c_t_start c_t_isWord c_t_isFigures c_t_all c_t_known c_t_truth c_t_x c_t_h c_t_w c_t_refused c_t_weights) (wwX8_sure cyB cyI cyJ cyZ cyS a_t a_t_w a_t_isKept a_t_text a_t_refused a_t_numbers a_t_weights c_t_texted c_t_above c_t_below c_t_at c_t_start c_t_isWord c_t_isFigures out.2.1 c_t_known c_t_truth c_t_x c_t_h c_t_w out.2.2.1 out.2.2.2) (some (.int out.1)) := by
  unfold fX8_sure at hf
  refine pb_K.ofV (cc := cX8_sure) (maxL := 10) (ret := (some .int)) (lv0 := [(0, .ref a_t), (1, .int p1)]) (by decide) rfl (Nat.le_of_ble_eq_true rfl) rfl ?_
  intro p e s m below meth c A C hX hr hlk hA
  refine pb_iload_n (pc := 0) C dX8_sure_0 rfl 1 rfl ?_
  refine pb_i2l (pc := 1) C dX8_sure_1 ?_
  refine pb_lconst (v := 0) (pc := 2) C dX8_sure_2 pb_kL_0 ?_
  refine pb_lconst (v := 1) (pc := 3) C dX8_sure_3 pb_kL_1 ?_
  obtain ⟨r4, hr4, hf⟩ := pb_bind hf
  refine pb_callS (pc := 4) (n0 := 4) (ws' := (wwX8_sure cyB cyI cyJ cyZ cyS a_t a_t_w a_t_isKept a_t_text a_t_refused a_t_numbers a_t_weights c_t_texted c_t_above c_t_below c_t_at c_t_start c_t_isWord c_t_isFigures c_t_all c_t_known c_t_truth c_t_x c_t_h c_t_w c_t_refused c_t_weights)) (rest := []) (st2 := [.int r4]) C (kcX8_in l dC dI cyB cyI cyJ cyZ cyS (Int32.toInt64 p1) 0 1 r4 hr4) pb_NW_b (pb_NW_x hX) (va_cwS 3 C.1.2.2.2.2 gX8_sure_X8_in rfl rfl rfl kdS_X8_in ⟨Nat.le_of_ble_eq_true rfl, Nat.le_of_ble_eq_true rfl⟩) [] [0, 1, 2, 3] rfl rfl ⟨⟨_, rfl, rfl⟩, ⟨⟨_, rfl, rfl⟩, ⟨⟨_, rfl, rfl⟩, ⟨⟨_, rfl, rfl⟩, trivial⟩⟩⟩⟩ rfl (by decide +kernel) (adl := []) rfl rfl rfl rfl rfl (Nat.le_of_ble_eq_true rfl) ⟨Nat.le_refl _, Nat.le_refl _⟩ dX8_sure_4 rfl ?_
  refine pb_if_ne (pc := 7) (tgt := 15) C dX8_sure_7 (by decide) (fun hc7 => ?_) (fun hc7 => ?_)
  · have hf := pb_neg hf hc7
    refine pb_iconst (v := 0) (pc := 15) C dX8_sure_15 pb_kI_0 ?_
    refine pb_istore_n (lv' := [(2, .int 0), (0, .ref a_t), (1, .int p1)]) (pc := 16) C dX8_sure_16 rfl (by decide) rfl ?_
    refine pb_iconst (v := 0) (pc := 17) C dX8_sure_17 pb_kI_0 ?_
    refine pb_istore_n (lv' := [(3, .int 0), (2, .int 0), (0, .ref a_t), (1, .int p1)]) (pc := 18) C dX8_sure_18 rfl (by decide) rfl ?_
    refine pb_aload_n (pc := 19) C dX8_sure_19 rfl 2 rfl ?_
    obtain ⟨r20, hr20, hf⟩ := pb_bind hf
    refine pb_callV (pc := 20) (n0 := 4) (ws' := (wwX8_sure cyB cyI cyJ cyZ cyS a_t a_t_w a_t_isKept a_t_text a_t_refused a_t_numbers a_t_weights c_t_texted c_t_above c_t_below c_t_at c_t_start c_t_isWord c_t_isFigures r20.2.1 c_t_known c_t_truth c_t_x c_t_h c_t_w c_t_refused r20.2.2)) (rest := []) (st2 := [.int r20.1]) C (kcX8_fits l dC dI cyB cyI cyJ cyZ cyS a_t a_t_w a_t_isKept a_t_text a_t_refused a_t_numbers a_t_weights c_t_texted c_t_above c_t_below c_t_at c_t_start c_t_isWord c_t_isFigures c_t_all c_t_known c_t_truth c_t_x c_t_h c_t_w c_t_weights r20 hr20) pb_NW_b (pb_NW_x hX) (cwV 0 C.1.2.2.2.2 gX8_sure_X8_fits rfl rfl rfl kdV_X8_fits ⟨Nat.le_of_ble_eq_true rfl, Nat.le_of_ble_eq_true rfl⟩) 0 rfl rfl [0, 1, 3] [2] rfl rfl ⟨⟨_, rfl, rfl⟩, trivial⟩ rfl (by decide +kernel) (adl := [a_t, a_t_w, a_t_weights]) rfl rfl rfl rfl rfl (Nat.le_of_ble_eq_true rfl) ⟨Nat.le_refl _, Nat.le_refl _⟩ dX8_sure_20 rfl ?_
    refine pb_istore (lv' := [(4, .int r20.1), (3, .int 0), (2, .int 0), (0, .ref a_t), (1, .int p1)]) (pc := 23) C dX8_sure_23 (by decide) rfl ?_
    refine pb_iconst (v := 1) (pc := 25) C dX8_sure_25 pb_kI_1 ?_
    refine pb_istore (lv' := [(5, .int 1), (4, .int r20.1), (3, .int 0), (2, .int 0), (0, .ref a_t), (1, .int p1)]) (pc := 26) C dX8_sure_26 (by decide) rfl ?_
    obtain ⟨z28, hz28, hk28⟩ := pb_bind hf
    have E28 : ∀ (e28_2 : Int32) (e28_3 : Int32) (e28_5 : Int32), fX8_sure_E28 c_t_refused p1 r20 e28_2 e28_3 e28_5 = some out → pb_V p l e rmX8_sure s m (([.ref a_t, .int p1] : List Value).toArray) below meth c 10 (dC, dI) vwCl A 0 0 (pb_MQ below (([.ref a_t, .int p1] : List Value).toArray) s (dC, dI) vwCl (wwX8_sure cyB cyI cyJ cyZ cyS a_t a_t_w a_t_isKept a_t_text a_t_refused a_t_numbers a_t_weights c_t_texted c_t_above c_t_below c_t_at c_t_start c_t_isWord c_t_isFigures c_t_all c_t_known c_t_truth c_t_x c_t_h c_t_w c_t_refused c_t_weights) (wwX8_sure cyB cyI cyJ cyZ cyS a_t a_t_w a_t_isKept a_t_text a_t_refused a_t_numbers a_t_weights c_t_texted c_t_above c_t_below c_t_at c_t_start c_t_isWord c_t_isFigures out.2.1 c_t_known c_t_truth c_t_x c_t_h c_t_w out.2.2.1 out.2.2.2) (some (.int out.1)) A) (wwX8_sure cyB cyI cyJ cyZ cyS a_t a_t_w a_t_isKept a_t_text a_t_refused a_t_numbers a_t_weights c_t_texted c_t_above c_t_below c_t_at c_t_start c_t_isWord c_t_isFigures r20.2.1 c_t_known c_t_truth c_t_x c_t_h c_t_w c_t_refused r20.2.2) [(1, .int p1), (2, .int e28_2), (3, .int e28_3)] [] 210 := by
      intro e28_2 e28_3 e28_5 hf
      unfold fX8_sure_E28 at hf
      refine pb_iload_n (pc := 210) C dX8_sure_210 rfl 1 rfl ?_
      refine pb_if_ne (pc := 211) (tgt := 218) C dX8_sure_211 (by decide) (fun hc211 => ?_) (fun hc211 => ?_)
      · have hf := pb_neg hf hc211
        refine pb_iload_n (pc := 218) C dX8_sure_218 rfl 0 rfl ?_
        refine pb_if_ne (pc := 219) (tgt := 226) C dX8_sure_219 (by decide) (fun hc219 => ?_) (fun hc219 => ?_)
        · have hf := pb_neg hf hc219
          refine pb_iload_n (pc := 226) C dX8_sure_226 rfl 2 rfl ?_
          obtain rfl := Option.some.inj hf
          exact pb_iret (pc := 227) C hr hlk hA dX8_sure_227
        · have hf := pb_pos hf hc219
          refine pb_iload_n (pc := 222) C dX8_sure_222 rfl 1 rfl ?_
          refine pb_goto (pc := 223) (tgt := 227) C dX8_sure_223 (by decide) ?_
          obtain rfl := Option.some.inj hf
          exact pb_iret (pc := 227) C hr hlk hA dX8_sure_227
      · have hf := pb_pos hf hc211
        refine pb_iconst (v := (-1)) (pc := 214) C dX8_sure_214 pb_kI_m1 ?_
        refine pb_goto (pc := 215) (tgt := 227) C dX8_sure_215 (by decide) ?_
        obtain rfl := Option.some.inj hf
        exact pb_iret (pc := 227) C hr hlk hA dX8_sure_227
    have L28 : ∀ (n : Nat) (l28_2 : Int32) (l28_3 : Int32) (l28_5 : Int32), pb_lp (fun y => fX8_sure_L28 c_t_w r20 y.1 y.2.1 y.2.2) n (l28_2, l28_3, l28_5) = some z28 → pb_V p l e rmX8_sure s m (([.ref a_t, .int p1] : List Value).toArray) below meth c 10 (dC, dI) vwCl A 0 0 (pb_MQ below (([.ref a_t, .int p1] : List Value).toArray) s (dC, dI) vwCl (wwX8_sure cyB cyI cyJ cyZ cyS a_t a_t_w a_t_isKept a_t_text a_t_refused a_t_numbers a_t_weights c_t_texted c_t_above c_t_below c_t_at c_t_start c_t_isWord c_t_isFigures c_t_all c_t_known c_t_truth c_t_x c_t_h c_t_w c_t_refused c_t_weights) (wwX8_sure cyB cyI cyJ cyZ cyS a_t a_t_w a_t_isKept a_t_text a_t_refused a_t_numbers a_t_weights c_t_texted c_t_above c_t_below c_t_at c_t_start c_t_isWord c_t_isFigures out.2.1 c_t_known c_t_truth c_t_x c_t_h c_t_w out.2.2.1 out.2.2.2) (some (.int out.1)) A) (wwX8_sure cyB cyI cyJ cyZ cyS a_t a_t_w a_t_isKept a_t_text a_t_refused a_t_numbers a_t_weights c_t_texted c_t_above c_t_below c_t_at c_t_start c_t_isWord c_t_isFigures r20.2.1 c_t_known c_t_truth c_t_x c_t_h c_t_w c_t_refused r20.2.2) [(0, .ref a_t), (1, .int p1), (2, .int l28_2), (3, .int l28_3), (4, .int r20.1), (5, .int l28_5)] [] 28 := by
      intro n
      induction n with
      | zero => intro l28_2 l28_3 l28_5 hf; exact (pb_lp_zero hf).elim
      | succ n ih28 =>
        intro l28_2 l28_3 l28_5 hf
        obtain ⟨y28, hf, hl28⟩ := pb_lp_succ hf
        have hf : fX8_sure_L28 c_t_w r20 l28_2 l28_3 l28_5 = some y28 := hf
        unfold fX8_sure_L28 at hf
        refine pb_iload (pc := 28) C dX8_sure_28 5 rfl ?_
        refine pb_iconst (v := 1) (pc := 30) C dX8_sure_30 pb_kI_1 ?_
        refine pb_aload_n (pc := 31) C dX8_sure_31 rfl 0 rfl ?_
        refine pb_get (pc := 32) C hnX8_sure_X8 0 rfl rfl 0 (by decide) (List.mem_of_getElem? (i := 1) rfl) rfl rfl dX8_sure_32 ?_
        refine pb_iconst (v := 2) (pc := 35) C dX8_sure_35 pb_kI_2 ?_
        refine pb_iald (pc := 36) C 1 1 rfl rfl pb_ok_2_1508 dX8_sure_36 ?_
        refine pb_topi (congrArg c_t_w pb_kN_2) ?_
        refine pb_ishl (pc := 37) C dX8_sure_37 ?_
        refine pb_icmp_ge (pc := 38) (tgt := 210) C dX8_sure_38 (by decide) (fun hc38 => ?_) (fun hc38 => ?_)
        · have hf := pb_pos hf hc38
          obtain rfl := Option.some.inj hf
          obtain rfl := pb_esc hl28
          refine pb_sub [1, 2, 3] rfl ?_
          exact E28 l28_2 l28_3 l28_5 hk28
        · have hf := pb_neg hf hc38
          refine pb_iload (pc := 41) C dX8_sure_41 4 rfl ?_
          refine pb_if_eq (pc := 43) (tgt := 210) C dX8_sure_43 (by decide) (fun hc43 => ?_) (fun hc43 => ?_)
          · have hf := pb_pos hf hc43
            obtain rfl := Option.some.inj hf
            obtain rfl := pb_esc hl28
            refine pb_sub [1, 2, 3] rfl ?_
            exact E28 l28_2 l28_3 l28_5 hk28
          · have hf := pb_neg hf hc43
            refine pb_ldc (v := 100000000) (pc := 46) C dX8_sure_46 (List.mem_of_getElem? (i := 2) rfl) ?_
            refine pb_istore (lv' := [(6, .int 100000000), (0, .ref a_t), (1, .int p1), (2, .int l28_2), (3, .int l28_3), (4, .int r20.1), (5, .int l28_5)]) (pc := 48) C dX8_sure_48 (by decide) rfl ?_
            refine pb_iconst (v := 0) (pc := 50) C dX8_sure_50 pb_kI_0 ?_
            refine pb_istore (lv' := [(7, .int 0), (6, .int 100000000), (0, .ref a_t), (1, .int p1), (2, .int l28_2), (3, .int l28_3), (4, .int r20.1), (5, .int l28_5)]) (pc := 51) C dX8_sure_51 (by decide) rfl ?_
            obtain ⟨z53, hz53, hk53⟩ := pb_bind hf
            have E53 : ∀ (e53_6 : Int32) (e53_7 : Int32), fX8_sure_E53 l28_2 l28_3 l28_5 e53_6 e53_7 = some y28 → pb_V p l e rmX8_sure s m (([.ref a_t, .int p1] : List Value).toArray) below meth c 10 (dC, dI) vwCl A 0 0 (pb_MQ below (([.ref a_t, .int p1] : List Value).toArray) s (dC, dI) vwCl (wwX8_sure cyB cyI cyJ cyZ cyS a_t a_t_w a_t_isKept a_t_text a_t_refused a_t_numbers a_t_weights c_t_texted c_t_above c_t_below c_t_at c_t_start c_t_isWord c_t_isFigures c_t_all c_t_known c_t_truth c_t_x c_t_h c_t_w c_t_refused c_t_weights) (wwX8_sure cyB cyI cyJ cyZ cyS a_t a_t_w a_t_isKept a_t_text a_t_refused a_t_numbers a_t_weights c_t_texted c_t_above c_t_below c_t_at c_t_start c_t_isWord c_t_isFigures out.2.1 c_t_known c_t_truth c_t_x c_t_h c_t_w out.2.2.1 out.2.2.2) (some (.int out.1)) A) (wwX8_sure cyB cyI cyJ cyZ cyS a_t a_t_w a_t_isKept a_t_text a_t_refused a_t_numbers a_t_weights c_t_texted c_t_above c_t_below c_t_at c_t_start c_t_isWord c_t_isFigures r20.2.1 c_t_known c_t_truth c_t_x c_t_h c_t_w c_t_refused r20.2.2) [(0, .ref a_t), (1, .int p1), (2, .int l28_2), (3, .int l28_3), (4, .int r20.1), (5, .int l28_5), (6, .int e53_6)] [] 145 := by
              intro e53_6 e53_7 hf
              unfold fX8_sure_E53 at hf
              refine pb_iload (pc := 145) C dX8_sure_145 6 rfl ?_
              refine pb_iload_n (pc := 147) C dX8_sure_147 rfl 3 rfl ?_
              obtain ⟨y178, hf, hk178⟩ := pb_bind hf
              have J178 : ∀ (j178_s0 : Int32), fX8_sure_J178 e53_6 l28_2 l28_3 l28_5 j178_s0 = some y28 → pb_V p l e rmX8_sure s m (([.ref a_t, .int p1] : List Value).toArray) below meth c 10 (dC, dI) vwCl A 0 0 (pb_MQ below (([.ref a_t, .int p1] : List Value).toArray) s (dC, dI) vwCl (wwX8_sure cyB cyI cyJ cyZ cyS a_t a_t_w a_t_isKept a_t_text a_t_refused a_t_numbers a_t_weights c_t_texted c_t_above c_t_below c_t_at c_t_start c_t_isWord c_t_isFigures c_t_all c_t_known c_t_truth c_t_x c_t_h c_t_w c_t_refused c_t_weights) (wwX8_sure cyB cyI cyJ cyZ cyS a_t a_t_w a_t_isKept a_t_text a_t_refused a_t_numbers a_t_weights c_t_texted c_t_above c_t_below c_t_at c_t_start c_t_isWord c_t_isFigures out.2.1 c_t_known c_t_truth c_t_x c_t_h c_t_w out.2.2.1 out.2.2.2) (some (.int out.1)) A) (wwX8_sure cyB cyI cyJ cyZ cyS a_t a_t_w a_t_isKept a_t_text a_t_refused a_t_numbers a_t_weights c_t_texted c_t_above c_t_below c_t_at c_t_start c_t_isWord c_t_isFigures r20.2.1 c_t_known c_t_truth c_t_x c_t_h c_t_w c_t_refused r20.2.2) [(0, .ref a_t), (1, .int p1), (2, .int l28_2), (3, .int l28_3), (4, .int r20.1), (5, .int l28_5), (6, .int e53_6)] [.int j178_s0] 178 := by
                intro j178_s0 hf
                unfold fX8_sure_J178 at hf
                refine pb_istore (lv' := [(7, .int j178_s0), (0, .ref a_t), (1, .int p1), (2, .int l28_2), (3, .int l28_3), (4, .int r20.1), (5, .int l28_5), (6, .int e53_6)]) (pc := 178) C dX8_sure_178 (by decide) rfl ?_
                refine pb_iload (pc := 180) C dX8_sure_180 0 rfl ?_
                obtain ⟨y191, hf, hk191⟩ := pb_bind hf
                have J191 : ∀ (j191_s0 : Int32), fX8_sure_J191 e53_6 j178_s0 l28_3 l28_5 j191_s0 = some y28 → pb_V p l e rmX8_sure s m (([.ref a_t, .int p1] : List Value).toArray) below meth c 10 (dC, dI) vwCl A 0 0 (pb_MQ below (([.ref a_t, .int p1] : List Value).toArray) s (dC, dI) vwCl (wwX8_sure cyB cyI cyJ cyZ cyS a_t a_t_w a_t_isKept a_t_text a_t_refused a_t_numbers a_t_weights c_t_texted c_t_above c_t_below c_t_at c_t_start c_t_isWord c_t_isFigures c_t_all c_t_known c_t_truth c_t_x c_t_h c_t_w c_t_refused c_t_weights) (wwX8_sure cyB cyI cyJ cyZ cyS a_t a_t_w a_t_isKept a_t_text a_t_refused a_t_numbers a_t_weights c_t_texted c_t_above c_t_below c_t_at c_t_start c_t_isWord c_t_isFigures out.2.1 c_t_known c_t_truth c_t_x c_t_h c_t_w out.2.2.1 out.2.2.2) (some (.int out.1)) A) (wwX8_sure cyB cyI cyJ cyZ cyS a_t a_t_w a_t_isKept a_t_text a_t_refused a_t_numbers a_t_weights c_t_texted c_t_above c_t_below c_t_at c_t_start c_t_isWord c_t_isFigures r20.2.1 c_t_known c_t_truth c_t_x c_t_h c_t_w c_t_refused r20.2.2) [(0, .ref a_t), (1, .int p1), (3, .int l28_3), (4, .int r20.1), (5, .int l28_5), (6, .int e53_6), (7, .int j178_s0)] [.int j191_s0] 191 := by
                  intro j191_s0 hf
                  unfold fX8_sure_J191 at hf
                  refine pb_istore_n (lv' := [(2, .int j191_s0), (0, .ref a_t), (1, .int p1), (3, .int l28_3), (4, .int r20.1), (5, .int l28_5), (6, .int e53_6), (7, .int j178_s0)]) (pc := 191) C dX8_sure_191 rfl (by decide) rfl ?_
                  refine pb_iload (pc := 192) C dX8_sure_192 7 rfl ?_
                  refine pb_if_eq (pc := 194) (tgt := 202) C dX8_sure_194 (by decide) (fun hc194 => ?_) (fun hc194 => ?_)
                  · have hf := pb_pos hf hc194
                    refine pb_iload_n (pc := 202) C dX8_sure_202 rfl 3 rfl ?_
                    refine pb_istore_n (lv' := [(3, .int l28_3), (2, .int j191_s0), (0, .ref a_t), (1, .int p1), (4, .int r20.1), (5, .int l28_5), (6, .int e53_6), (7, .int j178_s0)]) (pc := 203) C dX8_sure_203 rfl (by decide) rfl ?_
                    refine pb_iinc (v := l28_5 + 1) (lv' := [(5, .int (l28_5 + 1)), (3, .int l28_3), (2, .int j191_s0), (0, .ref a_t), (1, .int p1), (4, .int r20.1), (6, .int e53_6), (7, .int j178_s0)]) (pc := 204) C dX8_sure_204 5 rfl (pb_inc pb_kI_1 rfl) (by decide) rfl ?_
                    refine pb_goto (pc := 207) (tgt := 28) C dX8_sure_207 (by decide) ?_
                    obtain rfl := Option.some.inj hf
                    refine pb_sub [3, 4, 2, 1, 5, 0] rfl ?_
                    have hl28 := pb_inl hl28
                    exact ih28 j191_s0 l28_3 (l28_5 + 1) hl28
                  · have hf := pb_neg hf hc194
                    refine pb_iload (pc := 197) C dX8_sure_197 6 rfl ?_
                    refine pb_goto (pc := 199) (tgt := 203) C dX8_sure_199 (by decide) ?_
                    refine pb_istore_n (lv' := [(3, .int e53_6), (2, .int j191_s0), (0, .ref a_t), (1, .int p1), (4, .int r20.1), (5, .int l28_5), (6, .int e53_6), (7, .int j178_s0)]) (pc := 203) C dX8_sure_203 rfl (by decide) rfl ?_
                    refine pb_iinc (v := l28_5 + 1) (lv' := [(5, .int (l28_5 + 1)), (3, .int e53_6), (2, .int j191_s0), (0, .ref a_t), (1, .int p1), (4, .int r20.1), (6, .int e53_6), (7, .int j178_s0)]) (pc := 204) C dX8_sure_204 5 rfl (pb_inc pb_kI_1 rfl) (by decide) rfl ?_
                    refine pb_goto (pc := 207) (tgt := 28) C dX8_sure_207 (by decide) ?_
                    obtain rfl := Option.some.inj hf
                    refine pb_sub [3, 4, 2, 1, 5, 0] rfl ?_
                    have hl28 := pb_inl hl28
                    exact ih28 j191_s0 e53_6 (l28_5 + 1) hl28
                refine pb_if_eq (pc := 182) (tgt := 190) C dX8_sure_182 (by decide) (fun hc182 => ?_) (fun hc182 => ?_)
                · have hf := pb_pos hf hc182
                  refine pb_iload_n (pc := 190) C dX8_sure_190 rfl 3 rfl ?_
                  obtain rfl := Option.some.inj hf
                  refine pb_sub [1, 2, 4, 5, 6, 7, 0] rfl ?_
                  exact J191 l28_2 hk191
                · have hf := pb_neg hf hc182
                  refine pb_iload (pc := 185) C dX8_sure_185 6 rfl ?_
                  refine pb_goto (pc := 187) (tgt := 191) C dX8_sure_187 (by decide) ?_
                  obtain rfl := Option.some.inj hf
                  refine pb_sub [1, 2, 4, 5, 6, 7, 0] rfl ?_
                  exact J191 l28_5 hk191
              refine pb_icmp_gt (pc := 148) (tgt := 173) C dX8_sure_148 (by decide) (fun hc148 => ?_) (fun hc148 => ?_)
              · have hf := pb_pos hf hc148
                refine pb_iconst (v := 1) (pc := 173) C dX8_sure_173 pb_kI_1 ?_
                refine pb_goto (pc := 174) (tgt := 178) C dX8_sure_174 (by decide) ?_
                obtain rfl := Option.some.inj hf
                exact J178 1 hk178
              · have hf := pb_neg hf hc148
                refine pb_iload (pc := 151) C dX8_sure_151 6 rfl ?_
                refine pb_iload_n (pc := 153) C dX8_sure_153 rfl 3 rfl ?_
                refine pb_icmp_ne (pc := 154) (tgt := 177) C dX8_sure_154 (by decide) (fun hc154 => ?_) (fun hc154 => ?_)
                · have hf := pb_neg hf hc154
                  refine pb_iconst (v := 0) (pc := 177) C dX8_sure_177 pb_kI_0 ?_
                  obtain rfl := Option.some.inj hf
                  exact J178 0 hk178
                · have hf := pb_pos hf hc154
                  refine pb_iload_n (pc := 157) C dX8_sure_157 rfl 3 rfl ?_
                  refine pb_if_le (pc := 158) (tgt := 177) C dX8_sure_158 (by decide) (fun hc158 => ?_) (fun hc158 => ?_)
                  · have hf := pb_pos hf hc158
                    refine pb_iconst (v := 0) (pc := 177) C dX8_sure_177 pb_kI_0 ?_
                    obtain rfl := Option.some.inj hf
                    exact J178 0 hk178
                  · have hf := pb_neg hf hc158
                    refine pb_iload (pc := 161) C dX8_sure_161 5 rfl ?_
                    obtain ⟨r163, hr163, hf⟩ := pb_bind hf
                    refine pb_callS (pc := 163) (n0 := 4) (ws' := (wwX8_sure cyB cyI cyJ cyZ cyS a_t a_t_w a_t_isKept a_t_text a_t_refused a_t_numbers a_t_weights c_t_texted c_t_above c_t_below c_t_at c_t_start c_t_isWord c_t_isFigures r20.2.1 c_t_known c_t_truth c_t_x c_t_h c_t_w c_t_refused r20.2.2)) (rest := []) (st2 := [.int r163]) C (kcX8_ones l dC dI cyB cyI cyJ cyZ cyS l28_5 r163 hr163) pb_NW_b (pb_NW_x hX) (va_cwS 1 C.1.2.2.2.2 gX8_sure_X8_ones rfl rfl rfl kdS_X8_ones ⟨Nat.le_of_ble_eq_true rfl, Nat.le_of_ble_eq_true rfl⟩) [] [0, 1, 2, 3] rfl rfl ⟨⟨_, rfl, rfl⟩, ⟨⟨_, rfl, rfl⟩, ⟨⟨_, rfl, rfl⟩, ⟨⟨_, rfl, rfl⟩, trivial⟩⟩⟩⟩ rfl (by decide +kernel) (adl := []) rfl rfl rfl rfl rfl (Nat.le_of_ble_eq_true rfl) ⟨Nat.le_refl _, Nat.le_refl _⟩ dX8_sure_163 rfl ?_
                    refine pb_iload_n (pc := 166) C dX8_sure_166 rfl 2 rfl ?_
                    obtain ⟨r167, hr167, hf⟩ := pb_bind hf
                    refine pb_callS (pc := 167) (n0 := 4) (ws' := (wwX8_sure cyB cyI cyJ cyZ cyS a_t a_t_w a_t_isKept a_t_text a_t_refused a_t_numbers a_t_weights c_t_texted c_t_above c_t_below c_t_at c_t_start c_t_isWord c_t_isFigures r20.2.1 c_t_known c_t_truth c_t_x c_t_h c_t_w c_t_refused r20.2.2)) (rest := [.int r163]) (st2 := [.int r167, .int r163]) C (kcX8_ones l dC dI cyB cyI cyJ cyZ cyS l28_2 r167 hr167) pb_NW_b (pb_NW_x hX) (va_cwS 1 C.1.2.2.2.2 gX8_sure_X8_ones rfl rfl rfl kdS_X8_ones ⟨Nat.le_of_ble_eq_true rfl, Nat.le_of_ble_eq_true rfl⟩) [] [0, 1, 2, 3] rfl rfl ⟨⟨_, rfl, rfl⟩, ⟨⟨_, rfl, rfl⟩, ⟨⟨_, rfl, rfl⟩, ⟨⟨_, rfl, rfl⟩, trivial⟩⟩⟩⟩ rfl (by decide +kernel) (adl := []) rfl rfl rfl rfl rfl (Nat.le_of_ble_eq_true rfl) ⟨Nat.le_refl _, Nat.le_refl _⟩ dX8_sure_167 rfl ?_
                    refine pb_icmp_ge (pc := 170) (tgt := 177) C dX8_sure_170 (by decide) (fun hc170 => ?_) (fun hc170 => ?_)
                    · have hf := pb_pos hf hc170
                      refine pb_iconst (v := 0) (pc := 177) C dX8_sure_177 pb_kI_0 ?_
                      obtain rfl := Option.some.inj hf
                      exact J178 0 hk178
                    · have hf := pb_neg hf hc170
                      refine pb_iconst (v := 1) (pc := 173) C dX8_sure_173 pb_kI_1 ?_
                      refine pb_goto (pc := 174) (tgt := 178) C dX8_sure_174 (by decide) ?_
                      obtain rfl := Option.some.inj hf
                      exact J178 1 hk178
            have L53 : ∀ (n : Nat) (l53_6 : Int32) (l53_7 : Int32), pb_lp (fun y => fX8_sure_L53 c_t_w l28_5 r20 y.1 y.2) n (l53_6, l53_7) = some z53 → pb_V p l e rmX8_sure s m (([.ref a_t, .int p1] : List Value).toArray) below meth c 10 (dC, dI) vwCl A 0 0 (pb_MQ below (([.ref a_t, .int p1] : List Value).toArray) s (dC, dI) vwCl (wwX8_sure cyB cyI cyJ cyZ cyS a_t a_t_w a_t_isKept a_t_text a_t_refused a_t_numbers a_t_weights c_t_texted c_t_above c_t_below c_t_at c_t_start c_t_isWord c_t_isFigures c_t_all c_t_known c_t_truth c_t_x c_t_h c_t_w c_t_refused c_t_weights) (wwX8_sure cyB cyI cyJ cyZ cyS a_t a_t_w a_t_isKept a_t_text a_t_refused a_t_numbers a_t_weights c_t_texted c_t_above c_t_below c_t_at c_t_start c_t_isWord c_t_isFigures out.2.1 c_t_known c_t_truth c_t_x c_t_h c_t_w out.2.2.1 out.2.2.2) (some (.int out.1)) A) (wwX8_sure cyB cyI cyJ cyZ cyS a_t a_t_w a_t_isKept a_t_text a_t_refused a_t_numbers a_t_weights c_t_texted c_t_above c_t_below c_t_at c_t_start c_t_isWord c_t_isFigures r20.2.1 c_t_known c_t_truth c_t_x c_t_h c_t_w c_t_refused r20.2.2) [(0, .ref a_t), (1, .int p1), (2, .int l28_2), (3, .int l28_3), (4, .int r20.1), (5, .int l28_5), (6, .int l53_6), (7, .int l53_7)] [] 53 := by
              intro n
              induction n with
              | zero => intro l53_6 l53_7 hf; exact (pb_lp_zero hf).elim
              | succ n ih53 =>
                intro l53_6 l53_7 hf
                obtain ⟨y53, hf, hl53⟩ := pb_lp_succ hf
                have hf : fX8_sure_L53 c_t_w l28_5 r20 l53_6 l53_7 = some y53 := hf
                unfold fX8_sure_L53 at hf
                refine pb_iload (pc := 53) C dX8_sure_53 7 rfl ?_
                refine pb_sipush (v := 128) (pc := 55) C dX8_sure_55 pb_kS_128 ?_
                refine pb_icmp_ge (pc := 58) (tgt := 145) C dX8_sure_58 (by decide) (fun hc58 => ?_) (fun hc58 => ?_)
                · have hf := pb_pos hf hc58
                  obtain rfl := Option.some.inj hf
                  obtain rfl := pb_esc hl53
                  refine pb_sub [0, 1, 2, 3, 4, 5, 6] rfl ?_
                  exact E53 l53_6 l53_7 hk53
                · have hf := pb_neg hf hc58
                  refine pb_aload_n (pc := 61) C dX8_sure_61 rfl 0 rfl ?_
                  refine pb_get (pc := 62) C hnX8_sure_X8 0 rfl rfl 12 (by decide) (List.mem_of_getElem? (i := 3) rfl) rfl rfl dX8_sure_62 ?_
                  refine pb_iload (pc := 65) C dX8_sure_65 7 rfl ?_
                  obtain ⟨g67, hf⟩ := pb_grd hf
                  refine pb_lald (pc := 67) C 3 2 rfl rfl g67 dX8_sure_67 ?_
                  refine pb_lconst (v := 0) (pc := 68) C dX8_sure_68 pb_kL_0 ?_
                  refine pb_lif_le (pc := 69) (tgt := 139) C dX8_sure_69 dX8_sure_70 (by decide) (fun hc69 => ?_) (fun hc69 => ?_)
                  · have hf := pb_pos hf hc69
                    refine pb_iinc (v := l53_7 + 1) (lv' := [(7, .int (l53_7 + 1)), (0, .ref a_t), (1, .int p1), (2, .int l28_2), (3, .int l28_3), (4, .int r20.1), (5, .int l28_5), (6, .int l53_6)]) (pc := 139) C dX8_sure_139 7 rfl (pb_inc pb_kI_1 rfl) (by decide) rfl ?_
                    refine pb_goto (pc := 142) (tgt := 53) C dX8_sure_142 (by decide) ?_
                    obtain rfl := Option.some.inj hf
                    refine pb_sub [1, 2, 3, 4, 5, 6, 7, 0] rfl ?_
                    have hl53 := pb_inl hl53
                    exact ih53 l53_6 (l53_7 + 1) hl53
                  · have hf := pb_neg hf hc69
                    refine pb_iconst (v := 0) (pc := 73) C dX8_sure_73 pb_kI_0 ?_
                    refine pb_istore (lv' := [(8, .int 0), (0, .ref a_t), (1, .int p1), (2, .int l28_2), (3, .int l28_3), (4, .int r20.1), (5, .int l28_5), (6, .int l53_6), (7, .int l53_7)]) (pc := 74) C dX8_sure_74 (by decide) rfl ?_
                    refine pb_iconst (v := 0) (pc := 76) C dX8_sure_76 pb_kI_0 ?_
                    refine pb_istore (lv' := [(9, .int 0), (8, .int 0), (0, .ref a_t), (1, .int p1), (2, .int l28_2), (3, .int l28_3), (4, .int r20.1), (5, .int l28_5), (6, .int l53_6), (7, .int l53_7)]) (pc := 77) C dX8_sure_77 (by decide) rfl ?_
                    obtain ⟨z79, hz79, hk79⟩ := pb_bind hf
                    have E79 : ∀ (e79_8 : Int32) (e79_9 : Int32), fX8_sure_E79 l53_6 l53_7 e79_8 e79_9 = some y53 → pb_V p l e rmX8_sure s m (([.ref a_t, .int p1] : List Value).toArray) below meth c 10 (dC, dI) vwCl A 0 0 (pb_MQ below (([.ref a_t, .int p1] : List Value).toArray) s (dC, dI) vwCl (wwX8_sure cyB cyI cyJ cyZ cyS a_t a_t_w a_t_isKept a_t_text a_t_refused a_t_numbers a_t_weights c_t_texted c_t_above c_t_below c_t_at c_t_start c_t_isWord c_t_isFigures c_t_all c_t_known c_t_truth c_t_x c_t_h c_t_w c_t_refused c_t_weights) (wwX8_sure cyB cyI cyJ cyZ cyS a_t a_t_w a_t_isKept a_t_text a_t_refused a_t_numbers a_t_weights c_t_texted c_t_above c_t_below c_t_at c_t_start c_t_isWord c_t_isFigures out.2.1 c_t_known c_t_truth c_t_x c_t_h c_t_w out.2.2.1 out.2.2.2) (some (.int out.1)) A) (wwX8_sure cyB cyI cyJ cyZ cyS a_t a_t_w a_t_isKept a_t_text a_t_refused a_t_numbers a_t_weights c_t_texted c_t_above c_t_below c_t_at c_t_start c_t_isWord c_t_isFigures r20.2.1 c_t_known c_t_truth c_t_x c_t_h c_t_w c_t_refused r20.2.2) [(0, .ref a_t), (1, .int p1), (2, .int l28_2), (3, .int l28_3), (4, .int r20.1), (5, .int l28_5), (6, .int l53_6), (7, .int l53_7), (8, .int e79_8)] [] 123 := by
                      intro e79_8 e79_9 hf
                      unfold fX8_sure_E79 at hf
                      refine pb_iload (pc := 123) C dX8_sure_123 8 rfl ?_
                      refine pb_iload (pc := 125) C dX8_sure_125 6 rfl ?_
                      refine pb_icmp_ge (pc := 127) (tgt := 135) C dX8_sure_127 (by decide) (fun hc127 => ?_) (fun hc127 => ?_)
                      · have hf := pb_pos hf hc127
                        refine pb_iload (pc := 135) C dX8_sure_135 6 rfl ?_
                        refine pb_istore (lv' := [(6, .int l53_6), (0, .ref a_t), (1, .int p1), (2, .int l28_2), (3, .int l28_3), (4, .int r20.1), (5, .int l28_5), (7, .int l53_7), (8, .int e79_8)]) (pc := 137) C dX8_sure_137 (by decide) rfl ?_
                        refine pb_iinc (v := l53_7 + 1) (lv' := [(7, .int (l53_7 + 1)), (6, .int l53_6), (0, .ref a_t), (1, .int p1), (2, .int l28_2), (3, .int l28_3), (4, .int r20.1), (5, .int l28_5), (8, .int e79_8)]) (pc := 139) C dX8_sure_139 7 rfl (pb_inc pb_kI_1 rfl) (by decide) rfl ?_
                        refine pb_goto (pc := 142) (tgt := 53) C dX8_sure_142 (by decide) ?_
                        obtain rfl := Option.some.inj hf
                        refine pb_sub [2, 3, 4, 5, 6, 7, 1, 0] rfl ?_
                        have hl53 := pb_inl hl53
                        exact ih53 l53_6 (l53_7 + 1) hl53
                      · have hf := pb_neg hf hc127
                        refine pb_iload (pc := 130) C dX8_sure_130 8 rfl ?_
                        refine pb_goto (pc := 132) (tgt := 137) C dX8_sure_132 (by decide) ?_
                        refine pb_istore (lv' := [(6, .int e79_8), (0, .ref a_t), (1, .int p1), (2, .int l28_2), (3, .int l28_3), (4, .int r20.1), (5, .int l28_5), (7, .int l53_7), (8, .int e79_8)]) (pc := 137) C dX8_sure_137 (by decide) rfl ?_
                        refine pb_iinc (v := l53_7 + 1) (lv' := [(7, .int (l53_7 + 1)), (6, .int e79_8), (0, .ref a_t), (1, .int p1), (2, .int l28_2), (3, .int l28_3), (4, .int r20.1), (5, .int l28_5), (8, .int e79_8)]) (pc := 139) C dX8_sure_139 7 rfl (pb_inc pb_kI_1 rfl) (by decide) rfl ?_
                        refine pb_goto (pc := 142) (tgt := 53) C dX8_sure_142 (by decide) ?_
                        obtain rfl := Option.some.inj hf
                        refine pb_sub [2, 3, 4, 5, 6, 7, 1, 0] rfl ?_
                        have hl53 := pb_inl hl53
                        exact ih53 e79_8 (l53_7 + 1) hl53
                    have L79 : ∀ (n : Nat) (l79_8 : Int32) (l79_9 : Int32), pb_lp (fun y => fX8_sure_L79 c_t_w l28_5 l53_7 y.1 y.2) n (l79_8, l79_9) = some z79 → pb_V p l e rmX8_sure s m (([.ref a_t, .int p1] : List Value).toArray) below meth c 10 (dC, dI) vwCl A 0 0 (pb_MQ below (([.ref a_t, .int p1] : List Value).toArray) s (dC, dI) vwCl (wwX8_sure cyB cyI cyJ cyZ cyS a_t a_t_w a_t_isKept a_t_text a_t_refused a_t_numbers a_t_weights c_t_texted c_t_above c_t_below c_t_at c_t_start c_t_isWord c_t_isFigures c_t_all c_t_known c_t_truth c_t_x c_t_h c_t_w c_t_refused c_t_weights) (wwX8_sure cyB cyI cyJ cyZ cyS a_t a_t_w a_t_isKept a_t_text a_t_refused a_t_numbers a_t_weights c_t_texted c_t_above c_t_below c_t_at c_t_start c_t_isWord c_t_isFigures out.2.1 c_t_known c_t_truth c_t_x c_t_h c_t_w out.2.2.1 out.2.2.2) (some (.int out.1)) A) (wwX8_sure cyB cyI cyJ cyZ cyS a_t a_t_w a_t_isKept a_t_text a_t_refused a_t_numbers a_t_weights c_t_texted c_t_above c_t_below c_t_at c_t_start c_t_isWord c_t_isFigures r20.2.1 c_t_known c_t_truth c_t_x c_t_h c_t_w c_t_refused r20.2.2) [(0, .ref a_t), (1, .int p1), (2, .int l28_2), (3, .int l28_3), (4, .int r20.1), (5, .int l28_5), (6, .int l53_6), (7, .int l53_7), (8, .int l79_8), (9, .int l79_9)] [] 79 := by
                      intro n
                      induction n with
                      | zero => intro l79_8 l79_9 hf; exact (pb_lp_zero hf).elim
                      | succ n ih79 =>
                        intro l79_8 l79_9 hf
                        obtain ⟨y79, hf, hl79⟩ := pb_lp_succ hf
                        have hf : fX8_sure_L79 c_t_w l28_5 l53_7 l79_8 l79_9 = some y79 := hf
                        unfold fX8_sure_L79 at hf
                        refine pb_iload (pc := 79) C dX8_sure_79 9 rfl ?_
                        refine pb_aload_n (pc := 81) C dX8_sure_81 rfl 0 rfl ?_
                        refine pb_get (pc := 82) C hnX8_sure_X8 0 rfl rfl 0 (by decide) (List.mem_of_getElem? (i := 1) rfl) rfl rfl dX8_sure_82 ?_
                        refine pb_iconst (v := 2) (pc := 85) C dX8_sure_85 pb_kI_2 ?_
                        refine pb_iald (pc := 86) C 1 1 rfl rfl pb_ok_2_1508 dX8_sure_86 ?_
                        refine pb_topi (congrArg c_t_w pb_kN_2) ?_
                        refine pb_icmp_ge (pc := 87) (tgt := 123) C dX8_sure_87 (by decide) (fun hc87 => ?_) (fun hc87 => ?_)
                        · have hf := pb_pos hf hc87
                          obtain rfl := Option.some.inj hf
                          obtain rfl := pb_esc hl79
                          refine pb_sub [0, 1, 2, 3, 4, 5, 6, 7, 8] rfl ?_
                          exact E79 l79_8 l79_9 hk79
                        · have hf := pb_neg hf hc87
                          refine pb_iload (pc := 90) C dX8_sure_90 8 rfl ?_
                          refine pb_iload (pc := 92) C dX8_sure_92 5 rfl ?_
                          refine pb_iload (pc := 94) C dX8_sure_94 9 rfl ?_
                          obtain ⟨r96, hr96, hf⟩ := pb_bind hf
                          refine pb_callS (pc := 96) (n0 := 4) (ws' := (wwX8_sure cyB cyI cyJ cyZ cyS a_t a_t_w a_t_isKept a_t_text a_t_refused a_t_numbers a_t_weights c_t_texted c_t_above c_t_below c_t_at c_t_start c_t_isWord c_t_isFigures r20.2.1 c_t_known c_t_truth c_t_x c_t_h c_t_w c_t_refused r20.2.2)) (rest := [.int l79_8]) (st2 := [.int r96, .int l79_8]) C (kcX8_has l dC dI cyB cyI cyJ cyZ cyS l28_5 l79_9 r96 hr96) pb_NW_b (pb_NW_x hX) (va_cwS 2 C.1.2.2.2.2 gX8_sure_X8_has rfl rfl rfl kdS_X8_has ⟨Nat.le_of_ble_eq_true rfl, Nat.le_of_ble_eq_true rfl⟩) [] [0, 1, 2, 3] rfl rfl ⟨⟨_, rfl, rfl⟩, ⟨⟨_, rfl, rfl⟩, ⟨⟨_, rfl, rfl⟩, ⟨⟨_, rfl, rfl⟩, trivial⟩⟩⟩⟩ rfl (by decide +kernel) (adl := []) rfl rfl rfl rfl rfl (Nat.le_of_ble_eq_true rfl) ⟨Nat.le_refl _, Nat.le_refl _⟩ dX8_sure_96 rfl ?_
                          refine pb_if_eq (pc := 99) (tgt := 113) C dX8_sure_99 (by decide) (fun hc99 => ?_) (fun hc99 => ?_)
                          · have hf := pb_pos hf hc99
                            refine pb_iconst (v := 0) (pc := 113) C dX8_sure_113 pb_kI_0 ?_
                            refine pb_iadd (pc := 114) C dX8_sure_114 ?_
                            obtain ⟨x115, ex115, hf⟩ := pb_bind hf
                            have ex115 := Option.some.inj ex115
                            refine pb_topi ex115 ?_
                            refine pb_istore (lv' := [(8, .int x115), (0, .ref a_t), (1, .int p1), (2, .int l28_2), (3, .int l28_3), (4, .int r20.1), (5, .int l28_5), (6, .int l53_6), (7, .int l53_7), (9, .int l79_9)]) (pc := 115) C dX8_sure_115 (by decide) rfl ?_
                            refine pb_iinc (v := l79_9 + 1) (lv' := [(9, .int (l79_9 + 1)), (8, .int x115), (0, .ref a_t), (1, .int p1), (2, .int l28_2), (3, .int l28_3), (4, .int r20.1), (5, .int l28_5), (6, .int l53_6), (7, .int l53_7)]) (pc := 117) C dX8_sure_117 9 rfl (pb_inc pb_kI_1 rfl) (by decide) rfl ?_
                            refine pb_goto (pc := 120) (tgt := 79) C dX8_sure_120 (by decide) ?_
                            obtain rfl := Option.some.inj hf
                            refine pb_sub [2, 3, 4, 5, 6, 7, 8, 9, 1, 0] rfl ?_
                            have hl79 := pb_inl hl79
                            exact ih79 x115 (l79_9 + 1) hl79
                          · have hf := pb_neg hf hc99
                            refine pb_aload_n (pc := 102) C dX8_sure_102 rfl 0 rfl ?_
                            refine pb_iload (pc := 103) C dX8_sure_103 9 rfl ?_
                            refine pb_iload (pc := 105) C dX8_sure_105 7 rfl ?_
                            obtain ⟨r107, hr107, hf⟩ := pb_bind hf
                            refine pb_callV (pc := 107) (n0 := 4) (ws' := (wwX8_sure cyB cyI cyJ cyZ cyS a_t a_t_w a_t_isKept a_t_text a_t_refused a_t_numbers a_t_weights c_t_texted c_t_above c_t_below c_t_at c_t_start c_t_isWord c_t_isFigures r20.2.1 c_t_known c_t_truth c_t_x c_t_h c_t_w c_t_refused r20.2.2)) (rest := [.int l79_8]) (st2 := [.int r107, .int l79_8]) C (kcX8_gain l dC dI cyB cyI cyJ cyZ cyS a_t a_t_w a_t_isKept a_t_text a_t_refused a_t_numbers a_t_weights c_t_texted c_t_above c_t_below c_t_at c_t_start c_t_isWord c_t_isFigures r20.2.1 c_t_known c_t_truth c_t_x c_t_h c_t_w l79_9 l53_7 r107 hr107) pb_NW_b (pb_NW_x hX) (cwV 2 C.1.2.2.2.2 gX8_sure_X8_gain rfl rfl rfl kdV_X8_gain ⟨Nat.le_of_ble_eq_true rfl, Nat.le_of_ble_eq_true rfl⟩) 0 rfl rfl [0, 1] [2, 3] rfl rfl ⟨⟨_, rfl, rfl⟩, ⟨⟨_, rfl, rfl⟩, trivial⟩⟩ rfl (by decide +kernel) (adl := [a_t, a_t_w]) rfl rfl rfl rfl rfl (Nat.le_of_ble_eq_true rfl) ⟨Nat.le_refl _, Nat.le_refl _⟩ dX8_sure_107 rfl ?_
                            refine pb_goto (pc := 110) (tgt := 114) C dX8_sure_110 (by decide) ?_
                            refine pb_iadd (pc := 114) C dX8_sure_114 ?_
                            obtain ⟨x115, ex115, hf⟩ := pb_bind hf
                            have ex115 := Option.some.inj ex115
                            refine pb_topi ex115 ?_
                            refine pb_istore (lv' := [(8, .int x115), (0, .ref a_t), (1, .int p1), (2, .int l28_2), (3, .int l28_3), (4, .int r20.1), (5, .int l28_5), (6, .int l53_6), (7, .int l53_7), (9, .int l79_9)]) (pc := 115) C dX8_sure_115 (by decide) rfl ?_
                            refine pb_iinc (v := l79_9 + 1) (lv' := [(9, .int (l79_9 + 1)), (8, .int x115), (0, .ref a_t), (1, .int p1), (2, .int l28_2), (3, .int l28_3), (4, .int r20.1), (5, .int l28_5), (6, .int l53_6), (7, .int l53_7)]) (pc := 117) C dX8_sure_117 9 rfl (pb_inc pb_kI_1 rfl) (by decide) rfl ?_
                            refine pb_goto (pc := 120) (tgt := 79) C dX8_sure_120 (by decide) ?_
                            obtain rfl := Option.some.inj hf
                            refine pb_sub [2, 3, 4, 5, 6, 7, 8, 9, 1, 0] rfl ?_
                            have hl79 := pb_inl hl79
                            exact ih79 x115 (l79_9 + 1) hl79
                    refine pb_sub [2, 3, 4, 5, 6, 7, 8, 9, 1, 0] rfl ?_
                    exact L79 pb_FU 0 0 hz79
            refine pb_sub [2, 3, 4, 5, 6, 7, 1, 0] rfl ?_
            exact L53 pb_FU 100000000 0 hz53
    refine pb_sub [4, 5, 3, 2, 1, 0] rfl ?_
    exact L28 pb_FU 0 0 1 hz28
  · have hf := pb_pos hf hc7
    refine pb_aload_n (pc := 10) C dX8_sure_10 rfl 0 rfl ?_
    obtain ⟨r11, hr11, hf⟩ := pb_bind hf
    refine pb_callV (pc := 11) (n0 := 4) (ws' := (wwX8_sure cyB cyI cyJ cyZ cyS a_t a_t_w a_t_isKept a_t_text a_t_refused a_t_numbers a_t_weights c_t_texted c_t_above c_t_below c_t_at c_t_start c_t_isWord c_t_isFigures c_t_all c_t_known c_t_truth c_t_x c_t_h c_t_w r11.2 c_t_weights)) (rest := []) (st2 := [.int r11.1]) C (kcX8_bad l dC dI cyB cyI cyJ cyZ cyS a_t a_t_w a_t_isKept a_t_text a_t_refused a_t_numbers a_t_weights c_t_texted c_t_above c_t_below c_t_at c_t_start c_t_isWord c_t_isFigures c_t_all c_t_known c_t_truth c_t_x c_t_h c_t_refused r11 hr11) pb_NW_b (pb_NW_x hX) (cwV 0 C.1.2.2.2.2 gX8_sure_X8_bad rfl rfl rfl kdV_X8_bad ⟨Nat.le_of_ble_eq_true rfl, Nat.le_of_ble_eq_true rfl⟩) 0 rfl rfl [0, 2] [1, 3] rfl rfl ⟨⟨_, rfl, rfl⟩, ⟨⟨_, rfl, rfl⟩, trivial⟩⟩ rfl (by decide +kernel) (adl := [a_t, a_t_refused]) rfl rfl rfl rfl rfl (Nat.le_of_ble_eq_true rfl) ⟨Nat.le_refl _, Nat.le_refl _⟩ dX8_sure_11 rfl ?_
    obtain rfl := Option.some.inj hf
    exact pb_iret (pc := 14) C hr hlk hA dX8_sure_14
def rmX8_worthOf : Room := { frames := 4, cells := 0, slots := 0, locals := 91 }
def wwX8_worthOf (cyB cyI cyJ cyZ cyS : ClassId) (a_t a_t_w a_t_isKept a_t_text a_t_refused a_t_numbers a_t_weights : Nat) (c_t_texted : Int32) (c_t_above : Int64) (c_t_below : Int64) (c_t_at : Int32) (c_t_start : Int32) (c_t_isWord : Int32) (c_t_isFigures : Int32) (c_t_all : Int64) (c_t_known : Int32) (c_t_truth : Int32) (c_t_x : Int64) (c_t_h : Int64) (c_t_w : (Nat → Int32)) (c_t_weights : (Nat → Int64)) : va_W := [(a_t, .inr (8, [.ref a_t_w, .ref a_t_isKept, .ref a_t_text, .int c_t_texted, .ref a_t_refused, .long c_t_above, .long c_t_below, .int c_t_at, .int c_t_start, .int c_t_isWord, .int c_t_isFigures, .ref a_t_numbers, .ref a_t_weights, .long c_t_all, .int c_t_known, .int c_t_truth, .long c_t_x, .long c_t_h])), (a_t_w, .inl (cyI, 1508, .inl c_t_w)), (a_t_weights, .inl (cyJ, 128, .inr (.inl c_t_weights)))]
theorem hnX8_worthOf_X8 : ∀ w ∈ wsX80, w ∈ wsX8_worthOf := fun _ h => List.mem_cons_of_mem _ (List.mem_append_right _ h)
set_option maxHeartbeats 4000000 in
set_option maxRecDepth 100000 in
theorem kcX8_worthOf (l : Launch) (dC : Nat → ClassId) (dI : Nat → Nat → Nat) (cyB cyI cyJ cyZ cyS : ClassId) (a_t a_t_w a_t_isKept a_t_text a_t_refused a_t_numbers a_t_weights : Nat) (c_t_texted : Int32) (c_t_above : Int64) (c_t_below : Int64) (c_t_at : Int32) (c_t_start : Int32) (c_t_isWord : Int32) (c_t_isFigures : Int32) (c_t_all : Int64) (c_t_known : Int32) (c_t_truth : Int32) (c_t_x : Int64) (c_t_h : Int64) (c_t_w : (Nat → Int32)) (c_t_weights : (Nat → Int64)) (p1 : Int32) (p2 : Int32) (out : Int64) (hf : fX8_worthOf c_t_w c_t_weights p1 p2 = some out) : pb_K l yX8_worthOf wsX8_worthOf rmX8_worthOf (dC, dI) vwCl (pb_tys cyB cyI cyJ cyZ cyS) pb_NW [.ref a_t, .int p1, .int p2] (wwX8_worthOf cyB cyI cyJ cyZ cyS a_t a_t_w a_t_isKept a_t_text a_t_refused a_t_numbers a_t_weights c_t_texted c_t_above c_t_below c_t_at c_t_start c_t_isWord c_t_isFigures c_t_all c_t_known c_t_truth c_t_x c_t_h c_t_w c_t_weights) (wwX8_worthOf cyB cyI cyJ cyZ cyS a_t a_t_w a_t_isKept a_t_text a_t_refused a_t_numbers a_t_weights c_t_texted c_t_above c_t_below c_t_at c_t_start c_t_isWord c_t_isFigures c_t_all c_t_known c_t_truth c_t_x c_t_h c_t_w c_t_weights) (some (.long out)) := by
  unfold fX8_worthOf at hf
  refine pb_K.ofV (cc := cX8_worthOf) (maxL := 10) (ret := (some .long)) (lv0 := [(0, .ref a_t), (1, .int p1), (2, .int p2)]) (by decide) rfl (Nat.le_of_ble_eq_true rfl) rfl ?_
  intro p e s m below meth c A C hX hr hlk hA
  refine pb_lconst (v := 0) (pc := 0) C dX8_worthOf_0 pb_kL_0 ?_
  refine pb_lstore_n (lv' := [(3, .long 0), (0, .ref a_t), (1, .int p1), (2, .int p2)]) (pc := 1) C dX8_worthOf_1 rfl (by decide) rfl ?_
  refine pb_lconst (v := 0) (pc := 2) C dX8_worthOf_2 pb_kL_0 ?_
  refine pb_lstore (lv' := [(5, .long 0), (3, .long 0), (0, .ref a_t), (1, .int p1), (2, .int p2)]) (pc := 3) C dX8_worthOf_3 (by decide) rfl ?_
  refine pb_iconst (v := 0) (pc := 5) C dX8_worthOf_5 pb_kI_0 ?_
  refine pb_istore (lv' := [(7, .int 0), (5, .long 0), (3, .long 0), (0, .ref a_t), (1, .int p1), (2, .int p2)]) (pc := 6) C dX8_worthOf_6 (by decide) rfl ?_
  obtain ⟨z8, hz8, hk8⟩ := pb_bind hf
  have E8 : ∀ (e8_3 : Int64) (e8_5 : Int64) (e8_7 : Int32), fX8_worthOf_E8 e8_3 e8_5 e8_7 = some out → pb_V p l e rmX8_worthOf s m (([.ref a_t, .int p1, .int p2] : List Value).toArray) below meth c 10 (dC, dI) vwCl A 0 0 (pb_MQ below (([.ref a_t, .int p1, .int p2] : List Value).toArray) s (dC, dI) vwCl (wwX8_worthOf cyB cyI cyJ cyZ cyS a_t a_t_w a_t_isKept a_t_text a_t_refused a_t_numbers a_t_weights c_t_texted c_t_above c_t_below c_t_at c_t_start c_t_isWord c_t_isFigures c_t_all c_t_known c_t_truth c_t_x c_t_h c_t_w c_t_weights) (wwX8_worthOf cyB cyI cyJ cyZ cyS a_t a_t_w a_t_isKept a_t_text a_t_refused a_t_numbers a_t_weights c_t_texted c_t_above c_t_below c_t_at c_t_start c_t_isWord c_t_isFigures c_t_all c_t_known c_t_truth c_t_x c_t_h c_t_w c_t_weights) (some (.long out)) A) (wwX8_worthOf cyB cyI cyJ cyZ cyS a_t a_t_w a_t_isKept a_t_text a_t_refused a_t_numbers a_t_weights c_t_texted c_t_above c_t_below c_t_at c_t_start c_t_isWord c_t_isFigures c_t_all c_t_known c_t_truth c_t_x c_t_h c_t_w c_t_weights) [(3, .long e8_3), (5, .long e8_5)] [] 78 := by
    intro e8_3 e8_5 e8_7 hf
    unfold fX8_worthOf_E8 at hf
    refine pb_lload_n (pc := 78) C dX8_worthOf_78 rfl 0 rfl ?_
    refine pb_lconst (v := 0) (pc := 79) C dX8_worthOf_79 pb_kL_0 ?_
    obtain ⟨y89, hf, hk89⟩ := pb_bind hf
    have J89 : ∀ (j89_s0 : Int64), fX8_worthOf_J89 e8_3 e8_5 j89_s0 = some out → pb_V p l e rmX8_worthOf s m (([.ref a_t, .int p1, .int p2] : List Value).toArray) below meth c 10 (dC, dI) vwCl A 0 0 (pb_MQ below (([.ref a_t, .int p1, .int p2] : List Value).toArray) s (dC, dI) vwCl (wwX8_worthOf cyB cyI cyJ cyZ cyS a_t a_t_w a_t_isKept a_t_text a_t_refused a_t_numbers a_t_weights c_t_texted c_t_above c_t_below c_t_at c_t_start c_t_isWord c_t_isFigures c_t_all c_t_known c_t_truth c_t_x c_t_h c_t_w c_t_weights) (wwX8_worthOf cyB cyI cyJ cyZ cyS a_t a_t_w a_t_isKept a_t_text a_t_refused a_t_numbers a_t_weights c_t_texted c_t_above c_t_below c_t_at c_t_start c_t_isWord c_t_isFigures c_t_all c_t_known c_t_truth c_t_x c_t_h c_t_w c_t_weights) (some (.long out)) A) (wwX8_worthOf cyB cyI cyJ cyZ cyS a_t a_t_w a_t_isKept a_t_text a_t_refused a_t_numbers a_t_weights c_t_texted c_t_above c_t_below c_t_at c_t_start c_t_isWord c_t_isFigures c_t_all c_t_known c_t_truth c_t_x c_t_h c_t_w c_t_weights) [(3, .long e8_3), (5, .long e8_5)] [.long j89_s0] 89 := by
      intro j89_s0 hf
      unfold fX8_worthOf_J89 at hf
      refine pb_lload (pc := 89) C dX8_worthOf_89 1 rfl ?_
      refine pb_lconst (v := 0) (pc := 91) C dX8_worthOf_91 pb_kL_0 ?_
      obtain ⟨y102, hf, hk102⟩ := pb_bind hf
      have J102 : ∀ (j102_s1 : Int64), fX8_worthOf_J102 e8_3 e8_5 j89_s0 j102_s1 = some out → pb_V p l e rmX8_worthOf s m (([.ref a_t, .int p1, .int p2] : List Value).toArray) below meth c 10 (dC, dI) vwCl A 0 0 (pb_MQ below (([.ref a_t, .int p1, .int p2] : List Value).toArray) s (dC, dI) vwCl (wwX8_worthOf cyB cyI cyJ cyZ cyS a_t a_t_w a_t_isKept a_t_text a_t_refused a_t_numbers a_t_weights c_t_texted c_t_above c_t_below c_t_at c_t_start c_t_isWord c_t_isFigures c_t_all c_t_known c_t_truth c_t_x c_t_h c_t_w c_t_weights) (wwX8_worthOf cyB cyI cyJ cyZ cyS a_t a_t_w a_t_isKept a_t_text a_t_refused a_t_numbers a_t_weights c_t_texted c_t_above c_t_below c_t_at c_t_start c_t_isWord c_t_isFigures c_t_all c_t_known c_t_truth c_t_x c_t_h c_t_w c_t_weights) (some (.long out)) A) (wwX8_worthOf cyB cyI cyJ cyZ cyS a_t a_t_w a_t_isKept a_t_text a_t_refused a_t_numbers a_t_weights c_t_texted c_t_above c_t_below c_t_at c_t_start c_t_isWord c_t_isFigures c_t_all c_t_known c_t_truth c_t_x c_t_h c_t_w c_t_weights) [(3, .long e8_3), (5, .long e8_5)] [.long j102_s1, .long j89_s0] 102 := by
        intro j102_s1 hf
        unfold fX8_worthOf_J102 at hf
        refine pb_ladd (pc := 102) C dX8_worthOf_102 ?_
        obtain ⟨x103, ex103, hf⟩ := pb_bind hf
        have ex103 := Option.some.inj ex103
        refine pb_topl ex103 ?_
        refine pb_lstore (lv' := [(7, .long x103), (3, .long e8_3), (5, .long e8_5)]) (pc := 103) C dX8_worthOf_103 (by decide) rfl ?_
        refine pb_lload (pc := 105) C dX8_worthOf_105 0 rfl ?_
        refine pb_lload_n (pc := 107) C dX8_worthOf_107 rfl 1 rfl ?_
        refine pb_lload (pc := 108) C dX8_worthOf_108 2 rfl ?_
        refine pb_ladd (pc := 110) C dX8_worthOf_110 ?_
        refine pb_lconst (v := 0) (pc := 111) C dX8_worthOf_111 pb_kL_0 ?_
        refine pb_lif_le (pc := 112) (tgt := 123) C dX8_worthOf_112 dX8_worthOf_113 (by decide) (fun hc112 => ?_) (fun hc112 => ?_)
        · have hf := pb_pos hf hc112
          refine pb_lconst (v := 0) (pc := 123) C dX8_worthOf_123 pb_kL_0 ?_
          refine pb_lsub (pc := 124) C dX8_worthOf_124 ?_
          obtain rfl := Option.some.inj hf
          exact pb_lret (pc := 125) C hr hlk hA dX8_worthOf_125
        · have hf := pb_neg hf hc112
          refine pb_lload_n (pc := 116) C dX8_worthOf_116 rfl 1 rfl ?_
          refine pb_lload (pc := 117) C dX8_worthOf_117 2 rfl ?_
          refine pb_ladd (pc := 119) C dX8_worthOf_119 ?_
          refine pb_goto (pc := 120) (tgt := 124) C dX8_worthOf_120 (by decide) ?_
          refine pb_lsub (pc := 124) C dX8_worthOf_124 ?_
          obtain rfl := Option.some.inj hf
          exact pb_lret (pc := 125) C hr hlk hA dX8_worthOf_125
      refine pb_lif_le (pc := 92) (tgt := 101) C dX8_worthOf_92 dX8_worthOf_93 (by decide) (fun hc92 => ?_) (fun hc92 => ?_)
      · have hf := pb_pos hf hc92
        refine pb_lconst (v := 0) (pc := 101) C dX8_worthOf_101 pb_kL_0 ?_
        obtain rfl := Option.some.inj hf
        exact J102 0 hk102
      · have hf := pb_neg hf hc92
        refine pb_lload (pc := 96) C dX8_worthOf_96 1 rfl ?_
        refine pb_goto (pc := 98) (tgt := 102) C dX8_worthOf_98 (by decide) ?_
        obtain rfl := Option.some.inj hf
        exact J102 e8_5 hk102
    refine pb_lif_le (pc := 80) (tgt := 88) C dX8_worthOf_80 dX8_worthOf_81 (by decide) (fun hc80 => ?_) (fun hc80 => ?_)
    · have hf := pb_pos hf hc80
      refine pb_lconst (v := 0) (pc := 88) C dX8_worthOf_88 pb_kL_0 ?_
      obtain rfl := Option.some.inj hf
      exact J89 0 hk89
    · have hf := pb_neg hf hc80
      refine pb_lload_n (pc := 84) C dX8_worthOf_84 rfl 0 rfl ?_
      refine pb_goto (pc := 85) (tgt := 89) C dX8_worthOf_85 (by decide) ?_
      obtain rfl := Option.some.inj hf
      exact J89 e8_3 hk89
  have L8 : ∀ (n : Nat) (l8_3 : Int64) (l8_5 : Int64) (l8_7 : Int32), pb_lp (fun y => fX8_worthOf_L8 c_t_w c_t_weights p1 p2 y.1 y.2.1 y.2.2) n (l8_3, l8_5, l8_7) = some z8 → pb_V p l e rmX8_worthOf s m (([.ref a_t, .int p1, .int p2] : List Value).toArray) below meth c 10 (dC, dI) vwCl A 0 0 (pb_MQ below (([.ref a_t, .int p1, .int p2] : List Value).toArray) s (dC, dI) vwCl (wwX8_worthOf cyB cyI cyJ cyZ cyS a_t a_t_w a_t_isKept a_t_text a_t_refused a_t_numbers a_t_weights c_t_texted c_t_above c_t_below c_t_at c_t_start c_t_isWord c_t_isFigures c_t_all c_t_known c_t_truth c_t_x c_t_h c_t_w c_t_weights) (wwX8_worthOf cyB cyI cyJ cyZ cyS a_t a_t_w a_t_isKept a_t_text a_t_refused a_t_numbers a_t_weights c_t_texted c_t_above c_t_below c_t_at c_t_start c_t_isWord c_t_isFigures c_t_all c_t_known c_t_truth c_t_x c_t_h c_t_w c_t_weights) (some (.long out)) A) (wwX8_worthOf cyB cyI cyJ cyZ cyS a_t a_t_w a_t_isKept a_t_text a_t_refused a_t_numbers a_t_weights c_t_texted c_t_above c_t_below c_t_at c_t_start c_t_isWord c_t_isFigures c_t_all c_t_known c_t_truth c_t_x c_t_h c_t_w c_t_weights) [(0, .ref a_t), (1, .int p1), (2, .int p2), (3, .long l8_3), (5, .long l8_5), (7, .int l8_7)] [] 8 := by
    intro n
    induction n with
    | zero => intro l8_3 l8_5 l8_7 hf; exact (pb_lp_zero hf).elim
    | succ n ih8 =>
      intro l8_3 l8_5 l8_7 hf
      obtain ⟨y8, hf, hl8⟩ := pb_lp_succ hf
      have hf : fX8_worthOf_L8 c_t_w c_t_weights p1 p2 l8_3 l8_5 l8_7 = some y8 := hf
      unfold fX8_worthOf_L8 at hf
      refine pb_iload (pc := 8) C dX8_worthOf_8 5 rfl ?_
      refine pb_sipush (v := 128) (pc := 10) C dX8_worthOf_10 pb_kS_128 ?_
      refine pb_icmp_ge (pc := 13) (tgt := 78) C dX8_worthOf_13 (by decide) (fun hc13 => ?_) (fun hc13 => ?_)
      · have hf := pb_pos hf hc13
        obtain rfl := Option.some.inj hf
        obtain rfl := pb_esc hl8
        refine pb_sub [3, 4] rfl ?_
        exact E8 l8_3 l8_5 l8_7 hk8
      · have hf := pb_neg hf hc13
        refine pb_aload_n (pc := 16) C dX8_worthOf_16 rfl 0 rfl ?_
        refine pb_get (pc := 17) C hnX8_worthOf_X8 0 rfl rfl 12 (by decide) (List.mem_of_getElem? (i := 1) rfl) rfl rfl dX8_worthOf_17 ?_
        refine pb_iload (pc := 20) C dX8_worthOf_20 5 rfl ?_
        obtain ⟨g22, hf⟩ := pb_grd hf
        refine pb_lald (pc := 22) C 2 2 rfl rfl g22 dX8_worthOf_22 ?_
        refine pb_aload_n (pc := 23) C dX8_worthOf_23 rfl 0 rfl ?_
        refine pb_iload_n (pc := 24) C dX8_worthOf_24 rfl 1 rfl ?_
        refine pb_iload (pc := 25) C dX8_worthOf_25 5 rfl ?_
        obtain ⟨r27, hr27, hf⟩ := pb_bind hf
        refine pb_callV (pc := 27) (n0 := 3) (ws' := (wwX8_worthOf cyB cyI cyJ cyZ cyS a_t a_t_w a_t_isKept a_t_text a_t_refused a_t_numbers a_t_weights c_t_texted c_t_above c_t_below c_t_at c_t_start c_t_isWord c_t_isFigures c_t_all c_t_known c_t_truth c_t_x c_t_h c_t_w c_t_weights)) (rest := [.long (c_t_weights (Int32.toNatClampNeg l8_7))]) (st2 := [.int r27, .long (c_t_weights (Int32.toNatClampNeg l8_7))]) C (kcX8_gain l dC dI cyB cyI cyJ cyZ cyS a_t a_t_w a_t_isKept a_t_text a_t_refused a_t_numbers a_t_weights c_t_texted c_t_above c_t_below c_t_at c_t_start c_t_isWord c_t_isFigures c_t_all c_t_known c_t_truth c_t_x c_t_h c_t_w p1 l8_7 r27 hr27) pb_NW_b (pb_NW_x hX) (cwV 2 C.1.2.2.2.2 gX8_worthOf_X8_gain rfl rfl rfl kdV_X8_gain ⟨Nat.le_of_ble_eq_true rfl, Nat.le_of_ble_eq_true rfl⟩) 0 rfl rfl [0, 1] [2] rfl rfl ⟨⟨_, rfl, rfl⟩, trivial⟩ rfl (by decide +kernel) (adl := [a_t, a_t_w]) rfl rfl rfl rfl rfl (Nat.le_of_ble_eq_true rfl) ⟨Nat.le_refl _, Nat.le_refl _⟩ dX8_worthOf_27 rfl ?_
        refine pb_i2l (pc := 30) C dX8_worthOf_30 ?_
        refine pb_lmul (pc := 31) C dX8_worthOf_31 ?_
        obtain ⟨x32, ex32, hf⟩ := pb_bind hf
        have ex32 := Option.some.inj ex32
        refine pb_topl ex32 ?_
        refine pb_lstore (lv' := [(8, .long x32), (0, .ref a_t), (1, .int p1), (2, .int p2), (3, .long l8_3), (5, .long l8_5), (7, .int l8_7)]) (pc := 32) C dX8_worthOf_32 (by decide) rfl ?_
        refine pb_lload_n (pc := 34) C dX8_worthOf_34 rfl 4 rfl ?_
        refine pb_iload (pc := 35) C dX8_worthOf_35 6 rfl ?_
        refine pb_iload_n (pc := 37) C dX8_worthOf_37 rfl 3 rfl ?_
        obtain ⟨r38, hr38, hf⟩ := pb_bind hf
        refine pb_callS (pc := 38) (n0 := 3) (ws' := (wwX8_worthOf cyB cyI cyJ cyZ cyS a_t a_t_w a_t_isKept a_t_text a_t_refused a_t_numbers a_t_weights c_t_texted c_t_above c_t_below c_t_at c_t_start c_t_isWord c_t_isFigures c_t_all c_t_known c_t_truth c_t_x c_t_h c_t_w c_t_weights)) (rest := [.long l8_3]) (st2 := [.int r38, .long l8_3]) C (kcX8_has l dC dI cyB cyI cyJ cyZ cyS l8_7 p2 r38 hr38) pb_NW_b (pb_NW_x hX) (va_cwS 2 C.1.2.2.2.2 gX8_worthOf_X8_has rfl rfl rfl kdS_X8_has ⟨Nat.le_of_ble_eq_true rfl, Nat.le_of_ble_eq_true rfl⟩) [] [0, 1, 2] rfl rfl ⟨⟨_, rfl, rfl⟩, ⟨⟨_, rfl, rfl⟩, ⟨⟨_, rfl, rfl⟩, trivial⟩⟩⟩ rfl (by decide +kernel) (adl := []) rfl rfl rfl rfl rfl (Nat.le_of_ble_eq_true rfl) ⟨Nat.le_refl _, Nat.le_refl _⟩ dX8_worthOf_38 rfl ?_
        obtain ⟨y50, hf, hk50⟩ := pb_bind hf
        have J50 : ∀ (j50_s1 : Int64), fX8_worthOf_J50 p2 l8_3 l8_5 l8_7 x32 j50_s1 = some y8 → pb_V p l e rmX8_worthOf s m (([.ref a_t, .int p1, .int p2] : List Value).toArray) below meth c 10 (dC, dI) vwCl A 0 0 (pb_MQ below (([.ref a_t, .int p1, .int p2] : List Value).toArray) s (dC, dI) vwCl (wwX8_worthOf cyB cyI cyJ cyZ cyS a_t a_t_w a_t_isKept a_t_text a_t_refused a_t_numbers a_t_weights c_t_texted c_t_above c_t_below c_t_at c_t_start c_t_isWord c_t_isFigures c_t_all c_t_known c_t_truth c_t_x c_t_h c_t_w c_t_weights) (wwX8_worthOf cyB cyI cyJ cyZ cyS a_t a_t_w a_t_isKept a_t_text a_t_refused a_t_numbers a_t_weights c_t_texted c_t_above c_t_below c_t_at c_t_start c_t_isWord c_t_isFigures c_t_all c_t_known c_t_truth c_t_x c_t_h c_t_w c_t_weights) (some (.long out)) A) (wwX8_worthOf cyB cyI cyJ cyZ cyS a_t a_t_w a_t_isKept a_t_text a_t_refused a_t_numbers a_t_weights c_t_texted c_t_above c_t_below c_t_at c_t_start c_t_isWord c_t_isFigures c_t_all c_t_known c_t_truth c_t_x c_t_h c_t_w c_t_weights) [(0, .ref a_t), (1, .int p1), (2, .int p2), (5, .long l8_5), (7, .int l8_7), (8, .long x32)] [.long j50_s1, .long l8_3] 50 := by
          intro j50_s1 hf
          unfold fX8_worthOf_J50 at hf
          refine pb_ladd (pc := 50) C dX8_worthOf_50 ?_
          obtain ⟨x51, ex51, hf⟩ := pb_bind hf
          have ex51 := Option.some.inj ex51
          refine pb_topl ex51 ?_
          refine pb_lstore_n (lv' := [(3, .long x51), (0, .ref a_t), (1, .int p1), (2, .int p2), (5, .long l8_5), (7, .int l8_7), (8, .long x32)]) (pc := 51) C dX8_worthOf_51 rfl (by decide) rfl ?_
          refine pb_lload (pc := 52) C dX8_worthOf_52 4 rfl ?_
          refine pb_iload (pc := 54) C dX8_worthOf_54 5 rfl ?_
          refine pb_iload_n (pc := 56) C dX8_worthOf_56 rfl 3 rfl ?_
          obtain ⟨r57, hr57, hf⟩ := pb_bind hf
          refine pb_callS (pc := 57) (n0 := 3) (ws' := (wwX8_worthOf cyB cyI cyJ cyZ cyS a_t a_t_w a_t_isKept a_t_text a_t_refused a_t_numbers a_t_weights c_t_texted c_t_above c_t_below c_t_at c_t_start c_t_isWord c_t_isFigures c_t_all c_t_known c_t_truth c_t_x c_t_h c_t_w c_t_weights)) (rest := [.long l8_5]) (st2 := [.int r57, .long l8_5]) C (kcX8_has l dC dI cyB cyI cyJ cyZ cyS l8_7 p2 r57 hr57) pb_NW_b (pb_NW_x hX) (va_cwS 2 C.1.2.2.2.2 gX8_worthOf_X8_has rfl rfl rfl kdS_X8_has ⟨Nat.le_of_ble_eq_true rfl, Nat.le_of_ble_eq_true rfl⟩) [] [0, 1, 2] rfl rfl ⟨⟨_, rfl, rfl⟩, ⟨⟨_, rfl, rfl⟩, ⟨⟨_, rfl, rfl⟩, trivial⟩⟩⟩ rfl (by decide +kernel) (adl := []) rfl rfl rfl rfl rfl (Nat.le_of_ble_eq_true rfl) ⟨Nat.le_refl _, Nat.le_refl _⟩ dX8_worthOf_57 rfl ?_
          refine pb_if_eq (pc := 60) (tgt := 67) C dX8_worthOf_60 (by decide) (fun hc60 => ?_) (fun hc60 => ?_)
          · have hf := pb_pos hf hc60
            refine pb_lload (pc := 67) C dX8_worthOf_67 6 rfl ?_
            refine pb_ladd (pc := 69) C dX8_worthOf_69 ?_
            obtain ⟨x70, ex70, hf⟩ := pb_bind hf
            have ex70 := Option.some.inj ex70
            refine pb_topl ex70 ?_
            refine pb_lstore (lv' := [(5, .long x70), (3, .long x51), (0, .ref a_t), (1, .int p1), (2, .int p2), (7, .int l8_7), (8, .long x32)]) (pc := 70) C dX8_worthOf_70 (by decide) rfl ?_
            refine pb_iinc (v := l8_7 + 1) (lv' := [(7, .int (l8_7 + 1)), (5, .long x70), (3, .long x51), (0, .ref a_t), (1, .int p1), (2, .int p2), (8, .long x32)]) (pc := 72) C dX8_worthOf_72 5 rfl (pb_inc pb_kI_1 rfl) (by decide) rfl ?_
            refine pb_goto (pc := 75) (tgt := 8) C dX8_worthOf_75 (by decide) ?_
            obtain rfl := Option.some.inj hf
            refine pb_sub [3, 4, 5, 2, 1, 0] rfl ?_
            have hl8 := pb_inl hl8
            exact ih8 x51 x70 (l8_7 + 1) hl8
          · have hf := pb_neg hf hc60
            refine pb_lconst (v := 0) (pc := 63) C dX8_worthOf_63 pb_kL_0 ?_
            refine pb_goto (pc := 64) (tgt := 69) C dX8_worthOf_64 (by decide) ?_
            refine pb_ladd (pc := 69) C dX8_worthOf_69 ?_
            obtain ⟨x70, ex70, hf⟩ := pb_bind hf
            have ex70 := Option.some.inj ex70
            refine pb_topl ex70 ?_
            refine pb_lstore (lv' := [(5, .long x70), (3, .long x51), (0, .ref a_t), (1, .int p1), (2, .int p2), (7, .int l8_7), (8, .long x32)]) (pc := 70) C dX8_worthOf_70 (by decide) rfl ?_
            refine pb_iinc (v := l8_7 + 1) (lv' := [(7, .int (l8_7 + 1)), (5, .long x70), (3, .long x51), (0, .ref a_t), (1, .int p1), (2, .int p2), (8, .long x32)]) (pc := 72) C dX8_worthOf_72 5 rfl (pb_inc pb_kI_1 rfl) (by decide) rfl ?_
            refine pb_goto (pc := 75) (tgt := 8) C dX8_worthOf_75 (by decide) ?_
            obtain rfl := Option.some.inj hf
            refine pb_sub [3, 4, 5, 2, 1, 0] rfl ?_
            have hl8 := pb_inl hl8
            exact ih8 x51 x70 (l8_7 + 1) hl8
        refine pb_if_eq (pc := 41) (tgt := 49) C dX8_worthOf_41 (by decide) (fun hc41 => ?_) (fun hc41 => ?_)
        · have hf := pb_pos hf hc41
          refine pb_lconst (v := 0) (pc := 49) C dX8_worthOf_49 pb_kL_0 ?_
          obtain rfl := Option.some.inj hf
          refine pb_sub [1, 2, 3, 5, 6, 0] rfl ?_
          exact J50 0 hk50
        · have hf := pb_neg hf hc41
          refine pb_lload (pc := 44) C dX8_worthOf_44 0 rfl ?_
          refine pb_goto (pc := 46) (tgt := 50) C dX8_worthOf_46 (by decide) ?_
          obtain rfl := Option.some.inj hf
          refine pb_sub [1, 2, 3, 5, 6, 0] rfl ?_
          exact J50 x32 hk50
  refine pb_sub [3, 4, 5, 2, 1, 0] rfl ?_
  exact L8 pb_FU 0 0 0 hz8
def rmX8_worth : Room := { frames := 5, cells := 0, slots := 0, locals := 120 }
def wwX8_worth (cyB cyI cyJ cyZ cyS : ClassId) (a_t a_t_w a_t_isKept a_t_text a_t_refused a_t_numbers a_t_weights : Nat) (c_t_texted : Int32) (c_t_above : Int64) (c_t_below : Int64) (c_t_at : Int32) (c_t_start : Int32) (c_t_isWord : Int32) (c_t_isFigures : Int32) (c_t_all : Int64) (c_t_known : Int32) (c_t_truth : Int32) (c_t_x : Int64) (c_t_h : Int64) (c_t_w : (Nat → Int32)) (c_t_refused : (Nat → Int32)) (c_t_weights : (Nat → Int64)) : va_W := [(a_t, .inr (8, [.ref a_t_w, .ref a_t_isKept, .ref a_t_text, .int c_t_texted, .ref a_t_refused, .long c_t_above, .long c_t_below, .int c_t_at, .int c_t_start, .int c_t_isWord, .int c_t_isFigures, .ref a_t_numbers, .ref a_t_weights, .long c_t_all, .int c_t_known, .int c_t_truth, .long c_t_x, .long c_t_h])), (a_t_w, .inl (cyI, 1508, .inl c_t_w)), (a_t_refused, .inl (cyI, 3, .inl c_t_refused)), (a_t_weights, .inl (cyJ, 128, .inr (.inl c_t_weights)))]
theorem hnX8_worth_X8 : ∀ w ∈ wsX80, w ∈ wsX8_worth := fun _ h => List.mem_cons_of_mem _ (List.mem_append_right _ h)
set_option maxHeartbeats 4000000 in
set_option maxRecDepth 100000 in
theorem kcX8_worth (l : Launch) (dC : Nat → ClassId) (dI : Nat → Nat → Nat) (cyB cyI cyJ cyZ cyS : ClassId) (a_t a_t_w a_t_isKept a_t_text a_t_refused a_t_numbers a_t_weights : Nat) (c_t_texted : Int32) (c_t_above : Int64) (c_t_below : Int64) (c_t_at : Int32) (c_t_start : Int32) (c_t_isWord : Int32) (c_t_isFigures : Int32) (c_t_all : Int64) (c_t_known : Int32) (c_t_truth : Int32) (c_t_x : Int64) (c_t_h : Int64) (c_t_w : (Nat → Int32)) (c_t_refused : (Nat → Int32)) (c_t_weights : (Nat → Int64)) (p1 : Int32) (p2 : Int32) (out : (Int32 × Int64 × Int64 × Int64 × (Nat → Int32) × (Nat → Int64))) (hf : fX8_worth c_t_above c_t_below c_t_all c_t_w c_t_refused c_t_weights p1 p2 = some out) : pb_K l yX8_worth wsX8_worth rmX8_worth (dC, dI) vwCl (pb_tys cyB cyI cyJ cyZ cyS) pb_NW [.ref a_t, .int p1, .int p2] (wwX8_worth cyB cyI cyJ cyZ cyS a_t a_t_w a_t_isKept a_t_text a_t_refused a_t_numbers a_t_weights c_t_texted c_t_above c_t_below c_t_at c_t_start c_t_isWord c_t_isFigures c_t_all c_t_known c_t_truth c_t_x c_t_h c_t_w c_t_refused c_t_weights) (wwX8_worth cyB cyI cyJ cyZ cyS a_t a_t_w a_t_isKept a_t_text a_t_refused a_t_numbers a_t_weights c_t_texted out.2.1 out.2.2.1 c_t_at c_t_start c_t_isWord c_t_isFigures out.2.2.2.1 c_t_known c_t_truth c_t_x c_t_h c_t_w out.2.2.2.2.1 out.2.2.2.2.2) (some (.int out.1)) := by
  unfold fX8_worth at hf
  refine pb_K.ofV (cc := cX8_worth) (maxL := 3) (ret := (some .int)) (lv0 := [(0, .ref a_t), (1, .int p1), (2, .int p2)]) (by decide) rfl (Nat.le_of_ble_eq_true rfl) rfl ?_
  intro p e s m below meth c A C hX hr hlk hA
  refine pb_aload_n (pc := 0) C dX8_worth_0 rfl 0 rfl ?_
  refine pb_iload_n (pc := 1) C dX8_worth_1 rfl 1 rfl ?_
  obtain ⟨r2, hr2, hf⟩ := pb_bind hf
  refine pb_callV (pc := 2) (n0 := 4) (ws' := (wwX8_worth cyB cyI cyJ cyZ cyS a_t a_t_w a_t_isKept a_t_text a_t_refused a_t_numbers a_t_weights c_t_texted c_t_above c_t_below c_t_at c_t_start c_t_isWord c_t_isFigures c_t_all c_t_known c_t_truth c_t_x c_t_h c_t_w c_t_refused c_t_weights)) (rest := []) (st2 := [.int r2]) C (kcX8_isBet l dC dI cyB cyI cyJ cyZ cyS a_t a_t_w a_t_isKept a_t_text a_t_refused a_t_numbers a_t_weights c_t_texted c_t_above c_t_below c_t_at c_t_start c_t_isWord c_t_isFigures c_t_all c_t_known c_t_truth c_t_x c_t_h c_t_w p1 r2 hr2) pb_NW_b (pb_NW_x hX) (cwV 1 C.1.2.2.2.2 gX8_worth_X8_isBet rfl rfl rfl kdV_X8_isBet ⟨Nat.le_of_ble_eq_true rfl, Nat.le_of_ble_eq_true rfl⟩) 0 rfl rfl [0, 1] [2, 3] rfl rfl ⟨⟨_, rfl, rfl⟩, ⟨⟨_, rfl, rfl⟩, trivial⟩⟩ rfl (by decide +kernel) (adl := [a_t, a_t_w]) rfl rfl rfl rfl rfl (Nat.le_of_ble_eq_true rfl) ⟨Nat.le_refl _, Nat.le_refl _⟩ dX8_worth_2 rfl ?_
  refine pb_if_eq (pc := 5) (tgt := 15) C dX8_worth_5 (by decide) (fun hc5 => ?_) (fun hc5 => ?_)
  · have hf := pb_pos hf hc5
    refine pb_aload_n (pc := 15) C dX8_worth_15 rfl 0 rfl ?_
    obtain ⟨r16, hr16, hf⟩ := pb_bind hf
    refine pb_callV (pc := 16) (n0 := 4) (ws' := (wwX8_worth cyB cyI cyJ cyZ cyS a_t a_t_w a_t_isKept a_t_text a_t_refused a_t_numbers a_t_weights c_t_texted c_t_above c_t_below c_t_at c_t_start c_t_isWord c_t_isFigures c_t_all c_t_known c_t_truth c_t_x c_t_h c_t_w r16.2 c_t_weights)) (rest := []) (st2 := [.int r16.1]) C (kcX8_bad l dC dI cyB cyI cyJ cyZ cyS a_t a_t_w a_t_isKept a_t_text a_t_refused a_t_numbers a_t_weights c_t_texted c_t_above c_t_below c_t_at c_t_start c_t_isWord c_t_isFigures c_t_all c_t_known c_t_truth c_t_x c_t_h c_t_refused r16 hr16) pb_NW_b (pb_NW_x hX) (cwV 0 C.1.2.2.2.2 gX8_worth_X8_bad rfl rfl rfl kdV_X8_bad ⟨Nat.le_of_ble_eq_true rfl, Nat.le_of_ble_eq_true rfl⟩) 0 rfl rfl [0, 2] [1, 3] rfl rfl ⟨⟨_, rfl, rfl⟩, ⟨⟨_, rfl, rfl⟩, trivial⟩⟩ rfl (by decide +kernel) (adl := [a_t, a_t_refused]) rfl rfl rfl rfl rfl (Nat.le_of_ble_eq_true rfl) ⟨Nat.le_refl _, Nat.le_refl _⟩ dX8_worth_16 rfl ?_
    obtain rfl := Option.some.inj hf
    exact pb_iret (pc := 19) C hr hlk hA dX8_worth_19
  · have hf := pb_neg hf hc5
    refine pb_iload_n (pc := 8) C dX8_worth_8 rfl 2 rfl ?_
    obtain ⟨r9, hr9, hf⟩ := pb_bind hf
    refine pb_callS (pc := 9) (n0 := 4) (ws' := (wwX8_worth cyB cyI cyJ cyZ cyS a_t a_t_w a_t_isKept a_t_text a_t_refused a_t_numbers a_t_weights c_t_texted c_t_above c_t_below c_t_at c_t_start c_t_isWord c_t_isFigures c_t_all c_t_known c_t_truth c_t_x c_t_h c_t_w c_t_refused c_t_weights)) (rest := []) (st2 := [.int r9]) C (kcX8_isFact l dC dI cyB cyI cyJ cyZ cyS p2 r9 hr9) pb_NW_b (pb_NW_x hX) (va_cwS 1 C.1.2.2.2.2 gX8_worth_X8_isFact rfl rfl rfl kdS_X8_isFact ⟨Nat.le_of_ble_eq_true rfl, Nat.le_of_ble_eq_true rfl⟩) [] [0, 1, 2, 3] rfl rfl ⟨⟨_, rfl, rfl⟩, ⟨⟨_, rfl, rfl⟩, ⟨⟨_, rfl, rfl⟩, ⟨⟨_, rfl, rfl⟩, trivial⟩⟩⟩⟩ rfl (by decide +kernel) (adl := []) rfl rfl rfl rfl rfl (Nat.le_of_ble_eq_true rfl) ⟨Nat.le_refl _, Nat.le_refl _⟩ dX8_worth_9 rfl ?_
    refine pb_if_ne (pc := 12) (tgt := 20) C dX8_worth_12 (by decide) (fun hc12 => ?_) (fun hc12 => ?_)
    · have hf := pb_neg hf hc12
      refine pb_aload_n (pc := 20) C dX8_worth_20 rfl 0 rfl ?_
      obtain ⟨r21, hr21, hf⟩ := pb_bind hf
      refine pb_callV (pc := 21) (n0 := 4) (ws' := (wwX8_worth cyB cyI cyJ cyZ cyS a_t a_t_w a_t_isKept a_t_text a_t_refused a_t_numbers a_t_weights c_t_texted c_t_above c_t_below c_t_at c_t_start c_t_isWord c_t_isFigures r21.2.1 c_t_known c_t_truth c_t_x c_t_h c_t_w c_t_refused r21.2.2)) (rest := []) (st2 := [.int r21.1]) C (kcX8_fits l dC dI cyB cyI cyJ cyZ cyS a_t a_t_w a_t_isKept a_t_text a_t_refused a_t_numbers a_t_weights c_t_texted c_t_above c_t_below c_t_at c_t_start c_t_isWord c_t_isFigures c_t_all c_t_known c_t_truth c_t_x c_t_h c_t_w c_t_weights r21 hr21) pb_NW_b (pb_NW_x hX) (cwV 0 C.1.2.2.2.2 gX8_worth_X8_fits rfl rfl rfl kdV_X8_fits ⟨Nat.le_of_ble_eq_true rfl, Nat.le_of_ble_eq_true rfl⟩) 0 rfl rfl [0, 1, 3] [2] rfl rfl ⟨⟨_, rfl, rfl⟩, trivial⟩ rfl (by decide +kernel) (adl := [a_t, a_t_w, a_t_weights]) rfl rfl rfl rfl rfl (Nat.le_of_ble_eq_true rfl) ⟨Nat.le_refl _, Nat.le_refl _⟩ dX8_worth_21 rfl ?_
      refine pb_if_eq (pc := 24) (tgt := 44) C dX8_worth_24 (by decide) (fun hc24 => ?_) (fun hc24 => ?_)
      · have hf := pb_pos hf hc24
        refine pb_aload_n (pc := 44) C dX8_worth_44 rfl 0 rfl ?_
        obtain ⟨r45, hr45, hf⟩ := pb_bind hf
        refine pb_callV (pc := 45) (n0 := 4) (ws' := (wwX8_worth cyB cyI cyJ cyZ cyS a_t a_t_w a_t_isKept a_t_text a_t_refused a_t_numbers a_t_weights c_t_texted c_t_above c_t_below c_t_at c_t_start c_t_isWord c_t_isFigures r21.2.1 c_t_known c_t_truth c_t_x c_t_h c_t_w r45.2 r21.2.2)) (rest := []) (st2 := [.int r45.1]) C (kcX8_no l dC dI cyB cyI cyJ cyZ cyS a_t a_t_w a_t_isKept a_t_text a_t_refused a_t_numbers a_t_weights c_t_texted c_t_above c_t_below c_t_at c_t_start c_t_isWord c_t_isFigures r21.2.1 c_t_known c_t_truth c_t_x c_t_h c_t_refused r45 hr45) pb_NW_b (pb_NW_x hX) (cwV 0 C.1.2.2.2.2 gX8_worth_X8_no rfl rfl rfl kdV_X8_no ⟨Nat.le_of_ble_eq_true rfl, Nat.le_of_ble_eq_true rfl⟩) 0 rfl rfl [0, 2] [1, 3] rfl rfl ⟨⟨_, rfl, rfl⟩, ⟨⟨_, rfl, rfl⟩, trivial⟩⟩ rfl (by decide +kernel) (adl := [a_t, a_t_refused]) rfl rfl rfl rfl rfl (Nat.le_of_ble_eq_true rfl) ⟨Nat.le_refl _, Nat.le_refl _⟩ dX8_worth_45 rfl ?_
        obtain rfl := Option.some.inj hf
        exact pb_iret (pc := 48) C hr hlk hA dX8_worth_48
      · have hf := pb_neg hf hc24
        refine pb_aload_n (pc := 27) C dX8_worth_27 rfl 0 rfl ?_
        refine pb_aload_n (pc := 28) C dX8_worth_28 rfl 0 rfl ?_
        refine pb_iload_n (pc := 29) C dX8_worth_29 rfl 1 rfl ?_
        refine pb_iload_n (pc := 30) C dX8_worth_30 rfl 2 rfl ?_
        obtain ⟨r31, hr31, hf⟩ := pb_bind hf
        refine pb_callV (pc := 31) (n0 := 4) (ws' := (wwX8_worth cyB cyI cyJ cyZ cyS a_t a_t_w a_t_isKept a_t_text a_t_refused a_t_numbers a_t_weights c_t_texted c_t_above c_t_below c_t_at c_t_start c_t_isWord c_t_isFigures r21.2.1 c_t_known c_t_truth c_t_x c_t_h c_t_w c_t_refused r21.2.2)) (rest := [.ref a_t]) (st2 := [.long r31, .ref a_t]) C (kcX8_worthOf l dC dI cyB cyI cyJ cyZ cyS a_t a_t_w a_t_isKept a_t_text a_t_refused a_t_numbers a_t_weights c_t_texted c_t_above c_t_below c_t_at c_t_start c_t_isWord c_t_isFigures r21.2.1 c_t_known c_t_truth c_t_x c_t_h c_t_w r21.2.2 p1 p2 r31 hr31) pb_NW_b (pb_NW_x hX) (cwV 2 C.1.2.2.2.2 gX8_worth_X8_worthOf rfl rfl rfl kdV_X8_worthOf ⟨Nat.le_of_ble_eq_true rfl, Nat.le_of_ble_eq_true rfl⟩) 0 rfl rfl [0, 1, 3] [2] rfl rfl ⟨⟨_, rfl, rfl⟩, trivial⟩ rfl (by decide +kernel) (adl := [a_t, a_t_w, a_t_weights]) rfl rfl rfl rfl rfl (Nat.le_of_ble_eq_true rfl) ⟨Nat.le_refl _, Nat.le_refl _⟩ dX8_worth_31 rfl ?_
        refine pb_aload_n (pc := 34) C dX8_worth_34 rfl 0 rfl ?_
        refine pb_get (pc := 35) C hnX8_worth_X8 0 rfl rfl 13 (by decide) (List.mem_of_getElem? (i := 1) rfl) rfl rfl dX8_worth_35 ?_
        obtain ⟨r38, hr38, hf⟩ := pb_bind hf
        refine pb_callV (pc := 38) (n0 := 4) (ws' := (wwX8_worth cyB cyI cyJ cyZ cyS a_t a_t_w a_t_isKept a_t_text a_t_refused a_t_numbers a_t_weights c_t_texted r38.2.1 r38.2.2 c_t_at c_t_start c_t_isWord c_t_isFigures r21.2.1 c_t_known c_t_truth c_t_x c_t_h c_t_w c_t_refused r21.2.2)) (rest := []) (st2 := [.int r38.1]) C (kcX8_tells l dC dI cyB cyI cyJ cyZ cyS a_t a_t_w a_t_isKept a_t_text a_t_refused a_t_numbers a_t_weights c_t_texted c_t_above c_t_below c_t_at c_t_start c_t_isWord c_t_isFigures r21.2.1 c_t_known c_t_truth c_t_x c_t_h r31 r21.2.1 r38 hr38) pb_NW_b (pb_NW_x hX) (cwV 2 C.1.2.2.2.2 gX8_worth_X8_tells rfl rfl rfl kdV_X8_tells ⟨Nat.le_of_ble_eq_true rfl, Nat.le_of_ble_eq_true rfl⟩) 0 rfl rfl [0] [1, 2, 3] rfl rfl ⟨⟨_, rfl, rfl⟩, ⟨⟨_, rfl, rfl⟩, ⟨⟨_, rfl, rfl⟩, trivial⟩⟩⟩ rfl (by decide +kernel) (adl := [a_t]) rfl rfl rfl rfl rfl (Nat.le_of_ble_eq_true rfl) ⟨Nat.le_refl _, Nat.le_refl _⟩ dX8_worth_38 rfl ?_
        refine pb_goto (pc := 41) (tgt := 48) C dX8_worth_41 (by decide) ?_
        obtain rfl := Option.some.inj hf
        exact pb_iret (pc := 48) C hr hlk hA dX8_worth_48
    · have hf := pb_pos hf hc12
      refine pb_aload_n (pc := 15) C dX8_worth_15 rfl 0 rfl ?_
      obtain ⟨r16, hr16, hf⟩ := pb_bind hf
      refine pb_callV (pc := 16) (n0 := 4) (ws' := (wwX8_worth cyB cyI cyJ cyZ cyS a_t a_t_w a_t_isKept a_t_text a_t_refused a_t_numbers a_t_weights c_t_texted c_t_above c_t_below c_t_at c_t_start c_t_isWord c_t_isFigures c_t_all c_t_known c_t_truth c_t_x c_t_h c_t_w r16.2 c_t_weights)) (rest := []) (st2 := [.int r16.1]) C (kcX8_bad l dC dI cyB cyI cyJ cyZ cyS a_t a_t_w a_t_isKept a_t_text a_t_refused a_t_numbers a_t_weights c_t_texted c_t_above c_t_below c_t_at c_t_start c_t_isWord c_t_isFigures c_t_all c_t_known c_t_truth c_t_x c_t_h c_t_refused r16 hr16) pb_NW_b (pb_NW_x hX) (cwV 0 C.1.2.2.2.2 gX8_worth_X8_bad rfl rfl rfl kdV_X8_bad ⟨Nat.le_of_ble_eq_true rfl, Nat.le_of_ble_eq_true rfl⟩) 0 rfl rfl [0, 2] [1, 3] rfl rfl ⟨⟨_, rfl, rfl⟩, ⟨⟨_, rfl, rfl⟩, trivial⟩⟩ rfl (by decide +kernel) (adl := [a_t, a_t_refused]) rfl rfl rfl rfl rfl (Nat.le_of_ble_eq_true rfl) ⟨Nat.le_refl _, Nat.le_refl _⟩ dX8_worth_16 rfl ?_
      obtain rfl := Option.some.inj hf
      exact pb_iret (pc := 19) C hr hlk hA dX8_worth_19
def rmX8_dig : Room := { frames := 5, cells := 0, slots := 0, locals := 120 }
def wwX8_dig (cyB cyI cyJ cyZ cyS : ClassId) (a_t a_t_w a_t_isKept a_t_text a_t_refused a_t_numbers a_t_weights : Nat) (c_t_texted : Int32) (c_t_above : Int64) (c_t_below : Int64) (c_t_at : Int32) (c_t_start : Int32) (c_t_isWord : Int32) (c_t_isFigures : Int32) (c_t_all : Int64) (c_t_known : Int32) (c_t_truth : Int32) (c_t_x : Int64) (c_t_h : Int64) (c_t_w : (Nat → Int32)) (c_t_refused : (Nat → Int32)) (c_t_weights : (Nat → Int64)) : va_W := [(a_t, .inr (8, [.ref a_t_w, .ref a_t_isKept, .ref a_t_text, .int c_t_texted, .ref a_t_refused, .long c_t_above, .long c_t_below, .int c_t_at, .int c_t_start, .int c_t_isWord, .int c_t_isFigures, .ref a_t_numbers, .ref a_t_weights, .long c_t_all, .int c_t_known, .int c_t_truth, .long c_t_x, .long c_t_h])), (a_t_w, .inl (cyI, 1508, .inl c_t_w)), (a_t_refused, .inl (cyI, 3, .inl c_t_refused)), (a_t_weights, .inl (cyJ, 128, .inr (.inl c_t_weights)))]
set_option maxHeartbeats 4000000 in
set_option maxRecDepth 100000 in
theorem kcX8_dig (l : Launch) (dC : Nat → ClassId) (dI : Nat → Nat → Nat) (cyB cyI cyJ cyZ cyS : ClassId) (a_t a_t_w a_t_isKept a_t_text a_t_refused a_t_numbers a_t_weights : Nat) (c_t_texted : Int32) (c_t_above : Int64) (c_t_below : Int64) (c_t_at : Int32) (c_t_start : Int32) (c_t_isWord : Int32) (c_t_isFigures : Int32) (c_t_all : Int64) (c_t_known : Int32) (c_t_truth : Int32) (c_t_x : Int64) (c_t_h : Int64) (c_t_w : (Nat → Int32)) (c_t_refused : (Nat → Int32)) (c_t_weights : (Nat → Int64)) (p1 : Int32) (out : (Int32 × Int64 × (Nat → Int32) × (Nat → Int64))) (hf : fX8_dig c_t_all c_t_w c_t_refused c_t_weights p1 = some out) : pb_K l yX8_dig wsX8_dig rmX8_dig (dC, dI) vwCl (pb_tys cyB cyI cyJ cyZ cyS) pb_NW [.ref a_t, .int p1] (wwX8_dig cyB cyI cyJ cyZ cyS a_t a_t_w a_t_isKept a_t_text a_t_refused a_t_numbers a_t_weights c_t_texted c_t_above c_t_below c_t_at c_t_start c_t_isWord c_t_isFigures c_t_all c_t_known c_t_truth c_t_x c_t_h c_t_w c_t_refused c_t_weights) (wwX8_dig cyB cyI cyJ cyZ cyS a_t a_t_w a_t_isKept a_t_text a_t_refused a_t_numbers a_t_weights c_t_texted c_t_above c_t_below c_t_at c_t_start c_t_isWord c_t_isFigures out.2.1 c_t_known c_t_truth c_t_x c_t_h c_t_w out.2.2.1 out.2.2.2) (some (.int out.1)) := by
  unfold fX8_dig at hf
  refine pb_K.ofV (cc := cX8_dig) (maxL := 4) (ret := (some .int)) (lv0 := [(0, .ref a_t), (1, .int p1)]) (by decide) rfl (Nat.le_of_ble_eq_true rfl) rfl ?_
  intro p e s m below meth c A C hX hr hlk hA
  refine pb_aload_n (pc := 0) C dX8_dig_0 rfl 0 rfl ?_
  refine pb_iload_n (pc := 1) C dX8_dig_1 rfl 1 rfl ?_
  obtain ⟨r2, hr2, hf⟩ := pb_bind hf
  refine pb_callV (pc := 2) (n0 := 4) (ws' := (wwX8_dig cyB cyI cyJ cyZ cyS a_t a_t_w a_t_isKept a_t_text a_t_refused a_t_numbers a_t_weights c_t_texted c_t_above c_t_below c_t_at c_t_start c_t_isWord c_t_isFigures c_t_all c_t_known c_t_truth c_t_x c_t_h c_t_w c_t_refused c_t_weights)) (rest := []) (st2 := [.int r2]) C (kcX8_isBet l dC dI cyB cyI cyJ cyZ cyS a_t a_t_w a_t_isKept a_t_text a_t_refused a_t_numbers a_t_weights c_t_texted c_t_above c_t_below c_t_at c_t_start c_t_isWord c_t_isFigures c_t_all c_t_known c_t_truth c_t_x c_t_h c_t_w p1 r2 hr2) pb_NW_b (pb_NW_x hX) (cwV 1 C.1.2.2.2.2 gX8_dig_X8_isBet rfl rfl rfl kdV_X8_isBet ⟨Nat.le_of_ble_eq_true rfl, Nat.le_of_ble_eq_true rfl⟩) 0 rfl rfl [0, 1] [2, 3] rfl rfl ⟨⟨_, rfl, rfl⟩, ⟨⟨_, rfl, rfl⟩, trivial⟩⟩ rfl (by decide +kernel) (adl := [a_t, a_t_w]) rfl rfl rfl rfl rfl (Nat.le_of_ble_eq_true rfl) ⟨Nat.le_refl _, Nat.le_refl _⟩ dX8_dig_2 rfl ?_
  refine pb_if_ne (pc := 5) (tgt := 13) C dX8_dig_5 (by decide) (fun hc5 => ?_) (fun hc5 => ?_)
  · have hf := pb_neg hf hc5
    refine pb_aload_n (pc := 13) C dX8_dig_13 rfl 0 rfl ?_
    obtain ⟨r14, hr14, hf⟩ := pb_bind hf
    refine pb_callV (pc := 14) (n0 := 4) (ws' := (wwX8_dig cyB cyI cyJ cyZ cyS a_t a_t_w a_t_isKept a_t_text a_t_refused a_t_numbers a_t_weights c_t_texted c_t_above c_t_below c_t_at c_t_start c_t_isWord c_t_isFigures r14.2.1 c_t_known c_t_truth c_t_x c_t_h c_t_w c_t_refused r14.2.2)) (rest := []) (st2 := [.int r14.1]) C (kcX8_fits l dC dI cyB cyI cyJ cyZ cyS a_t a_t_w a_t_isKept a_t_text a_t_refused a_t_numbers a_t_weights c_t_texted c_t_above c_t_below c_t_at c_t_start c_t_isWord c_t_isFigures c_t_all c_t_known c_t_truth c_t_x c_t_h c_t_w c_t_weights r14 hr14) pb_NW_b (pb_NW_x hX) (cwV 0 C.1.2.2.2.2 gX8_dig_X8_fits rfl rfl rfl kdV_X8_fits ⟨Nat.le_of_ble_eq_true rfl, Nat.le_of_ble_eq_true rfl⟩) 0 rfl rfl [0, 1, 3] [2] rfl rfl ⟨⟨_, rfl, rfl⟩, trivial⟩ rfl (by decide +kernel) (adl := [a_t, a_t_w, a_t_weights]) rfl rfl rfl rfl rfl (Nat.le_of_ble_eq_true rfl) ⟨Nat.le_refl _, Nat.le_refl _⟩ dX8_dig_14 rfl ?_
    refine pb_if_ne (pc := 17) (tgt := 25) C dX8_dig_17 (by decide) (fun hc17 => ?_) (fun hc17 => ?_)
    · have hf := pb_neg hf hc17
      refine pb_iconst (v := 0) (pc := 25) C dX8_dig_25 pb_kI_0 ?_
      refine pb_istore_n (lv' := [(2, .int 0), (0, .ref a_t), (1, .int p1)]) (pc := 26) C dX8_dig_26 rfl (by decide) rfl ?_
      refine pb_iconst (v := 1) (pc := 27) C dX8_dig_27 pb_kI_1 ?_
      refine pb_istore_n (lv' := [(3, .int 1), (2, .int 0), (0, .ref a_t), (1, .int p1)]) (pc := 28) C dX8_dig_28 rfl (by decide) rfl ?_
      obtain ⟨z29, hz29, hk29⟩ := pb_bind hf
      have E29 : ∀ (e29_2 : Int32) (e29_3 : Int32), fX8_dig_E29 c_t_refused r14 e29_2 e29_3 = some out → pb_V p l e rmX8_dig s m (([.ref a_t, .int p1] : List Value).toArray) below meth c 4 (dC, dI) vwCl A 0 0 (pb_MQ below (([.ref a_t, .int p1] : List Value).toArray) s (dC, dI) vwCl (wwX8_dig cyB cyI cyJ cyZ cyS a_t a_t_w a_t_isKept a_t_text a_t_refused a_t_numbers a_t_weights c_t_texted c_t_above c_t_below c_t_at c_t_start c_t_isWord c_t_isFigures c_t_all c_t_known c_t_truth c_t_x c_t_h c_t_w c_t_refused c_t_weights) (wwX8_dig cyB cyI cyJ cyZ cyS a_t a_t_w a_t_isKept a_t_text a_t_refused a_t_numbers a_t_weights c_t_texted c_t_above c_t_below c_t_at c_t_start c_t_isWord c_t_isFigures out.2.1 c_t_known c_t_truth c_t_x c_t_h c_t_w out.2.2.1 out.2.2.2) (some (.int out.1)) A) (wwX8_dig cyB cyI cyJ cyZ cyS a_t a_t_w a_t_isKept a_t_text a_t_refused a_t_numbers a_t_weights c_t_texted c_t_above c_t_below c_t_at c_t_start c_t_isWord c_t_isFigures r14.2.1 c_t_known c_t_truth c_t_x c_t_h c_t_w c_t_refused r14.2.2) [(2, .int e29_2)] [] 63 := by
        intro e29_2 e29_3 hf
        unfold fX8_dig_E29 at hf
        refine pb_iload_n (pc := 63) C dX8_dig_63 rfl 0 rfl ?_
        obtain rfl := Option.some.inj hf
        exact pb_iret (pc := 64) C hr hlk hA dX8_dig_64
      have L29 : ∀ (n : Nat) (l29_2 : Int32) (l29_3 : Int32), pb_lp (fun y => fX8_dig_L29 c_t_w p1 r14 y.1 y.2) n (l29_2, l29_3) = some z29 → pb_V p l e rmX8_dig s m (([.ref a_t, .int p1] : List Value).toArray) below meth c 4 (dC, dI) vwCl A 0 0 (pb_MQ below (([.ref a_t, .int p1] : List Value).toArray) s (dC, dI) vwCl (wwX8_dig cyB cyI cyJ cyZ cyS a_t a_t_w a_t_isKept a_t_text a_t_refused a_t_numbers a_t_weights c_t_texted c_t_above c_t_below c_t_at c_t_start c_t_isWord c_t_isFigures c_t_all c_t_known c_t_truth c_t_x c_t_h c_t_w c_t_refused c_t_weights) (wwX8_dig cyB cyI cyJ cyZ cyS a_t a_t_w a_t_isKept a_t_text a_t_refused a_t_numbers a_t_weights c_t_texted c_t_above c_t_below c_t_at c_t_start c_t_isWord c_t_isFigures out.2.1 c_t_known c_t_truth c_t_x c_t_h c_t_w out.2.2.1 out.2.2.2) (some (.int out.1)) A) (wwX8_dig cyB cyI cyJ cyZ cyS a_t a_t_w a_t_isKept a_t_text a_t_refused a_t_numbers a_t_weights c_t_texted c_t_above c_t_below c_t_at c_t_start c_t_isWord c_t_isFigures r14.2.1 c_t_known c_t_truth c_t_x c_t_h c_t_w c_t_refused r14.2.2) [(0, .ref a_t), (1, .int p1), (2, .int l29_2), (3, .int l29_3)] [] 29 := by
        intro n
        induction n with
        | zero => intro l29_2 l29_3 hf; exact (pb_lp_zero hf).elim
        | succ n ih29 =>
          intro l29_2 l29_3 hf
          obtain ⟨y29, hf, hl29⟩ := pb_lp_succ hf
          have hf : fX8_dig_L29 c_t_w p1 r14 l29_2 l29_3 = some y29 := hf
          unfold fX8_dig_L29 at hf
          refine pb_iload_n (pc := 29) C dX8_dig_29 rfl 3 rfl ?_
          refine pb_bipush (v := 7) (pc := 30) C dX8_dig_30 pb_kB_7 ?_
          refine pb_icmp_ge (pc := 32) (tgt := 63) C dX8_dig_32 (by decide) (fun hc32 => ?_) (fun hc32 => ?_)
          · have hf := pb_pos hf hc32
            obtain rfl := Option.some.inj hf
            obtain rfl := pb_esc hl29
            refine pb_sub [2] rfl ?_
            exact E29 l29_2 l29_3 hk29
          · have hf := pb_neg hf hc32
            refine pb_aload_n (pc := 35) C dX8_dig_35 rfl 0 rfl ?_
            refine pb_iload_n (pc := 36) C dX8_dig_36 rfl 1 rfl ?_
            refine pb_iload_n (pc := 37) C dX8_dig_37 rfl 3 rfl ?_
            obtain ⟨r38, hr38, hf⟩ := pb_bind hf
            refine pb_callV (pc := 38) (n0 := 4) (ws' := (wwX8_dig cyB cyI cyJ cyZ cyS a_t a_t_w a_t_isKept a_t_text a_t_refused a_t_numbers a_t_weights c_t_texted c_t_above c_t_below c_t_at c_t_start c_t_isWord c_t_isFigures r14.2.1 c_t_known c_t_truth c_t_x c_t_h c_t_w c_t_refused r14.2.2)) (rest := []) (st2 := [.long r38]) C (kcX8_worthOf l dC dI cyB cyI cyJ cyZ cyS a_t a_t_w a_t_isKept a_t_text a_t_refused a_t_numbers a_t_weights c_t_texted c_t_above c_t_below c_t_at c_t_start c_t_isWord c_t_isFigures r14.2.1 c_t_known c_t_truth c_t_x c_t_h c_t_w r14.2.2 p1 l29_3 r38 hr38) pb_NW_b (pb_NW_x hX) (cwV 2 C.1.2.2.2.2 gX8_dig_X8_worthOf rfl rfl rfl kdV_X8_worthOf ⟨Nat.le_of_ble_eq_true rfl, Nat.le_of_ble_eq_true rfl⟩) 0 rfl rfl [0, 1, 3] [2] rfl rfl ⟨⟨_, rfl, rfl⟩, trivial⟩ rfl (by decide +kernel) (adl := [a_t, a_t_w, a_t_weights]) rfl rfl rfl rfl rfl (Nat.le_of_ble_eq_true rfl) ⟨Nat.le_refl _, Nat.le_refl _⟩ dX8_dig_38 rfl ?_
            refine pb_aload_n (pc := 41) C dX8_dig_41 rfl 0 rfl ?_
            refine pb_iload_n (pc := 42) C dX8_dig_42 rfl 1 rfl ?_
            refine pb_iload_n (pc := 43) C dX8_dig_43 rfl 2 rfl ?_
            obtain ⟨r44, hr44, hf⟩ := pb_bind hf
            refine pb_callV (pc := 44) (n0 := 4) (ws' := (wwX8_dig cyB cyI cyJ cyZ cyS a_t a_t_w a_t_isKept a_t_text a_t_refused a_t_numbers a_t_weights c_t_texted c_t_above c_t_below c_t_at c_t_start c_t_isWord c_t_isFigures r14.2.1 c_t_known c_t_truth c_t_x c_t_h c_t_w c_t_refused r14.2.2)) (rest := [.long r38]) (st2 := [.long r44, .long r38]) C (kcX8_worthOf l dC dI cyB cyI cyJ cyZ cyS a_t a_t_w a_t_isKept a_t_text a_t_refused a_t_numbers a_t_weights c_t_texted c_t_above c_t_below c_t_at c_t_start c_t_isWord c_t_isFigures r14.2.1 c_t_known c_t_truth c_t_x c_t_h c_t_w r14.2.2 p1 l29_2 r44 hr44) pb_NW_b (pb_NW_x hX) (cwV 2 C.1.2.2.2.2 gX8_dig_X8_worthOf rfl rfl rfl kdV_X8_worthOf ⟨Nat.le_of_ble_eq_true rfl, Nat.le_of_ble_eq_true rfl⟩) 0 rfl rfl [0, 1, 3] [2] rfl rfl ⟨⟨_, rfl, rfl⟩, trivial⟩ rfl (by decide +kernel) (adl := [a_t, a_t_w, a_t_weights]) rfl rfl rfl rfl rfl (Nat.le_of_ble_eq_true rfl) ⟨Nat.le_refl _, Nat.le_refl _⟩ dX8_dig_44 rfl ?_
            refine pb_lif_le (pc := 47) (tgt := 55) C dX8_dig_47 dX8_dig_48 (by decide) (fun hc47 => ?_) (fun hc47 => ?_)
            · have hf := pb_pos hf hc47
              refine pb_iload_n (pc := 55) C dX8_dig_55 rfl 2 rfl ?_
              refine pb_istore_n (lv' := [(2, .int l29_2), (0, .ref a_t), (1, .int p1), (3, .int l29_3)]) (pc := 56) C dX8_dig_56 rfl (by decide) rfl ?_
              refine pb_iinc (v := l29_3 + 1) (lv' := [(3, .int (l29_3 + 1)), (2, .int l29_2), (0, .ref a_t), (1, .int p1)]) (pc := 57) C dX8_dig_57 3 rfl (pb_inc pb_kI_1 rfl) (by decide) rfl ?_
              refine pb_goto (pc := 60) (tgt := 29) C dX8_dig_60 (by decide) ?_
              obtain rfl := Option.some.inj hf
              refine pb_sub [2, 3, 1, 0] rfl ?_
              have hl29 := pb_inl hl29
              exact ih29 l29_2 (l29_3 + 1) hl29
            · have hf := pb_neg hf hc47
              refine pb_iload_n (pc := 51) C dX8_dig_51 rfl 3 rfl ?_
              refine pb_goto (pc := 52) (tgt := 56) C dX8_dig_52 (by decide) ?_
              refine pb_istore_n (lv' := [(2, .int l29_3), (0, .ref a_t), (1, .int p1), (3, .int l29_3)]) (pc := 56) C dX8_dig_56 rfl (by decide) rfl ?_
              refine pb_iinc (v := l29_3 + 1) (lv' := [(3, .int (l29_3 + 1)), (2, .int l29_3), (0, .ref a_t), (1, .int p1)]) (pc := 57) C dX8_dig_57 3 rfl (pb_inc pb_kI_1 rfl) (by decide) rfl ?_
              refine pb_goto (pc := 60) (tgt := 29) C dX8_dig_60 (by decide) ?_
              obtain rfl := Option.some.inj hf
              refine pb_sub [2, 3, 1, 0] rfl ?_
              have hl29 := pb_inl hl29
              exact ih29 l29_3 (l29_3 + 1) hl29
      refine pb_sub [2, 3, 1, 0] rfl ?_
      exact L29 pb_FU 0 1 hz29
    · have hf := pb_pos hf hc17
      refine pb_aload_n (pc := 20) C dX8_dig_20 rfl 0 rfl ?_
      obtain ⟨r21, hr21, hf⟩ := pb_bind hf
      refine pb_callV (pc := 21) (n0 := 4) (ws' := (wwX8_dig cyB cyI cyJ cyZ cyS a_t a_t_w a_t_isKept a_t_text a_t_refused a_t_numbers a_t_weights c_t_texted c_t_above c_t_below c_t_at c_t_start c_t_isWord c_t_isFigures r14.2.1 c_t_known c_t_truth c_t_x c_t_h c_t_w r21.2 r14.2.2)) (rest := []) (st2 := [.int r21.1]) C (kcX8_no l dC dI cyB cyI cyJ cyZ cyS a_t a_t_w a_t_isKept a_t_text a_t_refused a_t_numbers a_t_weights c_t_texted c_t_above c_t_below c_t_at c_t_start c_t_isWord c_t_isFigures r14.2.1 c_t_known c_t_truth c_t_x c_t_h c_t_refused r21 hr21) pb_NW_b (pb_NW_x hX) (cwV 0 C.1.2.2.2.2 gX8_dig_X8_no rfl rfl rfl kdV_X8_no ⟨Nat.le_of_ble_eq_true rfl, Nat.le_of_ble_eq_true rfl⟩) 0 rfl rfl [0, 2] [1, 3] rfl rfl ⟨⟨_, rfl, rfl⟩, ⟨⟨_, rfl, rfl⟩, trivial⟩⟩ rfl (by decide +kernel) (adl := [a_t, a_t_refused]) rfl rfl rfl rfl rfl (Nat.le_of_ble_eq_true rfl) ⟨Nat.le_refl _, Nat.le_refl _⟩ dX8_dig_21 rfl ?_
      obtain rfl := Option.some.inj hf
      exact pb_iret (pc := 24) C hr hlk hA dX8_dig_24
  · have hf := pb_pos hf hc5
    refine pb_aload_n (pc := 8) C dX8_dig_8 rfl 0 rfl ?_
    obtain ⟨r9, hr9, hf⟩ := pb_bind hf
    refine pb_callV (pc := 9) (n0 := 4) (ws' := (wwX8_dig cyB cyI cyJ cyZ cyS a_t a_t_w a_t_isKept a_t_text a_t_refused a_t_numbers a_t_weights c_t_texted c_t_above c_t_below c_t_at c_t_start c_t_isWord c_t_isFigures c_t_all c_t_known c_t_truth c_t_x c_t_h c_t_w r9.2 c_t_weights)) (rest := []) (st2 := [.int r9.1]) C (kcX8_bad l dC dI cyB cyI cyJ cyZ cyS a_t a_t_w a_t_isKept a_t_text a_t_refused a_t_numbers a_t_weights c_t_texted c_t_above c_t_below c_t_at c_t_start c_t_isWord c_t_isFigures c_t_all c_t_known c_t_truth c_t_x c_t_h c_t_refused r9 hr9) pb_NW_b (pb_NW_x hX) (cwV 0 C.1.2.2.2.2 gX8_dig_X8_bad rfl rfl rfl kdV_X8_bad ⟨Nat.le_of_ble_eq_true rfl, Nat.le_of_ble_eq_true rfl⟩) 0 rfl rfl [0, 2] [1, 3] rfl rfl ⟨⟨_, rfl, rfl⟩, ⟨⟨_, rfl, rfl⟩, trivial⟩⟩ rfl (by decide +kernel) (adl := [a_t, a_t_refused]) rfl rfl rfl rfl rfl (Nat.le_of_ble_eq_true rfl) ⟨Nat.le_refl _, Nat.le_refl _⟩ dX8_dig_9 rfl ?_
    obtain rfl := Option.some.inj hf
    exact pb_iret (pc := 12) C hr hlk hA dX8_dig_12
def rmX8_doped : Room := { frames := 4, cells := 0, slots := 0, locals := 96 }
def wwX8_doped (cyB cyI cyJ cyZ cyS : ClassId) (a_t a_t_w a_t_isKept a_t_text a_t_refused a_t_numbers a_t_weights : Nat) (c_t_texted : Int32) (c_t_above : Int64) (c_t_below : Int64) (c_t_at : Int32) (c_t_start : Int32) (c_t_isWord : Int32) (c_t_isFigures : Int32) (c_t_all : Int64) (c_t_known : Int32) (c_t_truth : Int32) (c_t_x : Int64) (c_t_h : Int64) (c_t_w : (Nat → Int32)) (c_t_weights : (Nat → Int64)) : va_W := [(a_t, .inr (8, [.ref a_t_w, .ref a_t_isKept, .ref a_t_text, .int c_t_texted, .ref a_t_refused, .long c_t_above, .long c_t_below, .int c_t_at, .int c_t_start, .int c_t_isWord, .int c_t_isFigures, .ref a_t_numbers, .ref a_t_weights, .long c_t_all, .int c_t_known, .int c_t_truth, .long c_t_x, .long c_t_h])), (a_t_w, .inl (cyI, 1508, .inl c_t_w)), (a_t_weights, .inl (cyJ, 128, .inr (.inl c_t_weights)))]
theorem hnX8_doped_X8 : ∀ w ∈ wsX80, w ∈ wsX8_doped := fun _ h => List.mem_cons_of_mem _ (List.mem_append_right _ h)
set_option maxHeartbeats 4000000 in
set_option maxRecDepth 100000 in
theorem kcX8_doped (l : Launch) (dC : Nat → ClassId) (dI : Nat → Nat → Nat) (cyB cyI cyJ cyZ cyS : ClassId) (a_t a_t_w a_t_isKept a_t_text a_t_refused a_t_numbers a_t_weights : Nat) (c_t_texted : Int32) (c_t_above : Int64) (c_t_below : Int64) (c_t_at : Int32) (c_t_start : Int32) (c_t_isWord : Int32) (c_t_isFigures : Int32) (c_t_all : Int64) (c_t_known : Int32) (c_t_truth : Int32) (c_t_x : Int64) (c_t_h : Int64) (c_t_w : (Nat → Int32)) (c_t_weights : (Nat → Int64)) (out : (Int32 × Int64 × (Nat → Int64))) (hf : fX8_doped c_t_all c_t_w c_t_weights = some out) : pb_K l yX8_doped wsX8_doped rmX8_doped (dC, dI) vwCl (pb_tys cyB cyI cyJ cyZ cyS) pb_NW [.ref a_t] (wwX8_doped cyB cyI cyJ cyZ cyS a_t a_t_w a_t_isKept a_t_text a_t_refused a_t_numbers a_t_weights c_t_texted c_t_above c_t_below c_t_at c_t_start c_t_isWord c_t_isFigures c_t_all c_t_known c_t_truth c_t_x c_t_h c_t_w c_t_weights) (wwX8_doped cyB cyI cyJ cyZ cyS a_t a_t_w a_t_isKept a_t_text a_t_refused a_t_numbers a_t_weights c_t_texted c_t_above c_t_below c_t_at c_t_start c_t_isWord c_t_isFigures out.2.1 c_t_known c_t_truth c_t_x c_t_h c_t_w out.2.2) (some (.int out.1)) := by
  unfold fX8_doped at hf
  refine pb_K.ofV (cc := cX8_doped) (maxL := 4) (ret := (some .int)) (lv0 := [(0, .ref a_t)]) (by decide) rfl (Nat.le_of_ble_eq_true rfl) rfl ?_
  intro p e s m below meth c A C hX hr hlk hA
  refine pb_iconst (v := (-1)) (pc := 0) C dX8_doped_0 pb_kI_m1 ?_
  refine pb_istore_n (lv' := [(1, .int (-1)), (0, .ref a_t)]) (pc := 1) C dX8_doped_1 rfl (by decide) rfl ?_
  refine pb_iconst (v := 0) (pc := 2) C dX8_doped_2 pb_kI_0 ?_
  refine pb_istore_n (lv' := [(2, .int 0), (1, .int (-1)), (0, .ref a_t)]) (pc := 3) C dX8_doped_3 rfl (by decide) rfl ?_
  obtain ⟨z4, hz4, hk4⟩ := pb_bind hf
  have E4 : ∀ (e4_1 : Int32) (e4_2 : Int32) (e4_c_t_all : Int64) (e4_c_t_weights : (Nat → Int64)), fX8_doped_E4 e4_1 e4_2 e4_c_t_all e4_c_t_weights = some out → pb_V p l e rmX8_doped s m (([.ref a_t] : List Value).toArray) below meth c 4 (dC, dI) vwCl A 0 0 (pb_MQ below (([.ref a_t] : List Value).toArray) s (dC, dI) vwCl (wwX8_doped cyB cyI cyJ cyZ cyS a_t a_t_w a_t_isKept a_t_text a_t_refused a_t_numbers a_t_weights c_t_texted c_t_above c_t_below c_t_at c_t_start c_t_isWord c_t_isFigures c_t_all c_t_known c_t_truth c_t_x c_t_h c_t_w c_t_weights) (wwX8_doped cyB cyI cyJ cyZ cyS a_t a_t_w a_t_isKept a_t_text a_t_refused a_t_numbers a_t_weights c_t_texted c_t_above c_t_below c_t_at c_t_start c_t_isWord c_t_isFigures out.2.1 c_t_known c_t_truth c_t_x c_t_h c_t_w out.2.2) (some (.int out.1)) A) (wwX8_doped cyB cyI cyJ cyZ cyS a_t a_t_w a_t_isKept a_t_text a_t_refused a_t_numbers a_t_weights c_t_texted c_t_above c_t_below c_t_at c_t_start c_t_isWord c_t_isFigures e4_c_t_all c_t_known c_t_truth c_t_x c_t_h c_t_w e4_c_t_weights) [(1, .int e4_1)] [] 68 := by
    intro e4_1 e4_2 e4_c_t_all e4_c_t_weights hf
    unfold fX8_doped_E4 at hf
    refine pb_iload_n (pc := 68) C dX8_doped_68 rfl 0 rfl ?_
    obtain rfl := Option.some.inj hf
    exact pb_iret (pc := 69) C hr hlk hA dX8_doped_69
  have L4 : ∀ (n : Nat) (l4_1 : Int32) (l4_2 : Int32) (l4_c_t_all : Int64) (l4_c_t_weights : (Nat → Int64)), pb_lp (fun y => fX8_doped_L4 c_t_w y.1 y.2.1 y.2.2.1 y.2.2.2) n (l4_1, l4_2, l4_c_t_all, l4_c_t_weights) = some z4 → pb_V p l e rmX8_doped s m (([.ref a_t] : List Value).toArray) below meth c 4 (dC, dI) vwCl A 0 0 (pb_MQ below (([.ref a_t] : List Value).toArray) s (dC, dI) vwCl (wwX8_doped cyB cyI cyJ cyZ cyS a_t a_t_w a_t_isKept a_t_text a_t_refused a_t_numbers a_t_weights c_t_texted c_t_above c_t_below c_t_at c_t_start c_t_isWord c_t_isFigures c_t_all c_t_known c_t_truth c_t_x c_t_h c_t_w c_t_weights) (wwX8_doped cyB cyI cyJ cyZ cyS a_t a_t_w a_t_isKept a_t_text a_t_refused a_t_numbers a_t_weights c_t_texted c_t_above c_t_below c_t_at c_t_start c_t_isWord c_t_isFigures out.2.1 c_t_known c_t_truth c_t_x c_t_h c_t_w out.2.2) (some (.int out.1)) A) (wwX8_doped cyB cyI cyJ cyZ cyS a_t a_t_w a_t_isKept a_t_text a_t_refused a_t_numbers a_t_weights c_t_texted c_t_above c_t_below c_t_at c_t_start c_t_isWord c_t_isFigures l4_c_t_all c_t_known c_t_truth c_t_x c_t_h c_t_w l4_c_t_weights) [(0, .ref a_t), (1, .int l4_1), (2, .int l4_2)] [] 4 := by
    intro n
    induction n with
    | zero => intro l4_1 l4_2 l4_c_t_all l4_c_t_weights hf; exact (pb_lp_zero hf).elim
    | succ n ih4 =>
      intro l4_1 l4_2 l4_c_t_all l4_c_t_weights hf
      obtain ⟨y4, hf, hl4⟩ := pb_lp_succ hf
      have hf : fX8_doped_L4 c_t_w l4_1 l4_2 l4_c_t_all l4_c_t_weights = some y4 := hf
      unfold fX8_doped_L4 at hf
      refine pb_iload_n (pc := 4) C dX8_doped_4 rfl 2 rfl ?_
      refine pb_iconst (v := 1) (pc := 5) C dX8_doped_5 pb_kI_1 ?_
      refine pb_aload_n (pc := 6) C dX8_doped_6 rfl 0 rfl ?_
      refine pb_get (pc := 7) C hnX8_doped_X8 0 rfl rfl 0 (by decide) (List.mem_of_getElem? (i := 1) rfl) rfl rfl dX8_doped_7 ?_
      refine pb_iconst (v := 1) (pc := 10) C dX8_doped_10 pb_kI_1 ?_
      refine pb_iald (pc := 11) C 1 1 rfl rfl pb_ok_1_1508 dX8_doped_11 ?_
      refine pb_topi (congrArg c_t_w pb_kN_1) ?_
      refine pb_ishl (pc := 12) C dX8_doped_12 ?_
      refine pb_icmp_ge (pc := 13) (tgt := 68) C dX8_doped_13 (by decide) (fun hc13 => ?_) (fun hc13 => ?_)
      · have hf := pb_pos hf hc13
        obtain rfl := Option.some.inj hf
        obtain rfl := pb_esc hl4
        refine pb_sub [1] rfl ?_
        exact E4 l4_1 l4_2 l4_c_t_all l4_c_t_weights hk4
      · have hf := pb_neg hf hc13
        refine pb_iload_n (pc := 16) C dX8_doped_16 rfl 1 rfl ?_
        refine pb_iconst (v := (-1)) (pc := 17) C dX8_doped_17 pb_kI_m1 ?_
        obtain ⟨y37, hf, hk37⟩ := pb_bind hf
        have J37 : ∀ (j37_s0 : Int32), fX8_doped_J37 c_t_w l4_1 l4_2 l4_c_t_all l4_c_t_weights j37_s0 = some y4 → pb_V p l e rmX8_doped s m (([.ref a_t] : List Value).toArray) below meth c 4 (dC, dI) vwCl A 0 0 (pb_MQ below (([.ref a_t] : List Value).toArray) s (dC, dI) vwCl (wwX8_doped cyB cyI cyJ cyZ cyS a_t a_t_w a_t_isKept a_t_text a_t_refused a_t_numbers a_t_weights c_t_texted c_t_above c_t_below c_t_at c_t_start c_t_isWord c_t_isFigures c_t_all c_t_known c_t_truth c_t_x c_t_h c_t_w c_t_weights) (wwX8_doped cyB cyI cyJ cyZ cyS a_t a_t_w a_t_isKept a_t_text a_t_refused a_t_numbers a_t_weights c_t_texted c_t_above c_t_below c_t_at c_t_start c_t_isWord c_t_isFigures out.2.1 c_t_known c_t_truth c_t_x c_t_h c_t_w out.2.2) (some (.int out.1)) A) (wwX8_doped cyB cyI cyJ cyZ cyS a_t a_t_w a_t_isKept a_t_text a_t_refused a_t_numbers a_t_weights c_t_texted c_t_above c_t_below c_t_at c_t_start c_t_isWord c_t_isFigures l4_c_t_all c_t_known c_t_truth c_t_x c_t_h c_t_w l4_c_t_weights) [(0, .ref a_t), (1, .int l4_1), (2, .int l4_2)] [.int j37_s0] 37 := by
          intro j37_s0 hf
          unfold fX8_doped_J37 at hf
          refine pb_istore_n (lv' := [(3, .int j37_s0), (0, .ref a_t), (1, .int l4_1), (2, .int l4_2)]) (pc := 37) C dX8_doped_37 rfl (by decide) rfl ?_
          refine pb_iload_n (pc := 38) C dX8_doped_38 rfl 0 rfl ?_
          refine pb_if_eq (pc := 39) (tgt := 62) C dX8_doped_39 (by decide) (fun hc39 => ?_) (fun hc39 => ?_)
          · have hf := pb_pos hf hc39
            refine pb_iinc (v := l4_2 + 1) (lv' := [(2, .int (l4_2 + 1)), (3, .int j37_s0), (0, .ref a_t), (1, .int l4_1)]) (pc := 62) C dX8_doped_62 3 rfl (pb_inc pb_kI_1 rfl) (by decide) rfl ?_
            refine pb_goto (pc := 65) (tgt := 4) C dX8_doped_65 (by decide) ?_
            obtain rfl := Option.some.inj hf
            refine pb_sub [2, 3, 0] rfl ?_
            have hl4 := pb_inl hl4
            exact ih4 l4_1 (l4_2 + 1) l4_c_t_all l4_c_t_weights hl4
          · have hf := pb_neg hf hc39
            refine pb_aload_n (pc := 42) C dX8_doped_42 rfl 1 rfl ?_
            refine pb_iload_n (pc := 43) C dX8_doped_43 rfl 3 rfl ?_
            obtain ⟨r44, hr44, hf⟩ := pb_bind hf
            refine pb_callV (pc := 44) (n0 := 3) (ws' := (wwX8_doped cyB cyI cyJ cyZ cyS a_t a_t_w a_t_isKept a_t_text a_t_refused a_t_numbers a_t_weights c_t_texted c_t_above c_t_below c_t_at c_t_start c_t_isWord c_t_isFigures r44.1 c_t_known c_t_truth c_t_x c_t_h c_t_w r44.2)) (rest := []) (st2 := []) C (kcX8_weighAll l dC dI cyB cyI cyJ cyZ cyS a_t a_t_w a_t_isKept a_t_text a_t_refused a_t_numbers a_t_weights c_t_texted c_t_above c_t_below c_t_at c_t_start c_t_isWord c_t_isFigures l4_c_t_all c_t_known c_t_truth c_t_x c_t_h c_t_w l4_c_t_weights l4_2 r44 hr44) pb_NW_b (pb_NW_x hX) (cwV 1 C.1.2.2.2.2 gX8_doped_X8_weighAll rfl rfl rfl kdV_X8_weighAll ⟨Nat.le_of_ble_eq_true rfl, Nat.le_of_ble_eq_true rfl⟩) 0 rfl rfl [0, 1, 2] [] rfl rfl trivial rfl (by decide +kernel) (adl := [a_t, a_t_w, a_t_weights]) rfl rfl rfl rfl rfl (Nat.le_of_ble_eq_true rfl) ⟨Nat.le_refl _, Nat.le_refl _⟩ dX8_doped_44 rfl ?_
            refine pb_aload_n (pc := 47) C dX8_doped_47 rfl 1 rfl ?_
            refine pb_get (pc := 48) C hnX8_doped_X8 0 rfl rfl 13 (by decide) (List.mem_of_getElem? (i := 2) rfl) rfl rfl dX8_doped_48 ?_
            refine pb_lconst (v := 0) (pc := 51) C dX8_doped_51 pb_kL_0 ?_
            refine pb_lif_le (pc := 52) (tgt := 60) C dX8_doped_52 dX8_doped_53 (by decide) (fun hc52 => ?_) (fun hc52 => ?_)
            · have hf := pb_pos hf hc52
              refine pb_iload_n (pc := 60) C dX8_doped_60 rfl 2 rfl ?_
              refine pb_istore_n (lv' := [(1, .int l4_1), (3, .int j37_s0), (0, .ref a_t), (2, .int l4_2)]) (pc := 61) C dX8_doped_61 rfl (by decide) rfl ?_
              refine pb_iinc (v := l4_2 + 1) (lv' := [(2, .int (l4_2 + 1)), (1, .int l4_1), (3, .int j37_s0), (0, .ref a_t)]) (pc := 62) C dX8_doped_62 3 rfl (pb_inc pb_kI_1 rfl) (by decide) rfl ?_
              refine pb_goto (pc := 65) (tgt := 4) C dX8_doped_65 (by decide) ?_
              obtain rfl := Option.some.inj hf
              refine pb_sub [3, 1, 0] rfl ?_
              have hl4 := pb_inl hl4
              exact ih4 l4_1 (l4_2 + 1) r44.1 r44.2 hl4
            · have hf := pb_neg hf hc52
              refine pb_iload_n (pc := 56) C dX8_doped_56 rfl 3 rfl ?_
              refine pb_goto (pc := 57) (tgt := 61) C dX8_doped_57 (by decide) ?_
              refine pb_istore_n (lv' := [(1, .int l4_2), (3, .int j37_s0), (0, .ref a_t), (2, .int l4_2)]) (pc := 61) C dX8_doped_61 rfl (by decide) rfl ?_
              refine pb_iinc (v := l4_2 + 1) (lv' := [(2, .int (l4_2 + 1)), (1, .int l4_2), (3, .int j37_s0), (0, .ref a_t)]) (pc := 62) C dX8_doped_62 3 rfl (pb_inc pb_kI_1 rfl) (by decide) rfl ?_
              refine pb_goto (pc := 65) (tgt := 4) C dX8_doped_65 (by decide) ?_
              obtain rfl := Option.some.inj hf
              refine pb_sub [3, 1, 0] rfl ?_
              have hl4 := pb_inl hl4
              exact ih4 l4_2 (l4_2 + 1) r44.1 r44.2 hl4
        refine pb_icmp_eq (pc := 18) (tgt := 32) C dX8_doped_18 (by decide) (fun hc18 => ?_) (fun hc18 => ?_)
        · have hf := pb_pos hf hc18
          refine pb_iconst (v := 1) (pc := 32) C dX8_doped_32 pb_kI_1 ?_
          refine pb_goto (pc := 33) (tgt := 37) C dX8_doped_33 (by decide) ?_
          obtain rfl := Option.some.inj hf
          exact J37 1 hk37
        · have hf := pb_neg hf hc18
          refine pb_iload_n (pc := 21) C dX8_doped_21 rfl 2 rfl ?_
          obtain ⟨r22, hr22, hf⟩ := pb_bind hf
          refine pb_callS (pc := 22) (n0 := 3) (ws' := (wwX8_doped cyB cyI cyJ cyZ cyS a_t a_t_w a_t_isKept a_t_text a_t_refused a_t_numbers a_t_weights c_t_texted c_t_above c_t_below c_t_at c_t_start c_t_isWord c_t_isFigures l4_c_t_all c_t_known c_t_truth c_t_x c_t_h c_t_w l4_c_t_weights)) (rest := []) (st2 := [.int r22]) C (kcX8_ones l dC dI cyB cyI cyJ cyZ cyS l4_2 r22 hr22) pb_NW_b (pb_NW_x hX) (va_cwS 1 C.1.2.2.2.2 gX8_doped_X8_ones rfl rfl rfl kdS_X8_ones ⟨Nat.le_of_ble_eq_true rfl, Nat.le_of_ble_eq_true rfl⟩) [] [0, 1, 2] rfl rfl ⟨⟨_, rfl, rfl⟩, ⟨⟨_, rfl, rfl⟩, ⟨⟨_, rfl, rfl⟩, trivial⟩⟩⟩ rfl (by decide +kernel) (adl := []) rfl rfl rfl rfl rfl (Nat.le_of_ble_eq_true rfl) ⟨Nat.le_refl _, Nat.le_refl _⟩ dX8_doped_22 rfl ?_
          refine pb_iload_n (pc := 25) C dX8_doped_25 rfl 1 rfl ?_
          obtain ⟨r26, hr26, hf⟩ := pb_bind hf
          refine pb_callS (pc := 26) (n0 := 3) (ws' := (wwX8_doped cyB cyI cyJ cyZ cyS a_t a_t_w a_t_isKept a_t_text a_t_refused a_t_numbers a_t_weights c_t_texted c_t_above c_t_below c_t_at c_t_start c_t_isWord c_t_isFigures l4_c_t_all c_t_known c_t_truth c_t_x c_t_h c_t_w l4_c_t_weights)) (rest := [.int r22]) (st2 := [.int r26, .int r22]) C (kcX8_ones l dC dI cyB cyI cyJ cyZ cyS l4_1 r26 hr26) pb_NW_b (pb_NW_x hX) (va_cwS 1 C.1.2.2.2.2 gX8_doped_X8_ones rfl rfl rfl kdS_X8_ones ⟨Nat.le_of_ble_eq_true rfl, Nat.le_of_ble_eq_true rfl⟩) [] [0, 1, 2] rfl rfl ⟨⟨_, rfl, rfl⟩, ⟨⟨_, rfl, rfl⟩, ⟨⟨_, rfl, rfl⟩, trivial⟩⟩⟩ rfl (by decide +kernel) (adl := []) rfl rfl rfl rfl rfl (Nat.le_of_ble_eq_true rfl) ⟨Nat.le_refl _, Nat.le_refl _⟩ dX8_doped_26 rfl ?_
          refine pb_icmp_ge (pc := 29) (tgt := 36) C dX8_doped_29 (by decide) (fun hc29 => ?_) (fun hc29 => ?_)
          · have hf := pb_pos hf hc29
            refine pb_iconst (v := 0) (pc := 36) C dX8_doped_36 pb_kI_0 ?_
            obtain rfl := Option.some.inj hf
            exact J37 0 hk37
          · have hf := pb_neg hf hc29
            refine pb_iconst (v := 1) (pc := 32) C dX8_doped_32 pb_kI_1 ?_
            refine pb_goto (pc := 33) (tgt := 37) C dX8_doped_33 (by decide) ?_
            obtain rfl := Option.some.inj hf
            exact J37 1 hk37
  refine pb_sub [2, 1, 0] rfl ?_
  exact L4 pb_FU (-1) 0 c_t_all c_t_weights hz4
def rmX8_price : Room := { frames := 3, cells := 0, slots := 0, locals := 67 }
def wwX8_price (cyB cyI cyJ cyZ cyS : ClassId) (a_t a_t_w a_t_isKept a_t_text a_t_refused a_t_numbers a_t_weights : Nat) (c_t_texted : Int32) (c_t_above : Int64) (c_t_below : Int64) (c_t_at : Int32) (c_t_start : Int32) (c_t_isWord : Int32) (c_t_isFigures : Int32) (c_t_all : Int64) (c_t_known : Int32) (c_t_truth : Int32) (c_t_x : Int64) (c_t_h : Int64) (c_t_w : (Nat → Int32)) (c_t_refused : (Nat → Int32)) : va_W := [(a_t, .inr (8, [.ref a_t_w, .ref a_t_isKept, .ref a_t_text, .int c_t_texted, .ref a_t_refused, .long c_t_above, .long c_t_below, .int c_t_at, .int c_t_start, .int c_t_isWord, .int c_t_isFigures, .ref a_t_numbers, .ref a_t_weights, .long c_t_all, .int c_t_known, .int c_t_truth, .long c_t_x, .long c_t_h])), (a_t_w, .inl (cyI, 1508, .inl c_t_w)), (a_t_refused, .inl (cyI, 3, .inl c_t_refused))]
theorem hnX8_price_X8 : ∀ w ∈ wsX80, w ∈ wsX8_price := fun _ h => List.mem_cons_of_mem _ (List.mem_append_right _ h)
set_option maxHeartbeats 4000000 in
set_option maxRecDepth 100000 in
theorem kcX8_price (l : Launch) (dC : Nat → ClassId) (dI : Nat → Nat → Nat) (cyB cyI cyJ cyZ cyS : ClassId) (a_t a_t_w a_t_isKept a_t_text a_t_refused a_t_numbers a_t_weights : Nat) (c_t_texted : Int32) (c_t_above : Int64) (c_t_below : Int64) (c_t_at : Int32) (c_t_start : Int32) (c_t_isWord : Int32) (c_t_isFigures : Int32) (c_t_all : Int64) (c_t_known : Int32) (c_t_truth : Int32) (c_t_x : Int64) (c_t_h : Int64) (c_t_w : (Nat → Int32)) (c_t_refused : (Nat → Int32)) (p1 : Int32) (p2 : Int32) (p3 : Int32) (p4 : Int32) (p5 : Int32) (out : (Int32 × (Nat → Int32) × (Nat → Int32))) (hf : fX8_price c_t_w c_t_refused p1 p2 p3 p4 p5 = some out) : pb_K l yX8_price wsX8_price rmX8_price (dC, dI) vwCl (pb_tys cyB cyI cyJ cyZ cyS) pb_NW [.ref a_t, .int p1, .int p2, .int p3, .int p4, .int p5] (wwX8_price cyB cyI cyJ cyZ cyS a_t a_t_w a_t_isKept a_t_text a_t_refused a_t_numbers a_t_weights c_t_texted c_t_above c_t_below c_t_at c_t_start c_t_isWord c_t_isFigures c_t_all c_t_known c_t_truth c_t_x c_t_h c_t_w c_t_refused) (wwX8_price cyB cyI cyJ cyZ cyS a_t a_t_w a_t_isKept a_t_text a_t_refused a_t_numbers a_t_weights c_t_texted c_t_above c_t_below c_t_at c_t_start c_t_isWord c_t_isFigures c_t_all c_t_known c_t_truth c_t_x c_t_h out.2.1 out.2.2) (some (.int out.1)) := by
  unfold fX8_price at hf
  refine pb_K.ofV (cc := cX8_price) (maxL := 6) (ret := (some .int)) (lv0 := [(0, .ref a_t), (1, .int p1), (2, .int p2), (3, .int p3), (4, .int p4), (5, .int p5)]) (by decide) rfl (Nat.le_of_ble_eq_true rfl) rfl ?_
  intro p e s m below meth c A C hX hr hlk hA
  refine pb_iload_n (pc := 0) C dX8_price_0 rfl 1 rfl ?_
  refine pb_iload_n (pc := 1) C dX8_price_1 rfl 2 rfl ?_
  refine pb_iload_n (pc := 2) C dX8_price_2 rfl 3 rfl ?_
  obtain ⟨r3, hr3, hf⟩ := pb_bind hf
  refine pb_callS (pc := 3) (n0 := 3) (ws' := (wwX8_price cyB cyI cyJ cyZ cyS a_t a_t_w a_t_isKept a_t_text a_t_refused a_t_numbers a_t_weights c_t_texted c_t_above c_t_below c_t_at c_t_start c_t_isWord c_t_isFigures c_t_all c_t_known c_t_truth c_t_x c_t_h c_t_w c_t_refused)) (rest := []) (st2 := [.int r3]) C (kcX8_isClaim l dC dI cyB cyI cyJ cyZ cyS p1 p2 p3 r3 hr3) pb_NW_b (pb_NW_x hX) (va_cwS 3 C.1.2.2.2.2 gX8_price_X8_isClaim rfl rfl rfl kdS_X8_isClaim ⟨Nat.le_of_ble_eq_true rfl, Nat.le_of_ble_eq_true rfl⟩) [] [0, 1, 2] rfl rfl ⟨⟨_, rfl, rfl⟩, ⟨⟨_, rfl, rfl⟩, ⟨⟨_, rfl, rfl⟩, trivial⟩⟩⟩ rfl (by decide +kernel) (adl := []) rfl rfl rfl rfl rfl (Nat.le_of_ble_eq_true rfl) ⟨Nat.le_refl _, Nat.le_refl _⟩ dX8_price_3 rfl ?_
  refine pb_if_eq (pc := 6) (tgt := 33) C dX8_price_6 (by decide) (fun hc6 => ?_) (fun hc6 => ?_)
  · have hf := pb_pos hf hc6
    refine pb_aload_n (pc := 33) C dX8_price_33 rfl 0 rfl ?_
    obtain ⟨r34, hr34, hf⟩ := pb_bind hf
    refine pb_callV (pc := 34) (n0 := 3) (ws' := (wwX8_price cyB cyI cyJ cyZ cyS a_t a_t_w a_t_isKept a_t_text a_t_refused a_t_numbers a_t_weights c_t_texted c_t_above c_t_below c_t_at c_t_start c_t_isWord c_t_isFigures c_t_all c_t_known c_t_truth c_t_x c_t_h c_t_w r34.2)) (rest := []) (st2 := [.int r34.1]) C (kcX8_bad l dC dI cyB cyI cyJ cyZ cyS a_t a_t_w a_t_isKept a_t_text a_t_refused a_t_numbers a_t_weights c_t_texted c_t_above c_t_below c_t_at c_t_start c_t_isWord c_t_isFigures c_t_all c_t_known c_t_truth c_t_x c_t_h c_t_refused r34 hr34) pb_NW_b (pb_NW_x hX) (cwV 0 C.1.2.2.2.2 gX8_price_X8_bad rfl rfl rfl kdV_X8_bad ⟨Nat.le_of_ble_eq_true rfl, Nat.le_of_ble_eq_true rfl⟩) 0 rfl rfl [0, 2] [1] rfl rfl ⟨⟨_, rfl, rfl⟩, trivial⟩ rfl (by decide +kernel) (adl := [a_t, a_t_refused]) rfl rfl rfl rfl rfl (Nat.le_of_ble_eq_true rfl) ⟨Nat.le_refl _, Nat.le_refl _⟩ dX8_price_34 rfl ?_
    obtain rfl := Option.some.inj hf
    exact pb_iret (pc := 37) C hr hlk hA dX8_price_37
  · have hf := pb_neg hf hc6
    refine pb_iload (pc := 9) C dX8_price_9 4 rfl ?_
    refine pb_i2l (pc := 11) C dX8_price_11 ?_
    refine pb_lconst (v := 0) (pc := 12) C dX8_price_12 pb_kL_0 ?_
    refine pb_ldc2 (v := 99) (pc := 13) C dX8_price_13 (List.mem_of_getElem? (i := 1) rfl) ?_
    obtain ⟨r16, hr16, hf⟩ := pb_bind hf
    refine pb_callS (pc := 16) (n0 := 3) (ws' := (wwX8_price cyB cyI cyJ cyZ cyS a_t a_t_w a_t_isKept a_t_text a_t_refused a_t_numbers a_t_weights c_t_texted c_t_above c_t_below c_t_at c_t_start c_t_isWord c_t_isFigures c_t_all c_t_known c_t_truth c_t_x c_t_h c_t_w c_t_refused)) (rest := []) (st2 := [.int r16]) C (kcX8_in l dC dI cyB cyI cyJ cyZ cyS (Int32.toInt64 p4) 0 99 r16 hr16) pb_NW_b (pb_NW_x hX) (va_cwS 3 C.1.2.2.2.2 gX8_price_X8_in rfl rfl rfl kdS_X8_in ⟨Nat.le_of_ble_eq_true rfl, Nat.le_of_ble_eq_true rfl⟩) [] [0, 1, 2] rfl rfl ⟨⟨_, rfl, rfl⟩, ⟨⟨_, rfl, rfl⟩, ⟨⟨_, rfl, rfl⟩, trivial⟩⟩⟩ rfl (by decide +kernel) (adl := []) rfl rfl rfl rfl rfl (Nat.le_of_ble_eq_true rfl) ⟨Nat.le_refl _, Nat.le_refl _⟩ dX8_price_16 rfl ?_
    refine pb_if_eq (pc := 19) (tgt := 33) C dX8_price_19 (by decide) (fun hc19 => ?_) (fun hc19 => ?_)
    · have hf := pb_pos hf hc19
      refine pb_aload_n (pc := 33) C dX8_price_33 rfl 0 rfl ?_
      obtain ⟨r34, hr34, hf⟩ := pb_bind hf
      refine pb_callV (pc := 34) (n0 := 3) (ws' := (wwX8_price cyB cyI cyJ cyZ cyS a_t a_t_w a_t_isKept a_t_text a_t_refused a_t_numbers a_t_weights c_t_texted c_t_above c_t_below c_t_at c_t_start c_t_isWord c_t_isFigures c_t_all c_t_known c_t_truth c_t_x c_t_h c_t_w r34.2)) (rest := []) (st2 := [.int r34.1]) C (kcX8_bad l dC dI cyB cyI cyJ cyZ cyS a_t a_t_w a_t_isKept a_t_text a_t_refused a_t_numbers a_t_weights c_t_texted c_t_above c_t_below c_t_at c_t_start c_t_isWord c_t_isFigures c_t_all c_t_known c_t_truth c_t_x c_t_h c_t_refused r34 hr34) pb_NW_b (pb_NW_x hX) (cwV 0 C.1.2.2.2.2 gX8_price_X8_bad rfl rfl rfl kdV_X8_bad ⟨Nat.le_of_ble_eq_true rfl, Nat.le_of_ble_eq_true rfl⟩) 0 rfl rfl [0, 2] [1] rfl rfl ⟨⟨_, rfl, rfl⟩, trivial⟩ rfl (by decide +kernel) (adl := [a_t, a_t_refused]) rfl rfl rfl rfl rfl (Nat.le_of_ble_eq_true rfl) ⟨Nat.le_refl _, Nat.le_refl _⟩ dX8_price_34 rfl ?_
      obtain rfl := Option.some.inj hf
      exact pb_iret (pc := 37) C hr hlk hA dX8_price_37
    · have hf := pb_neg hf hc19
      refine pb_iload (pc := 22) C dX8_price_22 5 rfl ?_
      refine pb_i2l (pc := 24) C dX8_price_24 ?_
      refine pb_lconst (v := 0) (pc := 25) C dX8_price_25 pb_kL_0 ?_
      refine pb_lconst (v := 1) (pc := 26) C dX8_price_26 pb_kL_1 ?_
      obtain ⟨r27, hr27, hf⟩ := pb_bind hf
      refine pb_callS (pc := 27) (n0 := 3) (ws' := (wwX8_price cyB cyI cyJ cyZ cyS a_t a_t_w a_t_isKept a_t_text a_t_refused a_t_numbers a_t_weights c_t_texted c_t_above c_t_below c_t_at c_t_start c_t_isWord c_t_isFigures c_t_all c_t_known c_t_truth c_t_x c_t_h c_t_w c_t_refused)) (rest := []) (st2 := [.int r27]) C (kcX8_in l dC dI cyB cyI cyJ cyZ cyS (Int32.toInt64 p5) 0 1 r27 hr27) pb_NW_b (pb_NW_x hX) (va_cwS 3 C.1.2.2.2.2 gX8_price_X8_in rfl rfl rfl kdS_X8_in ⟨Nat.le_of_ble_eq_true rfl, Nat.le_of_ble_eq_true rfl⟩) [] [0, 1, 2] rfl rfl ⟨⟨_, rfl, rfl⟩, ⟨⟨_, rfl, rfl⟩, ⟨⟨_, rfl, rfl⟩, trivial⟩⟩⟩ rfl (by decide +kernel) (adl := []) rfl rfl rfl rfl rfl (Nat.le_of_ble_eq_true rfl) ⟨Nat.le_refl _, Nat.le_refl _⟩ dX8_price_27 rfl ?_
      refine pb_if_ne (pc := 30) (tgt := 38) C dX8_price_30 (by decide) (fun hc30 => ?_) (fun hc30 => ?_)
      · have hf := pb_neg hf hc30
        refine pb_aload_n (pc := 38) C dX8_price_38 rfl 0 rfl ?_
        refine pb_get (pc := 39) C hnX8_price_X8 0 rfl rfl 0 (by decide) (List.mem_of_getElem? (i := 2) rfl) rfl rfl dX8_price_39 ?_
        refine pb_iconst (v := 3) (pc := 42) C dX8_price_42 pb_kI_3 ?_
        refine pb_iald (pc := 43) C 1 1 rfl rfl pb_ok_3_1508 dX8_price_43 ?_
        refine pb_topi (congrArg c_t_w pb_kN_3) ?_
        refine pb_bipush (v := 6) (pc := 44) C dX8_price_44 pb_kB_6 ?_
        refine pb_icmp_ne (pc := 46) (tgt := 54) C dX8_price_46 (by decide) (fun hc46 => ?_) (fun hc46 => ?_)
        · have hf := pb_neg hf hc46
          refine pb_aload_n (pc := 54) C dX8_price_54 rfl 0 rfl ?_
          refine pb_iconst (v := 0) (pc := 55) C dX8_price_55 pb_kI_0 ?_
          refine pb_iconst (v := 3) (pc := 56) C dX8_price_56 pb_kI_3 ?_
          refine pb_bipush (v := 99) (pc := 57) C dX8_price_57 pb_kB_99 ?_
          refine pb_iload_n (pc := 59) C dX8_price_59 rfl 1 rfl ?_
          refine pb_iload_n (pc := 60) C dX8_price_60 rfl 2 rfl ?_
          refine pb_iload_n (pc := 61) C dX8_price_61 rfl 3 rfl ?_
          refine pb_iload (pc := 62) C dX8_price_62 4 rfl ?_
          refine pb_iload (pc := 64) C dX8_price_64 5 rfl ?_
          obtain ⟨r66, hr66, hf⟩ := pb_bind hf
          refine pb_callV (pc := 66) (n0 := 3) (ws' := (wwX8_price cyB cyI cyJ cyZ cyS a_t a_t_w a_t_isKept a_t_text a_t_refused a_t_numbers a_t_weights c_t_texted c_t_above c_t_below c_t_at c_t_start c_t_isWord c_t_isFigures c_t_all c_t_known c_t_truth c_t_x c_t_h r66.2 c_t_refused)) (rest := []) (st2 := [.int r66.1]) C (kcX8_adds5 l dC dI cyB cyI cyJ cyZ cyS a_t a_t_w a_t_isKept a_t_text a_t_refused a_t_numbers a_t_weights c_t_texted c_t_above c_t_below c_t_at c_t_start c_t_isWord c_t_isFigures c_t_all c_t_known c_t_truth c_t_x c_t_h c_t_w 0 3 99 p1 p2 p3 p4 p5 r66 hr66) pb_NW_b (pb_NW_x hX) (cwV 8 C.1.2.2.2.2 gX8_price_X8_adds5 rfl rfl rfl kdV_X8_adds5 ⟨Nat.le_of_ble_eq_true rfl, Nat.le_of_ble_eq_true rfl⟩) 0 rfl rfl [0, 1] [2] rfl rfl ⟨⟨_, rfl, rfl⟩, trivial⟩ rfl (by decide +kernel) (adl := [a_t, a_t_w]) rfl rfl rfl rfl rfl (Nat.le_of_ble_eq_true rfl) ⟨Nat.le_refl _, Nat.le_refl _⟩ dX8_price_66 rfl ?_
          refine pb_iconst (v := 1) (pc := 69) C dX8_price_69 pb_kI_1 ?_
          refine pb_iadd (pc := 70) C dX8_price_70 ?_
          obtain rfl := Option.some.inj hf
          exact pb_iret (pc := 71) C hr hlk hA dX8_price_71
        · have hf := pb_pos hf hc46
          refine pb_aload_n (pc := 49) C dX8_price_49 rfl 0 rfl ?_
          obtain ⟨r50, hr50, hf⟩ := pb_bind hf
          refine pb_callV (pc := 50) (n0 := 3) (ws' := (wwX8_price cyB cyI cyJ cyZ cyS a_t a_t_w a_t_isKept a_t_text a_t_refused a_t_numbers a_t_weights c_t_texted c_t_above c_t_below c_t_at c_t_start c_t_isWord c_t_isFigures c_t_all c_t_known c_t_truth c_t_x c_t_h c_t_w r50.2)) (rest := []) (st2 := [.int r50.1]) C (kcX8_full l dC dI cyB cyI cyJ cyZ cyS a_t a_t_w a_t_isKept a_t_text a_t_refused a_t_numbers a_t_weights c_t_texted c_t_above c_t_below c_t_at c_t_start c_t_isWord c_t_isFigures c_t_all c_t_known c_t_truth c_t_x c_t_h c_t_refused r50 hr50) pb_NW_b (pb_NW_x hX) (cwV 0 C.1.2.2.2.2 gX8_price_X8_full rfl rfl rfl kdV_X8_full ⟨Nat.le_of_ble_eq_true rfl, Nat.le_of_ble_eq_true rfl⟩) 0 rfl rfl [0, 2] [1] rfl rfl ⟨⟨_, rfl, rfl⟩, trivial⟩ rfl (by decide +kernel) (adl := [a_t, a_t_refused]) rfl rfl rfl rfl rfl (Nat.le_of_ble_eq_true rfl) ⟨Nat.le_refl _, Nat.le_refl _⟩ dX8_price_50 rfl ?_
          obtain rfl := Option.some.inj hf
          exact pb_iret (pc := 53) C hr hlk hA dX8_price_53
      · have hf := pb_pos hf hc30
        refine pb_aload_n (pc := 33) C dX8_price_33 rfl 0 rfl ?_
        obtain ⟨r34, hr34, hf⟩ := pb_bind hf
        refine pb_callV (pc := 34) (n0 := 3) (ws' := (wwX8_price cyB cyI cyJ cyZ cyS a_t a_t_w a_t_isKept a_t_text a_t_refused a_t_numbers a_t_weights c_t_texted c_t_above c_t_below c_t_at c_t_start c_t_isWord c_t_isFigures c_t_all c_t_known c_t_truth c_t_x c_t_h c_t_w r34.2)) (rest := []) (st2 := [.int r34.1]) C (kcX8_bad l dC dI cyB cyI cyJ cyZ cyS a_t a_t_w a_t_isKept a_t_text a_t_refused a_t_numbers a_t_weights c_t_texted c_t_above c_t_below c_t_at c_t_start c_t_isWord c_t_isFigures c_t_all c_t_known c_t_truth c_t_x c_t_h c_t_refused r34 hr34) pb_NW_b (pb_NW_x hX) (cwV 0 C.1.2.2.2.2 gX8_price_X8_bad rfl rfl rfl kdV_X8_bad ⟨Nat.le_of_ble_eq_true rfl, Nat.le_of_ble_eq_true rfl⟩) 0 rfl rfl [0, 2] [1] rfl rfl ⟨⟨_, rfl, rfl⟩, trivial⟩ rfl (by decide +kernel) (adl := [a_t, a_t_refused]) rfl rfl rfl rfl rfl (Nat.le_of_ble_eq_true rfl) ⟨Nat.le_refl _, Nat.le_refl _⟩ dX8_price_34 rfl ?_
        obtain rfl := Option.some.inj hf
        exact pb_iret (pc := 37) C hr hlk hA dX8_price_37
def rmX8_forget : Room := { frames := 0, cells := 0, slots := 0, locals := 0 }
def wwX8_forget (cyB cyI cyJ cyZ cyS : ClassId) (a_t a_t_w a_t_isKept a_t_text a_t_refused a_t_numbers a_t_weights : Nat) (c_t_texted : Int32) (c_t_above : Int64) (c_t_below : Int64) (c_t_at : Int32) (c_t_start : Int32) (c_t_isWord : Int32) (c_t_isFigures : Int32) (c_t_all : Int64) (c_t_known : Int32) (c_t_truth : Int32) (c_t_x : Int64) (c_t_h : Int64) (c_t_w : (Nat → Int32)) : va_W := [(a_t, .inr (8, [.ref a_t_w, .ref a_t_isKept, .ref a_t_text, .int c_t_texted, .ref a_t_refused, .long c_t_above, .long c_t_below, .int c_t_at, .int c_t_start, .int c_t_isWord, .int c_t_isFigures, .ref a_t_numbers, .ref a_t_weights, .long c_t_all, .int c_t_known, .int c_t_truth, .long c_t_x, .long c_t_h])), (a_t_w, .inl (cyI, 1508, .inl c_t_w))]
theorem hnX8_forget_X8 : ∀ w ∈ wsX80, w ∈ wsX8_forget := fun _ h => List.mem_cons_of_mem _ (List.mem_append_right _ h)
set_option maxHeartbeats 4000000 in
set_option maxRecDepth 100000 in
theorem kcX8_forget (l : Launch) (dC : Nat → ClassId) (dI : Nat → Nat → Nat) (cyB cyI cyJ cyZ cyS : ClassId) (a_t a_t_w a_t_isKept a_t_text a_t_refused a_t_numbers a_t_weights : Nat) (c_t_texted : Int32) (c_t_above : Int64) (c_t_below : Int64) (c_t_at : Int32) (c_t_start : Int32) (c_t_isWord : Int32) (c_t_isFigures : Int32) (c_t_all : Int64) (c_t_known : Int32) (c_t_truth : Int32) (c_t_x : Int64) (c_t_h : Int64) (c_t_w : (Nat → Int32)) (out : (Int32 × (Nat → Int32))) (hf : fX8_forget c_t_w = some out) : pb_K l yX8_forget wsX8_forget rmX8_forget (dC, dI) vwCl (pb_tys cyB cyI cyJ cyZ cyS) pb_NW [.ref a_t] (wwX8_forget cyB cyI cyJ cyZ cyS a_t a_t_w a_t_isKept a_t_text a_t_refused a_t_numbers a_t_weights c_t_texted c_t_above c_t_below c_t_at c_t_start c_t_isWord c_t_isFigures c_t_all c_t_known c_t_truth c_t_x c_t_h c_t_w) (wwX8_forget cyB cyI cyJ cyZ cyS a_t a_t_w a_t_isKept a_t_text a_t_refused a_t_numbers a_t_weights c_t_texted c_t_above c_t_below c_t_at c_t_start c_t_isWord c_t_isFigures c_t_all c_t_known c_t_truth c_t_x c_t_h out.2) (some (.int out.1)) := by
  unfold fX8_forget at hf
  refine pb_K.ofV (cc := cX8_forget) (maxL := 2) (ret := (some .int)) (lv0 := [(0, .ref a_t)]) (by decide) rfl (Nat.le_of_ble_eq_true rfl) rfl ?_
  intro p e s m below meth c A C hX hr hlk hA
  refine pb_aload_n (pc := 0) C dX8_forget_0 rfl 0 rfl ?_
  refine pb_get (pc := 1) C hnX8_forget_X8 0 rfl rfl 0 (by decide) (List.mem_of_getElem? (i := 1) rfl) rfl rfl dX8_forget_1 ?_
  refine pb_iconst (v := 3) (pc := 4) C dX8_forget_4 pb_kI_3 ?_
  refine pb_iald (pc := 5) C 1 1 rfl rfl pb_ok_3_1508 dX8_forget_5 ?_
  refine pb_topi (congrArg c_t_w pb_kN_3) ?_
  obtain ⟨x6, ex6, hf⟩ := pb_bind hf
  have ex6 := Option.some.inj ex6
  refine pb_topi ex6 ?_
  refine pb_istore_n (lv' := [(1, .int x6), (0, .ref a_t)]) (pc := 6) C dX8_forget_6 rfl (by decide) rfl ?_
  refine pb_aload_n (pc := 7) C dX8_forget_7 rfl 1 rfl ?_
  refine pb_get (pc := 8) C hnX8_forget_X8 0 rfl rfl 0 (by decide) (List.mem_of_getElem? (i := 1) rfl) rfl rfl dX8_forget_8 ?_
  refine pb_iconst (v := 3) (pc := 11) C dX8_forget_11 pb_kI_3 ?_
  refine pb_iconst (v := 0) (pc := 12) C dX8_forget_12 pb_kI_0 ?_
  obtain ⟨u13, eu13, hf⟩ := pb_bind hf
  have eu13 := Option.some.inj eu13
  refine pb_iast (pc := 13) (ws' := (wwX8_forget cyB cyI cyJ cyZ cyS a_t a_t_w a_t_isKept a_t_text a_t_refused a_t_numbers a_t_weights c_t_texted c_t_above c_t_below c_t_at c_t_start c_t_isWord c_t_isFigures c_t_all c_t_known c_t_truth c_t_x c_t_h u13)) C 1 1 rfl rfl pb_ok_3_1508 ((congrArg (fun k => upd c_t_w k 0) pb_kN_3).trans eu13) rfl dX8_forget_13 ?_
  refine pb_iload_n (pc := 14) C dX8_forget_14 rfl 0 rfl ?_
  obtain rfl := Option.some.inj hf
  exact pb_iret (pc := 15) C hr hlk hA dX8_forget_15
